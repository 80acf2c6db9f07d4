/-! TEXTS: laws, read by both. -/
theorem TS_kd {b : Nat → Nat} {n nt : Nat} {k k' : Int} (h : TS (Kst b n nt k)) (hk : k' = 0 ∨ k' = 1) : TS (Kst b n nt k') := ⟨h.1, h.2.1, h.2.2.1, h.2.2.2.1, h.2.2.2.2.1, h.2.2.2.2.2.1, hk⟩
/-- what a call leaves as it was where new cells may have come -/
def EXD (S S' : St) : Prop := gZ S ≤ gZ S' ∧ (∀ n, n < gZ S → gD S' n = gD S n) ∧ ((∀ n, gZ S ≤ n → gD S n = none) → ∀ n, gZ S' ≤ n → gD S' n = none)
def CFR (S S' : St) : Prop := (∀ f j i, ¬ (102 ≤ f ∧ f ≤ 111) → gI S' f j i = gI S f j i) ∧ (∀ f j i, ¬ (102 ≤ f ∧ f ≤ 111) → gL S' f j i = gL S f j i) ∧ (∀ f j i, ¬ (102 ≤ f ∧ f ≤ 111) → gR S' f j i = gR S f j i) ∧ EXD S S'
theorem EXD_refl (S : St) : EXD S S := ⟨Nat.le_refl _, fun _ _ => rfl, fun h => h⟩
theorem EXD_trans {S S1 S2 : St} (h : EXD S S1) (h2 : EXD S1 S2) : EXD S S2 := ⟨Nat.le_trans h.1 h2.1, fun n hn => (h2.2.1 n (Nat.lt_of_lt_of_le hn h.1)).trans (h.2.1 n hn), fun z => h2.2.2 (h.2.2 z)⟩
theorem EXD_FX {P : Nat → Nat → Prop} {S S1 : St} (h : FX P S S1) : EXD S S1 := by
  have e1 : gZ S1 = gZ S := by unfold gZ; rw [h.2.2.2]
  have e2 : ∀ n, gD S1 n = gD S n := fun n => by unfold gD; rw [h.2.2.2]
  exact ⟨by rw [e1]; exact Nat.le_refl _, fun n _ => e2 n, fun z n hn => by rw [e2]; rw [e1] at hn; exact z n hn⟩
theorem EXD_sD (S : St) (e : (Nat × (Nat → Int32)) ⊕ (Nat × Nat × Nat)) : EXD S (sD S e) := by
  have g : ∀ n, gD (sD S e) n = if n = gZ S then some e else gD S n := fun n => rfl
  refine ⟨Nat.le_succ _, fun n hn => by rw [g, if_neg (by omega)], fun z n hn => ?_⟩
  have hn : gZ S + 1 ≤ n := hn
  rw [g, if_neg (by omega)]
  exact z n (by omega)
theorem CFR_refl (S : St) : CFR S S := ⟨fun _ _ _ _ => rfl, fun _ _ _ _ => rfl, fun _ _ _ _ => rfl, EXD_refl S⟩
theorem CFR_trans {S S1 S2 : St} (h : CFR S S1) (h2 : CFR S1 S2) : CFR S S2 := ⟨fun f j i q => (h2.1 f j i q).trans (h.1 f j i q), fun f j i q => (h2.2.1 f j i q).trans (h.2.1 f j i q), fun f j i q => (h2.2.2.1 f j i q).trans (h.2.2.1 f j i q), EXD_trans h.2.2.2 h2.2.2.2⟩
theorem CFR_FX {P : Nat → Nat → Prop} {S S1 : St} (h : FX P S S1) (p : ∀ f j, P f j → 102 ≤ f ∧ f ≤ 111) : CFR S S1 := ⟨fun f j i q => h.1 f j i (fun z => q (p f j z)), fun f j i q => h.2.1 f j i (fun z => q (p f j z)), fun f j i q => h.2.2.1 f j i (fun z => q (p f j z)), EXD_FX h⟩
def DN (S : St) : Prop := ∀ n, gZ S ≤ n → gD S n = none
theorem gA_ext {S S' : St} {x : Nat} {a : Nat × (Nat → Int32)} (hd : DN S) (h : EXD S S') (e : gA S x = some a) : gA S' x = some a := by
  unfold gA at e ⊢
  by_cases q : x < 2
  · rw [if_pos q] at e; exact absurd e (by simp)
  · rw [if_neg q] at e ⊢
    have : x - 2 < gZ S := by
      by_cases z : x - 2 < gZ S
      · exact z
      · rw [hd (x - 2) (by omega)] at e; exact absurd e (by simp)
    rw [h.2.1 _ this]
    exact e
theorem gT_ext {S S' : St} {x : Nat} {a : Nat × Nat × Nat} (hd : DN S) (h : EXD S S') (e : gT S x = some a) : gT S' x = some a := by
  unfold gT at e ⊢
  by_cases q : x < 2
  · rw [if_pos q] at e; exact absurd e (by simp)
  · rw [if_neg q] at e ⊢
    have : x - 2 < gZ S := by
      by_cases z : x - 2 < gZ S
      · exact z
      · rw [hd (x - 2) (by omega)] at e; exact absurd e (by simp)
    rw [h.2.1 _ this]
    exact e
theorem EVX_ext {m : Int} {S S' : St} {lw : Nat} {em : Sem} (hd : DN S) (h : EXD S S') (hE : EVX m S lw em) : EVX m S' lw em := by
  cases em with
  | none =>
    change gN S lw = some 0 at hE
    show gN S' lw = some 0
    unfold gN at hE ⊢
    by_cases q : lw = 1
    · rw [if_pos q]
    · rw [if_neg q] at hE ⊢
      cases ha : gA S lw with
      | none => rw [ha] at hE; exact absurd hE (by simp)
      | some a => rw [ha] at hE; rw [gA_ext hd h ha]; exact hE
  | some E =>
    obtain ⟨n, arr, h1, h2⟩ := hE
    exact ⟨n, arr, gA_ext hd h h1, h2⟩
/-- the reference's law of a clause, by the walk over lists -/
theorem g_law {b : Nat → Nat} {n nt N L i j x : Nat} {kd f : Int} {R : St} {D D' : List (Int × Int)} (hN : 4000 < N) (hL : L < 4) (hS : TS (Kst b n nt kd)) (hT : TRR b n R i) (hi : i < nt) (h12 : gI R 1012 0 0 = jj ((681 * L : Nat) : Int)) (h13 : gI R 1013 0 0 = jj (D.length : Int)) (hC : COD R L D) (h14 : gI R 1014 0 0 = jj kd) (hD : D.length ≤ i) (x0 : 681 * L < x) (x1 : x + 2 < 681 * L + 73) (he : itR (Kst b n nt kd) N ([], D, 0) 0 i = some (f, j, D')) : ∃ R', f_X10_lawClause N R (jj (x : Int)) = some (jj f, R') ∧ TRR b n R' j ∧ j < nt ∧ FX PFX R R' ∧ (∀ k, k < 681 * L + 73 → k ≠ x + 1 → k ≠ x + 2 → gI R' 1002 0 k = gI R 1002 0 k) ∧ (f = 0 → gI R' 1013 0 0 = jj (D'.length : Int) ∧ COD R' L D' ∧ D'.length ≤ j ∧ gI R' 1002 0 (x + 1) = jj (D.length : Int) ∧ gI R' 1002 0 (x + 2) = jj (D'.length : Int)) := by
  have nt1 : nt ≤ 301 := hS.2.1
  have F1 : FX (fun f _ => f = 1002) R (sI R 1002 0 (x + 1) (jj (D.length : Int))) := FX_sI (FX_refl _ _) rfl
  have F2 : FX (fun f _ => f = 1016 ∨ f = 1017 ∨ f = 1018) (sI R 1002 0 (x + 1) (jj (D.length : Int))) (sI (sI (sI (sI R 1002 0 (x + 1) (jj (D.length : Int))) 1016 0 0 0) 1017 0 0 0) 1018 0 0 0) := FX_sI (FX_sI (FX_sI (FX_refl _ _) (by omega)) (by omega)) (by omega)
  have F12 : FX PFX R (sI (sI (sI (sI R 1002 0 (x + 1) (jj (D.length : Int))) 1016 0 0 0) 1017 0 0 0) 1018 0 0 0) := FX_trans (FX_sub F1 (fun f _ z => by unfold PFX; omega)) (FX_sub F2 (fun f _ z => by unfold PFX; omega))
  have T2 : TRR b n (sI (sI (sI (sI R 1002 0 (x + 1) (jj (D.length : Int))) 1016 0 0 0) 1017 0 0 0) 1018 0 0 0) i := TRR_FX F2 (by omega) (by omega) (fun f a c => by omega) (TRR_FX F1 (by omega) (by omega) (fun f a c => by omega) hT)
  have P2 : RSP L kd (sI (sI (sI (sI R 1002 0 (x + 1) (jj (D.length : Int))) 1016 0 0 0) 1017 0 0 0) 1018 0 0 0) ([], D, 0) 0 := by
    refine ⟨?_, trivial, ?_, ?_, ?_, ?_, fun k c hc => ?_, ?_⟩
    · rw [gI_sI, if_neg (by omega), gI_sI, if_neg (by omega), gI_sI, if_pos ⟨rfl, rfl, rfl⟩]; rfl
    · rw [gI_sI, if_neg (by omega), gI_sI, if_pos ⟨rfl, rfl, rfl⟩]; rfl
    · rw [gI_sI, if_pos ⟨rfl, rfl, rfl⟩]; rfl
    · rw [F2.1 1013 0 0 (by omega), F1.1 1013 0 0 (by omega)]; exact h13
    · rw [F2.1 1012 0 0 (by omega), F1.1 1012 0 0 (by omega)]; exact h12
    · rw [F2.1 1002 0 _ (by omega), F2.1 1002 0 _ (by omega), gI_sI, if_neg (by omega), gI_sI, if_neg (by omega)]
      exact hC k c hc
    · rw [F2.1 1014 0 0 (by omega), F1.1 1014 0 0 (by omega)]; exact h14
  have at1 : gI (sI (sI (sI (sI R 1002 0 (x + 1) (jj (D.length : Int))) 1016 0 0 0) 1017 0 0 0) 1018 0 0 0) 1002 0 (x + 1) = jj (D.length : Int) := by
    rw [F2.1 1002 0 _ (by omega), gI_sI, if_pos ⟨rfl, rfl, rfl⟩]
  have ot1 : ∀ k, k ≠ x + 1 → gI (sI (sI (sI (sI R 1002 0 (x + 1) (jj (D.length : Int))) 1016 0 0 0) 1017 0 0 0) 1018 0 0 0) 1002 0 k = gI R 1002 0 k := fun k hk => by
    rw [F2.1 1002 0 _ (by omega), gI_sI, if_neg (by omega)]
  have ex1 : jj (x : Int) + (1 : Int32) = jj ((x + 1 : Nat) : Int) := jn_add x 1
  have ex2 : jj (x : Int) + (2 : Int32) = jj ((x + 2 : Nat) : Int) := jn_add x 2
  have un : f_X10_lawClause N R (jj (x : Int)) = bnd (f_X10_summed_b15 N N (sI (sI (sI (sI R 1002 0 (x + 1) (jj (D.length : Int))) 1016 0 0 0) 1017 0 0 0) 1018 0 0 0)) fun q3 => some (q3.1, sI q3.2 1002 0 (x + 2) (gI q3.2 1013 0 0)) := by
    unfold f_X10_lawClause f_X10_summed
    simp only [lt]
    rw [ex1, chk_true (jj_inb (by omega) (by omega) (by omega)), jj_nat (by omega) (by omega), Int.toNat_natCast, h13, ex2]
    congr 1
    funext q3
    rw [chk_true (jj_inb (by omega) (by omega) (by omega)), jj_nat (by omega) (by omega), Int.toNat_natCast]
  rw [un]
  generalize sI (sI (sI (sI R 1002 0 (x + 1) (jj (D.length : Int))) 1016 0 0 0) 1017 0 0 0) 1018 0 0 0 = R2 at F12 T2 P2 at1 ot1
  obtain ⟨R3, e3, T3, j3, O3, F3, c3⟩ := r_link hN hL hS N R2 ([], D, 0) 0 i f j D' P2 T2 (Or.inl rfl) (fun x hx => absurd hx List.not_mem_nil) (Nat.zero_le _) (by simp only [List.length_nil]; omega) hi (by show -(i : Int) ≤ 0 - ((0 : Nat) : Int); omega) (by show (0 : Int) ≤ i; omega) he
  rw [bnd_of e3]
  have F4 : FX (fun f _ => f = 1002) R3 (sI R3 1002 0 (x + 2) (gI R3 1013 0 0)) := FX_sI (FX_refl _ _) rfl
  refine ⟨_, rfl, TRR_FX F4 (by omega) (by omega) (fun f a c => by omega) T3, j3, FX_trans F12 (FX_trans F3 (FX_sub F4 (fun f _ z => by unfold PFX; omega))), fun k k1 k2 k3 => ?_, fun z => ?_⟩
  · show gI (sI R3 1002 0 (x + 2) (gI R3 1013 0 0)) 1002 0 k = gI R 1002 0 k
    rw [gI_sI, if_neg (by omega), O3 k k1, ot1 k k2]
  · obtain ⟨a1, a2, a3⟩ := c3 z
    refine ⟨?_, fun k c hc => ?_, a3, ?_, ?_⟩
    · show gI (sI R3 1002 0 (x + 2) (gI R3 1013 0 0)) 1013 0 0 = _
      rw [gI_sI, if_neg (by omega)]; exact a1
    · show gI (sI R3 1002 0 (x + 2) (gI R3 1013 0 0)) 1002 0 _ = _ ∧ gI (sI R3 1002 0 (x + 2) (gI R3 1013 0 0)) 1002 0 _ = _
      rw [gI_sI, if_neg (by omega), gI_sI, if_neg (by omega)]
      exact a2 k c hc
    · show gI (sI R3 1002 0 (x + 2) (gI R3 1013 0 0)) 1002 0 (x + 1) = _
      rw [gI_sI, if_neg (by omega), O3 (x + 1) (by omega)]; exact at1
    · show gI (sI R3 1002 0 (x + 2) (gI R3 1013 0 0)) 1002 0 (x + 2) = _
      rw [gI_sI, if_pos ⟨rfl, rfl, rfl⟩]; exact a1
/-- what the reference must bring along when a law begins -/
def RLB (b : Nat → Nat) (n L i x : Nat) (kd : Int) (R : St) (D : List (Int × Int)) : Prop := TRR b n R i ∧ gI R 1012 0 0 = jj ((681 * L : Nat) : Int) ∧ gI R 1013 0 0 = jj (D.length : Int) ∧ COD R L D ∧ gI R 1014 0 0 = jj kd ∧ D.length ≤ i ∧ 681 * L < x ∧ x + 2 < 681 * L + 73 ∧ L < 4
theorem l_law {b : Nat → Nat} {n nt N i : Nat} {kd : Int} {S : St} (hN : 4000 < N) (hkd : kd = 0 ∨ kd = 1) (hT : TS (Kst b n nt kd)) (hC : CT0 (Kst b n nt kd) S i) (hi : 1 ≤ i) :
    (∃ (S' : St) (j : Nat) (E : Sm), f_X1_readLaw N S (jj kd) = some (1, S') ∧ CT0 (Kst b n nt kd) S' j ∧ i < j ∧ CFR S S' ∧ (∀ f k, f = 102 ∨ f = 103 ∨ f = 106 ∨ f = 107 → gI S' f 0 k = gI S f 0 k) ∧ (kd = 0 → gR S' 111 0 0 = gR S 111 0 0 ∧ EVX 8 S' (gR S' 110 0 0) (some E)) ∧ (kd = 1 → gR S' 110 0 0 = gR S 110 0 0 ∧ EVX 4 S' (gR S' 111 0 0) (some E)) ∧ ∀ R D L x, RLB b n L i x kd R D → ∃ R' D1, f_X10_lawClause N R (jj (x : Int)) = some (0, R') ∧ TRR b n R' j ∧ FX PFX R R' ∧ (∀ k, k < 681 * L + 73 → k ≠ x + 1 → k ≠ x + 2 → gI R' 1002 0 k = gI R 1002 0 k) ∧ gI R' 1013 0 0 = jj ((D ++ D1).length : Int) ∧ COD R' L (D ++ D1) ∧ (D ++ D1).length ≤ j ∧ gI R' 1002 0 (x + 1) = jj (D.length : Int) ∧ gI R' 1002 0 (x + 2) = jj ((D ++ D1).length : Int) ∧ SM D1 E ∧ (∀ c ∈ D1, CV (if kd = 0 then 8 else 4) c) ∧ BV (if kd = 0 then 8 else 4) E) ∨
    (∃ (S' : St) (f : Int) (j : Nat), f_X1_readLaw N S (jj kd) = some (0, S') ∧ FLD (Kst b n nt kd) S' f j ∧ CFR S S' ∧ ∀ R D L x, RLB b n L i x kd R D → ∃ R', f_X10_lawClause N R (jj (x : Int)) = some (jj f, R') ∧ TRR b n R' j ∧ FX PFX R R' ∧ (∀ k, k < 681 * L + 73 → k ≠ x + 1 → k ≠ x + 2 → gI R' 1002 0 k = gI R 1002 0 k)) := by
  have nt1 : nt ≤ 301 := hT.2.1
  have F1 : FX (fun f _ => f = 109) S (sI S 109 0 0 0) := FX_sI (FX_refl _ _) rfl
  obtain ⟨hK, h1, h2, h3⟩ := hC
  have h1 : i < nt := h1
  have C1 : CT (Kst b n nt kd) (sI S 109 0 0 0) i 0 := ⟨CTK_of F1 (fun f a c => by omega) hK, h1, (F1.1 104 0 0 (by omega)).trans h2, (F1.1 105 0 0 (by omega)).trans h3, by rw [gI_sI, if_pos ⟨rfl, rfl, rfl⟩]; rfl⟩
  obtain ⟨⟨v, S2⟩, e2, out⟩ := x_sum (N := N) hT (by omega) C1 (by omega)
  have un : f_X1_readLaw N S (jj kd) = bnd (f_X1_sum N (sI S 109 0 0 0) (jj kd) 0) fun q2 => if q2.1 = (0 : Int32) then (some ((0 : Int32), q2.2)) else (chk (inb (gI q2.2 109 0 0) 301) (if jj kd = (0 : Int32) then some ((1 : Int32), sR (sD q2.2 (.inl ((gI q2.2 109 0 0).toNatClampNeg, fun i => gI q2.2 108 0 i))) 110 0 0 (gZ q2.2 + 2)) else some ((1 : Int32), sR (sD q2.2 (.inl ((gI q2.2 109 0 0).toNatClampNeg, fun i => gI q2.2 108 0 i))) 111 0 0 (gZ q2.2 + 2)))) := rfl
  have e2 : f_X1_sum N (sI S 109 0 0 0) (jj kd) 0 = some (v, S2) := e2
  rw [un, bnd_of e2]
  rcases out with ⟨v0, f, j, hfl, hrf⟩ | ⟨v1, j, q, E, hok, hbv, hro⟩
  · simp only at v0 hfl
    right
    refine ⟨S2, f, j, by rw [v0]; rfl, ⟨hfl.1, hfl.2.1, hfl.2.2.2.1, hfl.2.2.2.2.1, hfl.2.2.2.2.2.1⟩, CFR_trans (CFR_FX F1 (fun f j z => by omega)) (CFR_FX hfl.2.2.1 (fun f j z => by unfold CPF at z; omega)), fun R D L x hB => ?_⟩
    obtain ⟨b1, b2, b3, b4, b5, b6, b7, b8, b9⟩ := hB
    obtain ⟨hij, hn⟩ := hrf D
    have jn : j < nt := hfl.2.2.2.1
    obtain ⟨D', he⟩ := hn (N - 1 - (j - i))
    rw [show N - 1 - (j - i) + 1 + (j - i) = N by omega] at he
    obtain ⟨R', r1, r2, r3, r4, r5, r6⟩ := g_law hN b9 hT b1 h1 b2 b3 b4 b5 b6 b7 b8 he
    exact ⟨R', r1, r2, r4, r5⟩
  · simp only at v1 hok
    obtain ⟨C2, l2, pq2, le2, F2, bu2, sg2⟩ := id hok
    have jn : j < nt := C2.2.1
    have q0 : gI S2 109 0 0 = jj (q : Int) := C2.2.2.2.2
    left
    have m8 : mk8 (Kst b n nt kd) = if kd = 0 then 8 else 4 := rfl
    have gAn : ∀ S5 : St, S5.2.2.2 = (sD S2 (.inl (q, fun i => gI S2 108 0 i))).2.2.2 → gA S5 (gZ S2 + 2) = some (q, fun i => gI S2 108 0 i) := by
      intro S5 h5
      unfold gA
      rw [if_neg (by omega), show gZ S2 + 2 - 2 = gZ S2 by omega]
      unfold gD
      rw [h5]
      show (match (if gZ S2 = gZ S2 then some (Sum.inl (q, fun i => gI S2 108 0 i)) else gD S2 (gZ S2)) with | some (.inl a) => some a | _ => none) = _
      rw [if_pos rfl]
    have evx : ∀ S5 : St, S5.2.2.2 = (sD S2 (.inl (q, fun i => gI S2 108 0 i))).2.2.2 → EVX (if kd = 0 then 8 else 4) S5 (gZ S2 + 2) (some E) := fun S5 h5 => ⟨q, fun i => gI S2 108 0 i, gAn S5 h5, by omega, by omega, by rw [← m8]; exact SEG_EVA sg2 (by omega) (by decide) hbv⟩
    have F12 : FX (fun f _ => f = 104 ∨ f = 105 ∨ f = 108 ∨ f = 109) S S2 := FX_trans (FX_sub F1 (fun f _ z => by omega)) (FX_sub F2 (fun f _ z => by unfold CPG at z; omega))
    -- both ways end in a state S5
    have fin : ∀ (S5 : St) (fr : Nat), (fr = 110 ∨ fr = 111) → S5 = sR (sD S2 (.inl (q, fun i => gI S2 108 0 i))) fr 0 0 (gZ S2 + 2) → CT0 (Kst b n nt kd) S5 j ∧ CFR S S5 ∧ (∀ f k, f = 102 ∨ f = 103 ∨ f = 106 ∨ f = 107 → gI S5 f 0 k = gI S f 0 k) := by
      intro S5 fr hfr h5
      have i5 : ∀ f j i, gI S5 f j i = gI S2 f j i := fun f j i => by rw [h5]; rfl
      have l5 : ∀ f j i, gL S5 f j i = gL S2 f j i := fun f j i => by rw [h5]; rfl
      refine ⟨⟨⟨(i5 _ _ _).trans C2.1.1, fun k hk => by rw [i5, i5, i5]; exact C2.1.2 k hk⟩, C2.2.1, (i5 _ _ _).trans C2.2.2.1, (i5 _ _ _).trans C2.2.2.2.1⟩, ⟨fun f j i z => (i5 f j i).trans (F12.1 f j i (by omega)), fun f j i z => (l5 f j i).trans (F12.2.1 f j i (by omega)), fun f j i z => ?_, ?_⟩, fun f k z => (i5 f 0 k).trans (F12.1 f 0 k (by omega))⟩
      · rw [h5, gR_sR, if_neg (by omega)]
        exact F12.2.2.1 f j i (by omega)
      · rw [h5]
        exact EXD_trans (EXD_FX F12) (EXD_trans (EXD_sD S2 _) ⟨Nat.le_refl _, fun _ _ => rfl, fun h => h⟩)
    have ref : ∀ R D L x, RLB b n L i x kd R D → ∃ R' D1, f_X10_lawClause N R (jj (x : Int)) = some (0, R') ∧ TRR b n R' j ∧ FX PFX R R' ∧ (∀ k, k < 681 * L + 73 → k ≠ x + 1 → k ≠ x + 2 → gI R' 1002 0 k = gI R 1002 0 k) ∧ gI R' 1013 0 0 = jj ((D ++ D1).length : Int) ∧ COD R' L (D ++ D1) ∧ (D ++ D1).length ≤ j ∧ gI R' 1002 0 (x + 1) = jj (D.length : Int) ∧ gI R' 1002 0 (x + 2) = jj ((D ++ D1).length : Int) ∧ SM D1 E ∧ (∀ c ∈ D1, CV (if kd = 0 then 8 else 4) c) ∧ BV (if kd = 0 then 8 else 4) E := by
      intro R D L x hB
      obtain ⟨b1, b2, b3, b4, b5, b6, b7, b8, b9⟩ := hB
      obtain ⟨D1, m1, hn⟩ := hro D
      have he := hn (N - 1 - (j - i))
      rw [show N - 1 - (j - i) + 1 + (j - i) = N by omega] at he
      obtain ⟨R', r1, r2, r3, r4, r5, r6⟩ := g_law hN b9 hT b1 h1 b2 b3 b4 b5 b6 b7 b8 he
      obtain ⟨a1, a2, a3, a4, a5⟩ := r6 rfl
      obtain ⟨D2, e2', cv⟩ := itR_CV (K := Kst b n nt kd) (D0 := D) hT N ([], D, 0) 0 i 0 j (D ++ D1) ⟨[], by rw [List.append_nil], fun c hc => absurd hc List.not_mem_nil⟩ (fun x hx => absurd hx List.not_mem_nil) he
      have : D1 = D2 := List.append_cancel_left e2'
      subst this
      exact ⟨R', D1, r1, r2, r4, r5, a1, a2, a3, a4, a5, m1, by rw [← m8]; exact cv, by rw [← m8]; exact hbv⟩
    have nq : (gI S2 109 0 0).toNatClampNeg = q := by rw [q0, jj_nat (by omega) (by omega), Int.toNat_natCast]
    rw [v1]
    simp only
    rw [if_neg (show ¬ (1 : Int32) = 0 by decide), nq, q0, chk_true (jj_inb (by omega) (by omega) (by omega))]
    rcases hkd with z | z
    · rw [z, if_pos (show jj 0 = 0 from rfl)]
      rw [z] at evx fin ref
      obtain ⟨f1, f2, f3⟩ := fin _ 110 (Or.inl rfl) rfl
      refine ⟨_, j, E, rfl, f1, l2, f2, f3, fun _ => ⟨?_, ?_⟩, fun y => absurd y (by decide), ref⟩
      · rw [gR_sR, if_neg (by decide)]
        exact F12.2.2.1 111 0 0 (by omega)
      · rw [gR_sR, if_pos ⟨rfl, rfl, rfl⟩]
        exact evx _ rfl
    · rw [z, if_neg (show ¬ jj 1 = 0 by decide)]
      rw [z] at evx fin ref
      obtain ⟨f1, f2, f3⟩ := fin _ 111 (Or.inr rfl) rfl
      refine ⟨_, j, E, rfl, f1, l2, f2, f3, fun y => absurd y (by decide), fun _ => ⟨?_, ?_⟩, ref⟩
      · rw [gR_sR, if_neg (by decide)]
        exact F12.2.2.1 110 0 0 (by omega)
      · rw [gR_sR, if_pos ⟨rfl, rfl, rfl⟩]
        exact evx _ rfl
