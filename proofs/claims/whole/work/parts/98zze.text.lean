/-! TEXTS: clause behind clause; the tape. -/
theorem tkd_b {b : Nat → Nat} {n p : Nat} (hb : ∀ i, b i < 256) : tkd b n p ≤ 41 ∧ (p < n → tkd b n p ≠ 40) ∧ (n ≤ p → tkd b n p = 40) := by
  by_cases q : n ≤ p
  · have e : tkd b n p = 40 := if_pos q
    exact ⟨by omega, fun z => by omega, fun _ => e⟩
  · have e := tkd_in (b := b) (show p < n by omega)
    rw [e]
    refine ⟨?_, fun _ => ?_, fun z => absurd z q⟩
    · have w := wkind_b (seg b p (sc b isLb n p - p))
      have s := (sgk_b ⟨b p, hb p⟩).2.1
      simp only at s
      repeat' split
      all_goals omega
    · have w := wkind_b (seg b p (sc b isLb n p - p))
      have s := (sgk_b ⟨b p, hb p⟩).2.2.2.1
      simp only at s
      repeat' split
      all_goals omega
theorem tnm_b {b : Nat → Nat} {n p : Nat} : tnm b n p ≤ 10000 := by
  unfold tnm
  have := num_rel (b := b) (n - p) p 0 0 (Or.inl ⟨by decide, rfl⟩) (by decide)
  repeat' split
  all_goals omega
theorem TS_of {b : Nat → Nat} {n t : Nat} (hb : ∀ i, b i < 256) (ht : t ≤ 300) (h1 : plc b n t = n) (h2 : ∀ j, j < t → plc b n j < n) : TS (Kst b n (t + 1) 0) := by
  refine ⟨by show 1 ≤ t + 1; omega, by show t + 1 ≤ 301; omega, ?_, fun j hj => ?_, fun j => ?_, fun j => ?_, Or.inl rfl⟩
  · show ((tkd b n (plc b n (t + 1 - 1)) : Nat) : Int) = 40
    rw [show t + 1 - 1 = t by omega, (tkd_b hb).2.2 (by omega)]
    rfl
  · have hj : j + 1 < t + 1 := hj
    show ((tkd b n (plc b n j) : Nat) : Int) ≠ 40
    have := (tkd_b (n := n) (p := plc b n j) hb).2.1 (h2 j (by omega))
    omega
  · show 0 ≤ ((tkd b n (plc b n j) : Nat) : Int) ∧ ((tkd b n (plc b n j) : Nat) : Int) ≤ 41
    have := (tkd_b (n := n) (p := plc b n j) hb).1
    omega
  · show 0 ≤ ((tnm b n (plc b n j) : Nat) : Int) ∧ ((tnm b n (plc b n j) : Nat) : Int) ≤ 10000
    have := tnm_b (b := b) (n := n) (p := plc b n j)
    omega
def TOUT (b : Nat → Nat) (n nt N : Nat) (S : St) (i fuel : Nat) (CL : List (Int × Int × Int)) (em et : Sem) : Prop :=
  (∃ (S' : St) (j : Nat) (CL' : List (Int × Int × Int)) (em' et' : Sem), f_X1_readTape_b66 N fuel 1 (jj (CL.length : Int)) S = f_X1_readTape_b96 N 1 S' ∧ CBD (Kst b n nt 0) S' j CL' em' et' ∧ CFR S S' ∧ ∀ R D L g, nt - i < g → RBD b n L R i CL D em et → ∃ R' D', f_X10_readText_b43 N g R = some (0, R') ∧ RBD b n L R' j CL' D' em' et' ∧ FX TFX R R' ∧ ∀ k, k < 681 * L → gI R' 1002 0 k = gI R 1002 0 k) ∨
  (∃ (S' : St) (f : Int) (j : Nat), f_X1_readTape_b66 N fuel 1 (jj (CL.length : Int)) S = f_X1_readTape_b96 N 0 S' ∧ FLD (Kst b n nt 0) S' f j ∧ CFR S S' ∧ ∀ R D L g, nt - i < g → RBD b n L R i CL D em et → ∃ R', f_X10_readText_b43 N g R = some (jj f, R') ∧ TRR b n R' j ∧ FX TFX R R' ∧ ∀ k, k < 681 * L → gI R' 1002 0 k = gI R 1002 0 k)
theorem t_loop {b : Nat → Nat} {n nt N : Nat} (hN : 4000 < N) (hT : TS (Kst b n nt 0)) : ∀ (m i fuel : Nat) (S : St) (CL : List (Int × Int × Int)) (em et : Sem), nt - i ≤ m → fuel + CL.length = 26 → CBD (Kst b n nt 0) S i CL em et → TOUT b n nt N S i fuel CL em et := by
  intro m
  induction m with
  | zero =>
    intro i fuel S CL em et hm hf hC
    have : i < nt := hC.1.2.1
    omega
  | succ m ih =>
    intro i fuel S CL em et hm hf hC
    have hi : i < nt := hC.1.2.1
    have hl := hC.2.2.1
    have kb := hT.2.2.2.2.1 i
    obtain ⟨fuel, rfl⟩ : ∃ f', fuel = f' + 1 := ⟨fuel - 1, by omega⟩
    have e40 : (jj ((Kst b n nt 0).1 i) = (40 : Int32)) = ((Kst b n nt 0).1 i = 40) := jj_eq (b := 40) (by omega) (by omega) (by decide) (by decide)
    have l24 : ¬ (24 : Int32) < jj (CL.length : Int) := by rw [show (24 : Int32) = jj 24 from rfl, jj_lt (by decide) (by decide) (by omega) (by omega)]; omega
    have K1 : (Kst b n nt 0).1 i = ((tkd b n (plc b n i) : Nat) : Int) := rfl
    unfold TOUT
    rw [f_X1_readTape_b66, if_neg l24, if_neg (show ¬ (1 : Int32) = 0 by decide), hC.1.2.2.2]
    by_cases q : (Kst b n nt 0).1 i = 40
    · rw [if_pos (e40.mpr q)]
      refine Or.inl ⟨S, i, CL, em, et, rfl, hC, CFR_refl S, fun R D L g hg hB => ?_⟩
      obtain ⟨g, rfl⟩ : ∃ g', g = g' + 1 := ⟨g - 1, by omega⟩
      have e0 := is_k hB.1 40 0 (by decide) (by decide) rfl
      refine ⟨R, D, ?_, hB, FX_refl _ _, fun _ _ => rfl⟩
      rw [f_X10_readText_b43, if_pos (e0.mpr (by rw [K1] at q; omega))]
    · rw [if_neg (fun z => q (e40.mp z))]
      have rstep : ∀ R D L g, RBD b n L R i CL D em et → f_X10_readText_b43 N (g + 1) R = (bnd (f_X10_clause N R) fun q9 => if q9.1 = (0 : Int32) then (f_X10_readText_b43 N g q9.2) else (some (q9.1, q9.2))) := fun R D L g hB => by
        have e0 := is_k hB.1 40 0 (by decide) (by decide) rfl
        rw [f_X10_readText_b43, if_neg (fun z => q (by have := e0.mp z; rw [K1]; omega))]
      rcases t_clause hN hT hC q with ⟨S1, j, c, em1, et1, e1, C1, ij, X1, ref⟩ | ⟨S1, f, j, e1, fl, X1, ref⟩
      · rw [bnd_of e1]
        simp only [lt]
        rw [up9]
        have len : (CL ++ [c]).length = CL.length + 1 := by simp
        have t := ih j fuel S1 (CL ++ [c]) em1 et1 (by omega) (by rw [len]; omega) C1
        unfold TOUT at t
        rw [len] at t
        rcases t with ⟨S2, j2, CL2, em2, et2, e2, C2, X2, ref2⟩ | ⟨S2, f, j2, e2, fl, X2, ref2⟩
        · refine Or.inl ⟨S2, j2, CL2, em2, et2, e2, C2, CFR_trans X1 X2, fun R D L g hg hB => ?_⟩
          obtain ⟨g, rfl⟩ : ∃ g', g = g' + 1 := ⟨g - 1, by omega⟩
          obtain ⟨R1, D1, r1, r2, r3, r4⟩ := ref R D L hB
          obtain ⟨R2, D2, p1, p2, p3, p4⟩ := ref2 R1 D1 L g (by omega) r2
          exact ⟨R2, D2, by rw [rstep R D L g hB, bnd_of r1, if_pos rfl]; exact p1, p2, FX_trans r3 p3, fun k hk => (p4 k hk).trans (r4 k hk)⟩
        · refine Or.inr ⟨S2, f, j2, e2, fl, CFR_trans X1 X2, fun R D L g hg hB => ?_⟩
          obtain ⟨g, rfl⟩ : ∃ g', g = g' + 1 := ⟨g - 1, by omega⟩
          obtain ⟨R1, D1, r1, r2, r3, r4⟩ := ref R D L hB
          obtain ⟨R2, p1, p2, p3, p4⟩ := ref2 R1 D1 L g (by omega) r2
          exact ⟨R2, by rw [rstep R D L g hB, bnd_of r1, if_pos rfl]; exact p1, p2, FX_trans r3 p3, fun k hk => (p4 k hk).trans (r4 k hk)⟩
      · rw [bnd_of e1]
        simp only [lt]
        obtain ⟨fuel, rfl⟩ : ∃ f', fuel = f' + 1 := ⟨fuel - 1, by omega⟩
        have e2 : f_X1_readTape_b66 N (fuel + 1) 0 (jj (CL.length : Int) + 1) S1 = f_X1_readTape_b96 N 0 S1 := by
          rw [f_X1_readTape_b66]
          by_cases z : (24 : Int32) < jj (CL.length : Int) + 1
          · rw [if_pos z]
          · rw [if_neg z, if_pos rfl]
        have fb := fl.2.2.2
        refine Or.inr ⟨S1, f, j, e2, fl, X1, fun R D L g hg hB => ?_⟩
        obtain ⟨g, rfl⟩ : ∃ g', g = g' + 1 := ⟨g - 1, by omega⟩
        obtain ⟨R1, r1, r2, r3, r4⟩ := ref R D L hB
        refine ⟨R1, ?_, r2, r3, r4⟩
        rw [rstep R D L g hB, bnd_of r1]
        show (if jj f = (0 : Int32) then _ else _) = _
        rw [if_neg (show ¬ jj f = (0 : Int32) by rw [show (0 : Int32) = jj 0 from rfl, jj_eq (by omega) (by omega) (by decide) (by decide)]; omega)]
/-- fields of the class that reading a tape touches -/
def RTF (f _j : Nat) : Prop := (101 ≤ f ∧ f ≤ 111) ∨ (501 ≤ f ∧ f ≤ 505)
def CFT (S S' : St) : Prop := (∀ f j i, ¬ RTF f j → gI S' f j i = gI S f j i) ∧ (∀ f j i, ¬ RTF f j → gL S' f j i = gL S f j i) ∧ (∀ f j i, ¬ RTF f j → gR S' f j i = gR S f j i) ∧ EXD S S'
theorem CFT_trans {S S1 S2 : St} (h : CFT S S1) (h2 : CFT S1 S2) : CFT S S2 := ⟨fun f j i q => (h2.1 f j i q).trans (h.1 f j i q), fun f j i q => (h2.2.1 f j i q).trans (h.2.1 f j i q), fun f j i q => (h2.2.2.1 f j i q).trans (h.2.2.1 f j i q), EXD_trans h.2.2.2 h2.2.2.2⟩
theorem CFT_FX {P : Nat → Nat → Prop} {S S1 : St} (h : FX P S S1) (p : ∀ f j, P f j → RTF f j) : CFT S S1 := ⟨fun f j i q => h.1 f j i (fun z => q (p f j z)), fun f j i q => h.2.1 f j i (fun z => q (p f j z)), fun f j i q => h.2.2.1 f j i (fun z => q (p f j z)), EXD_FX h⟩
theorem CFT_CFR {S S1 : St} (h : CFR S S1) : CFT S S1 := ⟨fun f j i q => h.1 f j i (fun z => q (by unfold RTF; omega)), fun f j i q => h.2.1 f j i (fun z => q (by unfold RTF; omega)), fun f j i q => h.2.2.1 f j i (fun z => q (by unfold RTF; omega)), h.2.2.2⟩
theorem CFT_sD (S : St) (e : (Nat × (Nat → Int32)) ⊕ (Nat × Nat × Nat)) : CFT S (sD S e) := ⟨fun _ _ _ _ => rfl, fun _ _ _ _ => rfl, fun _ _ _ _ => rfl, EXD_sD S e⟩
/-- the text that has been read, as the class keeps it -/
def TXT (S : St) (x : Nat) (CL : List (Int × Int × Int)) (em et : Sem) : Prop := ∃ (q : Nat × Nat × Nat) (fc : Nat → Int32), gT S x = some q ∧ gA S q.1 = some (3 * CL.length, fc) ∧ CL.length ≤ 24 ∧ (∀ (k : Nat) (c : Int × Int × Int), CL[k]? = some c → fc (3 * k) = jj c.1 ∧ fc (3 * k + 1) = jj c.2.1 ∧ fc (3 * k + 2) = jj c.2.2) ∧ (∀ c ∈ CL, 0 ≤ c.1 ∧ c.1 ≤ 9 ∧ 0 ≤ c.2.1 ∧ c.2.1 ≤ (if c.1 = 9 then 60 else 9999) ∧ 0 ≤ c.2.2 ∧ c.2.2 ≤ 9999) ∧ EVX 8 S q.2.1 em ∧ EVX 4 S q.2.2 et
theorem b96_ok {K : Ks} {N j : Nat} {S : St} {CL : List (Int × Int × Int)} {em et : Sem} (hC : CBD K S j CL em et) : ∃ (S' : St) (x : Nat), f_X1_readTape_b96 N 1 S = some (x, S') ∧ x ≠ 0 ∧ x < gZ S' + 2 ∧ gZ S + 2 ≤ x ∧ TXT S' x CL em et ∧ CFT S S' ∧ gI S' 501 0 0 = 0 ∧ gI S' 102 0 0 = 0 ∧ gI S' 103 0 0 = -1 ∧ gI S' 101 0 0 = gI S 101 0 0 := by
  obtain ⟨g1, g2, g3, g4, g5, g6, g7, g8, g9, g10⟩ := hC
  have F1 : FX (fun f _ => f = 501) S (sI S 501 0 0 0) := FX_sI (FX_refl _ _) rfl
  have z1 : gZ (sI S 501 0 0 0) = gZ S := rfl
  have m1 : (3 : Int32) * jj (CL.length : Int) = jj ((3 * CL.length : Nat) : Int) := by rw [show (3 : Int32) = jj 3 from rfl, jj_mul]; congr 1
  have un : f_X1_readTape_b96 N 1 S = some (gZ S + 2, sD (sD (sI S 501 0 0 0) (.inr (gZ S + 3, gR S 110 0 0, gR S 111 0 0))) (.inl (3 * CL.length, fun i => gI S 106 0 i))) := by
    unfold f_X1_readTape_b96
    simp only [lt]
    rw [if_neg (show ¬ (1 : Int32) = 0 by decide), show gI (sI S 501 0 0 0) 107 0 0 = jj (CL.length : Int) from g2, m1, chk_true (jj_inb (by omega) (by omega) (by omega)), jj_nat (by omega) (by omega), Int.toNat_natCast]
    rfl
  refine ⟨_, _, un, by omega, ?_, Nat.le_refl _, ?_, ?_, rfl, g8, g9, rfl⟩
  · show gZ S + 2 < gZ S + 1 + 1 + 2
    omega
  · have X : EXD S (sD (sD (sI S 501 0 0 0) (.inr (gZ S + 3, gR S 110 0 0, gR S 111 0 0))) (.inl (3 * CL.length, fun i => gI S 106 0 i))) := EXD_trans (EXD_FX F1) (EXD_trans (EXD_sD _ _) (EXD_sD _ _))
    refine ⟨(gZ S + 3, gR S 110 0 0, gR S 111 0 0), fun i => gI S 106 0 i, ?_, ?_, g3, g4, g5, EVX_ext g10 X g6, EVX_ext g10 X g7⟩
    · unfold gT
      rw [if_neg (by omega), show gZ S + 2 - 2 = gZ S by omega]
      show (match (if gZ S = gZ S + 1 then some (Sum.inl (3 * CL.length, fun i => gI S 106 0 i)) else if gZ S = gZ S then some (Sum.inr (gZ S + 3, gR S 110 0 0, gR S 111 0 0)) else gD S (gZ S)) with | some (.inr a) => some a | _ => none) = _
      rw [if_neg (by omega), if_pos rfl]
    · unfold gA
      rw [if_neg (by omega)]
      show (match (if gZ S + 3 - 2 = gZ S + 1 then some (Sum.inl (3 * CL.length, fun i => gI S 106 0 i)) else if gZ S + 3 - 2 = gZ S then some (Sum.inr (gZ S + 3, gR S 110 0 0, gR S 111 0 0)) else gD S (gZ S + 3 - 2)) with | some (.inl a) => some a | _ => none) = _
      rw [if_pos (by omega)]
  · exact CFT_trans (CFT_FX F1 (fun f j z => by unfold RTF; omega)) (CFT_trans (CFT_sD _ _) (CFT_sD _ _))
/-- the whole tape -/
def RDT (b : Nat → Nat) (n N : Nat) (S : St) : Prop :=
  (∃ (S' : St) (x : Nat) (CL : List (Int × Int × Int)) (em et : Sem), f_X1_readTape N S = some (x, S') ∧ x ≠ 0 ∧ x < gZ S' + 2 ∧ gZ S + 2 ≤ x ∧ TXT S' x CL em et ∧ CFT S S' ∧ gI S' 501 0 0 = 0 ∧ gI S' 101 0 0 = 1 ∧ gI S' 102 0 0 = 0 ∧ gI S' 103 0 0 = -1 ∧ ∀ R (L : Nat), BYR R b n → gI R 1000 0 2 = jj (L : Int) → L < 4 → ∃ R' D' j, f_X10_readText N R = some (0, R') ∧ RBD b n L R' j CL D' em et ∧ D'.length ≤ 300 ∧ FX (fun f _ => f = 1002 ∨ (1007 ≤ f ∧ f ≤ 1019)) R R' ∧ ∀ k, k < 681 * L → gI R' 1002 0 k = gI R 1002 0 k) ∨
  (∃ (S' : St) (f : Int) (j : Nat), f_X1_readTape N S = some (0, S') ∧ 1 ≤ f ∧ f ≤ 6 ∧ CFT S S' ∧ gI S' 501 0 0 = 0 ∧ gI S' 101 0 0 = 1 ∧ gI S' 102 0 0 = jj f ∧ gI S' 103 0 0 = ii (plc b n j) ∧ ∀ R (L : Nat), BYR R b n → gI R 1000 0 2 = jj (L : Int) → L < 4 → ∃ R', f_X10_readText N R = some (jj f, R') ∧ gI R' 1008 0 0 = ii (plc b n j) ∧ FX (fun f _ => f = 1002 ∨ (1007 ≤ f ∧ f ≤ 1019)) R R' ∧ ∀ k, k < 681 * L → gI R' 1002 0 k = gI R 1002 0 k)
theorem t_tape {b : Nat → Nat} {n N : Nat} {S : St} (hN : 4000 < N) (hB : BYT S b n) (hd : DN S) : RDT b n N S := by
  have hb := hB.2.2.2
  have F6 : FX (fun f _ => 101 ≤ f ∧ f ≤ 111) S (sR (sR (sI (sI (sI (sI S 101 0 0 1) 102 0 0 0) 103 0 0 (-1)) 107 0 0 0) 110 0 0 1) 111 0 0 1) := FX_sR (FX_sR (FX_sI (FX_sI (FX_sI (FX_sI (FX_refl _ _) (by omega)) (by omega)) (by omega)) (by omega)) (by omega)) (by omega)
  have s1 : gI (sR (sR (sI (sI (sI (sI S 101 0 0 1) 102 0 0 0) 103 0 0 (-1)) 107 0 0 0) 110 0 0 1) 111 0 0 1) 101 0 0 = 1 := rfl
  have s2 : gI (sR (sR (sI (sI (sI (sI S 101 0 0 1) 102 0 0 0) 103 0 0 (-1)) 107 0 0 0) 110 0 0 1) 111 0 0 1) 102 0 0 = 0 := rfl
  have s3 : gI (sR (sR (sI (sI (sI (sI S 101 0 0 1) 102 0 0 0) 103 0 0 (-1)) 107 0 0 0) 110 0 0 1) 111 0 0 1) 103 0 0 = -1 := rfl
  have s7 : gI (sR (sR (sI (sI (sI (sI S 101 0 0 1) 102 0 0 0) 103 0 0 (-1)) 107 0 0 0) 110 0 0 1) 111 0 0 1) 107 0 0 = 0 := rfl
  have s10 : gR (sR (sR (sI (sI (sI (sI S 101 0 0 1) 102 0 0 0) 103 0 0 (-1)) 107 0 0 0) 110 0 0 1) 111 0 0 1) 110 0 0 = 1 := rfl
  have s11 : gR (sR (sR (sI (sI (sI (sI S 101 0 0 1) 102 0 0 0) 103 0 0 (-1)) 107 0 0 0) 110 0 0 1) 111 0 0 1) 111 0 0 = 1 := rfl
  have un : f_X1_readTape N S = bnd (f_X5_findTokens N (sR (sR (sI (sI (sI (sI S 101 0 0 1) 102 0 0 0) 103 0 0 (-1)) 107 0 0 0) 110 0 0 1) 111 0 0 1)) fun q7 => chk (inb (gI (sI q7 104 0 0 0) 104 0 0) 301) (f_X1_readTape_b66 N 26 (1 : Int32) (0 : Int32) (sI (sI q7 104 0 0 0) 105 0 0 (gI (sI q7 104 0 0 0) 502 0 (gI (sI q7 104 0 0 0) 104 0 0).toNatClampNeg))) := rfl
  generalize sR (sR (sI (sI (sI (sI S 101 0 0 1) 102 0 0 0) 103 0 0 (-1)) 107 0 0 0) 110 0 0 1) 111 0 0 1 = S6 at F6 s1 s2 s3 s7 s10 s11 un
  have hB6 : BYT S6 b n := ⟨(F6.1 501 0 0 (by omega)).trans hB.1, fun i hi => (F6.1 500 0 i (by omega)).trans (hB.2.1 i hi), hB.2.2⟩
  have F65 : FX TKP S6 (sI S6 505 0 0 0) := FX_sI (FX_refl _ _) (by unfold TKP; omega)
  obtain ⟨S7, t, e7, F7, t3, K7, p1, p2⟩ := x_findTokens (N := N) hN hB6 n 0 0 N (sI S6 505 0 0 0) (by omega) (by have := hB.2.2.1; omega) F65 ⟨by rw [gI_sI, if_pos ⟨rfl, rfl, rfl⟩]; rfl, fun j hj => by omega⟩ (Nat.le_refl _) rfl (fun j hj => by omega)
  have hT := TS_of hb t3 p1 p2
  have e7 : f_X5_findTokens N S6 = some S7 := e7
  have F9 : FX (fun f _ => f = 104 ∨ f = 105) S7 (sI (sI S7 104 0 0 0) 105 0 0 (jj ((tkd b n (plc b n 0) : Nat) : Int))) := FX_sI (FX_sI (FX_refl _ _) (Or.inl rfl)) (Or.inr rfl)
  have k0 : gI (sI S7 104 0 0 0) 502 0 0 = jj ((tkd b n (plc b n 0) : Nat) : Int) := by
    rw [gI_sI, if_neg (by omega), (K7.2 0 (by omega)).1, jj_iin]
  have un2 : f_X1_readTape N S = f_X1_readTape_b66 N 26 1 (jj ((([] : List (Int × Int × Int)).length : Nat) : Int)) (sI (sI S7 104 0 0 0) 105 0 0 (jj ((tkd b n (plc b n 0) : Nat) : Int))) := by
    rw [un, bnd_of e7, show gI (sI S7 104 0 0 0) 104 0 0 = 0 from by rw [gI_sI, if_pos ⟨rfl, rfl, rfl⟩], chk_true (show inb 0 301 = true by decide), show (0 : Int32).toNatClampNeg = 0 from rfl, k0]
    rfl
  have F69 : FX (fun f _ => (102 ≤ f ∧ f ≤ 105) ∨ (502 ≤ f ∧ f ≤ 505)) S6 (sI (sI S7 104 0 0 0) 105 0 0 (jj ((tkd b n (plc b n 0) : Nat) : Int))) := FX_trans (FX_sub F7 (fun f _ z => by unfold TKP at z; omega)) (FX_sub F9 (fun f _ z => by omega))
  have X69 : ∀ f, f ≠ 104 → f ≠ 105 → ¬ (502 ≤ f ∧ f ≤ 505) → ∀ j i, gI (sI (sI S7 104 0 0 0) 105 0 0 (jj ((tkd b n (plc b n 0) : Nat) : Int))) f j i = gI S6 f j i := fun f a c d j i => (F9.1 f j i (by omega)).trans (F7.1 f j i (by unfold TKP; omega))
  have g104 : gI (sI (sI S7 104 0 0 0) 105 0 0 (jj ((tkd b n (plc b n 0) : Nat) : Int))) 104 0 0 = jj ((0 : Nat) : Int) := by rw [gI_sI, if_neg (by omega), gI_sI, if_pos ⟨rfl, rfl, rfl⟩]; rfl
  have g105 : gI (sI (sI S7 104 0 0 0) 105 0 0 (jj ((tkd b n (plc b n 0) : Nat) : Int))) 105 0 0 = jj ((tkd b n (plc b n 0) : Nat) : Int) := by rw [gI_sI, if_pos ⟨rfl, rfl, rfl⟩]
  generalize hS9 : sI (sI S7 104 0 0 0) 105 0 0 (jj ((tkd b n (plc b n 0) : Nat) : Int)) = S9 at F9 un2 F69 X69 g104 g105
  have X09 : CFT S S9 := CFT_trans (CFT_FX F6 (fun f j z => by unfold RTF; omega)) (CFT_FX F69 (fun f j z => by unfold RTF; omega))
  have dn9 : DN S9 := X09.2.2.2.2.2 hd
  have C9 : CBD (Kst b n (t + 1) 0) S9 0 [] none none := by
    have ctk : CTK (Kst b n (t + 1) 0) S9 := by
      refine ⟨?_, fun j hj => ?_⟩
      · show gI S9 505 0 0 = jj ((t + 1 : Nat) : Int)
        rw [F9.1 505 0 0 (by omega), K7.1, jj_iin]
      · obtain ⟨a1, a2, a3⟩ := K7.2 j hj
        refine ⟨?_, ?_, ?_⟩
        · show gI S9 502 0 j = jj ((tkd b n (plc b n j) : Nat) : Int)
          rw [F9.1 502 0 j (by omega), a1, jj_iin]
        · show gI S9 503 0 j = jj ((plc b n j : Nat) : Int)
          rw [F9.1 503 0 j (by omega), a2, jj_iin]
        · show gI S9 504 0 j = jj ((tnm b n (plc b n j) : Nat) : Int)
          rw [F9.1 504 0 j (by omega), a3, jj_iin]
    refine ⟨⟨ctk, by show 0 < t + 1; omega, g104, g105⟩, (X69 107 (by omega) (by omega) (by omega) 0 0).trans s7, by decide, fun k c hc => absurd hc (by simp), fun c hc => absurd hc List.not_mem_nil, ?_, ?_, (X69 102 (by omega) (by omega) (by omega) 0 0).trans s2, (X69 103 (by omega) (by omega) (by omega) 0 0).trans s3, dn9⟩
    · show gN S9 (gR S9 110 0 0) = some 0
      rw [F69.2.2.1 110 0 0 (by omega), s10]
      rfl
    · show gN S9 (gR S9 111 0 0) = some 0
      rw [F69.2.2.1 111 0 0 (by omega), s11]
      rfl
  have h101 : gI S9 101 0 0 = 1 := (X69 101 (by omega) (by omega) (by omega) 0 0).trans s1
  -- how the reference begins
  have rb : ∀ R (L : Nat), BYR R b n → gI R 1000 0 2 = jj (L : Int) → L < 4 → ∃ R8, f_X10_readText N R = f_X10_readText_b43 N N R8 ∧ RBD b n L R8 0 [] [] none none ∧ FX (fun f _ => f = 1002 ∨ (1007 ≤ f ∧ f ≤ 1019)) R R8 ∧ ∀ k, k < 681 * L → gI R8 1002 0 k = gI R 1002 0 k := by
    intro R L hR h2 hL
    have m1 : (681 : Int32) * jj (L : Int) = jj ((681 * L : Nat) : Int) := by rw [show (681 : Int32) = jj 681 from rfl, jj_mul]; congr 1
    have F7' : FX (fun f _ => f = 1002 ∨ f = 1012 ∨ f = 1013 ∨ f = 1019 ∨ f = 1007) R (sI (sI (sI (sI (sI R 1012 0 0 (jj ((681 * L : Nat) : Int))) 1002 0 (681 * L) 0) 1013 0 0 0) 1019 0 0 0) 1007 0 0 0) := FX_sI (FX_sI (FX_sI (FX_sI (FX_sI (FX_refl _ _) (by omega)) (by omega)) (by omega)) (by omega)) (by omega)
    have q12 : gI (sI (sI (sI (sI (sI R 1012 0 0 (jj ((681 * L : Nat) : Int))) 1002 0 (681 * L) 0) 1013 0 0 0) 1019 0 0 0) 1007 0 0 0) 1012 0 0 = jj ((681 * L : Nat) : Int) := by rw [gI_sI, if_neg (by omega), gI_sI, if_neg (by omega), gI_sI, if_neg (by omega), gI_sI, if_neg (by omega), gI_sI, if_pos ⟨rfl, rfl, rfl⟩]
    have q13 : gI (sI (sI (sI (sI (sI R 1012 0 0 (jj ((681 * L : Nat) : Int))) 1002 0 (681 * L) 0) 1013 0 0 0) 1019 0 0 0) 1007 0 0 0) 1013 0 0 = jj 0 := by rw [gI_sI, if_neg (by omega), gI_sI, if_neg (by omega), gI_sI, if_pos ⟨rfl, rfl, rfl⟩]; rfl
    have q19 : gI (sI (sI (sI (sI (sI R 1012 0 0 (jj ((681 * L : Nat) : Int))) 1002 0 (681 * L) 0) 1013 0 0 0) 1019 0 0 0) 1007 0 0 0) 1019 0 0 = jj 0 := by rw [gI_sI, if_neg (by omega), gI_sI, if_pos ⟨rfl, rfl, rfl⟩]; rfl
    have q7 : gI (sI (sI (sI (sI (sI R 1012 0 0 (jj ((681 * L : Nat) : Int))) 1002 0 (681 * L) 0) 1013 0 0 0) 1019 0 0 0) 1007 0 0 0) 1007 0 0 = ii (enp b n 0) := by rw [gI_sI, if_pos ⟨rfl, rfl, rfl⟩]; rfl
    have q2 : gI (sI (sI (sI (sI (sI R 1012 0 0 (jj ((681 * L : Nat) : Int))) 1002 0 (681 * L) 0) 1013 0 0 0) 1019 0 0 0) 1007 0 0 0) 1002 0 (681 * L) = jj 0 := by rw [gI_sI, if_neg (by omega), gI_sI, if_neg (by omega), gI_sI, if_neg (by omega), gI_sI, if_pos ⟨rfl, rfl, rfl⟩]; rfl
    have q2' : ∀ k, k ≠ 681 * L → gI (sI (sI (sI (sI (sI R 1012 0 0 (jj ((681 * L : Nat) : Int))) 1002 0 (681 * L) 0) 1013 0 0 0) 1019 0 0 0) 1007 0 0 0) 1002 0 k = gI R 1002 0 k := fun k hk => by rw [gI_sI, if_neg (by omega), gI_sI, if_neg (by omega), gI_sI, if_neg (by omega), gI_sI, if_neg (by omega), gI_sI, if_neg (by omega)]
    have unR : f_X10_readText N R = bnd (f_X10_nextToken N (sI (sI (sI (sI (sI R 1012 0 0 (jj ((681 * L : Nat) : Int))) 1002 0 (681 * L) 0) 1013 0 0 0) 1019 0 0 0) 1007 0 0 0)) fun q8 => f_X10_readText_b43 N N q8 := by
      unfold f_X10_readText
      simp only [lt]
      rw [h2, m1, show gI (sI R 1012 0 0 (jj ((681 * L : Nat) : Int))) 1012 0 0 = jj ((681 * L : Nat) : Int) from by rw [gI_sI, if_pos ⟨rfl, rfl, rfl⟩], chk_true (jj_inb (by omega) (by omega) (by omega)), jj_nat (by omega) (by omega), Int.toNat_natCast]
    rw [unR]
    generalize sI (sI (sI (sI (sI R 1012 0 0 (jj ((681 * L : Nat) : Int))) 1002 0 (681 * L) 0) 1013 0 0 0) 1019 0 0 0) 1007 0 0 0 = R7 at F7' q12 q13 q19 q7 q2 q2'
    obtain ⟨R8, e8, T8, F8⟩ := x_next (i := 0) hN (BYR_FX F7' (by omega) (by omega) hR) q7
    have n8 : ∀ f, ¬ (1007 ≤ f ∧ f ≤ 1011) → ∀ k, gI R8 f 0 k = gI R7 f 0 k := fun f hf k => F8.1 f 0 k (by unfold NXF; omega)
    refine ⟨R8, bnd_of e8 _, ⟨T8, (n8 1012 (by omega) 0).trans q12, (n8 1013 (by omega) 0).trans q13, fun k c hc => absurd hc (by simp), Nat.zero_le _, (n8 1002 (by omega) _).trans q2, fun k c hc => absurd hc (by simp), (n8 1019 (by omega) 0).trans q19, fun c hc => absurd hc List.not_mem_nil, fun c hc => absurd hc List.not_mem_nil, hL⟩, FX_trans (FX_sub F7' (fun f _ z => by omega)) (FX_sub F8 (fun f _ z => by unfold NXF at z; omega)), fun k hk => by rw [n8 1002 (by omega), q2' k (by omega)]⟩
  have t := t_loop (N := N) hN hT (t + 1) 0 26 S9 [] none none (by omega) (by simp) C9
  unfold TOUT at t
  unfold RDT
  rw [un2]
  rcases t with ⟨S', j, CL, em, et, e, C', X', ref⟩ | ⟨S', f, j, e, fl, X', ref⟩
  · left
    obtain ⟨S2, x, e2, x0, x1, x2, T2, X2, y1, y2, y3, y4⟩ := b96_ok (N := N) C'
    refine ⟨S2, x, CL, em, et, e.trans e2, x0, x1, Nat.le_trans (Nat.add_le_add_right (Nat.le_trans X09.2.2.2.1 X'.2.2.2.1) 2) x2, T2, CFT_trans X09 (CFT_trans (CFT_CFR X') X2), y1, (y4.trans (X'.1 101 0 0 (by omega))).trans h101, y2, y3, fun R L hR h2 hL => ?_⟩
    obtain ⟨R8, r1, r2, r3, r4⟩ := rb R L hR h2 hL
    obtain ⟨R9, D9, p1, p2, p3, p4⟩ := ref R8 [] L N (by omega) r2
    have jn : j < t + 1 := C'.1.2.1
    exact ⟨R9, D9, j, by rw [r1]; exact p1, p2, by have := p2.2.2.2.2.1; omega, FX_trans r3 (FX_sub p3 (fun f _ z => by unfold TFX at z; omega)), fun k hk => (p4 k hk).trans (r4 k hk)⟩
  · right
    have fb := fl.2.2.2
    have F1 : FX (fun f _ => f = 501) S' (sI S' 501 0 0 0) := FX_sI (FX_refl _ _) rfl
    refine ⟨sI S' 501 0 0 0, f, j, e.trans ?_, fb.1, fb.2, CFT_trans X09 (CFT_trans (CFT_CFR X') (CFT_FX F1 (fun f j z => by unfold RTF; omega))), rfl, ?_, ?_, ?_, fun R L hR h2 hL => ?_⟩
    · unfold f_X1_readTape_b96
      simp only [lt]
      rw [if_pos trivial]
    · rw [F1.1 101 0 0 (by omega), X'.1 101 0 0 (by omega)]; exact h101
    · rw [F1.1 102 0 0 (by omega)]; exact fl.1
    · rw [F1.1 103 0 0 (by omega), fl.2.1]
      show jj ((plc b n j : Nat) : Int) = _
      rw [jj_iin]
    · obtain ⟨R8, r1, r2, r3, r4⟩ := rb R L hR h2 hL
      obtain ⟨R9, p1, p2, p3, p4⟩ := ref R8 [] L N (by omega) r2
      exact ⟨R9, by rw [r1]; exact p1, p2.2.1, FX_trans r3 (FX_sub p3 (fun f _ z => by unfold TFX at z; omega)), fun k hk => (p4 k hk).trans (r4 k hk)⟩
