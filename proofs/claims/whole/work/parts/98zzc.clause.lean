/-! TEXTS: a clause, read by both. -/
def CBD (K : Ks) (S : St) (i : Nat) (CL : List (Int × Int × Int)) (em et : Sem) : Prop := CT0 K S i ∧ gI S 107 0 0 = jj (CL.length : Int) ∧ CL.length ≤ 24 ∧ (∀ (k : Nat) (c : Int × Int × Int), CL[k]? = some c → gI S 106 0 (3 * k) = jj c.1 ∧ gI S 106 0 (3 * k + 1) = jj c.2.1 ∧ gI S 106 0 (3 * k + 2) = jj c.2.2) ∧ (∀ c ∈ CL, 0 ≤ c.1 ∧ c.1 ≤ 9 ∧ 0 ≤ c.2.1 ∧ c.2.1 ≤ (if c.1 = 9 then 60 else 9999) ∧ 0 ≤ c.2.2 ∧ c.2.2 ≤ 9999) ∧ EVX 8 S (gR S 110 0 0) em ∧ EVX 4 S (gR S 111 0 0) et ∧ gI S 102 0 0 = 0 ∧ gI S 103 0 0 = -1 ∧ DN S
def RCL (R : St) (L k : Nat) (c : Int × Int × Int) : Prop := gI R 1002 0 (681 * L + 1 + 3 * k) = jj c.1 ∧ (2 ≤ c.1 → c.1 ≠ 7 → gI R 1002 0 (681 * L + 1 + 3 * k + 1) = jj c.2.1) ∧ ((c.1 = 3 ∨ c.1 = 5 ∨ c.1 = 6 ∨ c.1 = 8) → gI R 1002 0 (681 * L + 1 + 3 * k + 2) = jj c.2.2)
def LWD (R : St) (L : Nat) (CL : List (Int × Int × Int)) (D : List (Int × Int)) (sort m : Int) (em : Sem) : Prop := match em with
  | none => ∀ c ∈ CL, c.1 ≠ sort
  | some E => ∃ (k : Nat) (D1 C D2 : List (Int × Int)) (c : Int × Int × Int), D = D1 ++ C ++ D2 ∧ CL[k]? = some c ∧ c.1 = sort ∧ (∀ (k' : Nat) (c' : Int × Int × Int), k' < k → CL[k']? = some c' → c'.1 ≠ sort) ∧ gI R 1002 0 (681 * L + 1 + 3 * k + 1) = jj (D1.length : Int) ∧ gI R 1002 0 (681 * L + 1 + 3 * k + 2) = jj ((D1.length + C.length : Nat) : Int) ∧ (∀ c ∈ C, CV m c) ∧ SM C E ∧ BV m E
def on1 (em : Sem) : Int := match em with
  | none => 0
  | some _ => 1
def RBD (b : Nat → Nat) (n L : Nat) (R : St) (i : Nat) (CL : List (Int × Int × Int)) (D : List (Int × Int)) (em et : Sem) : Prop := TRR b n R i ∧ gI R 1012 0 0 = jj ((681 * L : Nat) : Int) ∧ gI R 1013 0 0 = jj (D.length : Int) ∧ COD R L D ∧ D.length ≤ i ∧ gI R 1002 0 (681 * L) = jj (CL.length : Int) ∧ (∀ (k : Nat) (c : Int × Int × Int), CL[k]? = some c → RCL R L k c) ∧ gI R 1019 0 0 = jj (on1 em + 2 * on1 et) ∧ LWD R L CL D 0 8 em ∧ LWD R L CL D 1 4 et ∧ L < 4
def TFX (f _j : Nat) : Prop := f = 1002 ∨ (1007 ≤ f ∧ f ≤ 1011) ∨ (1013 ≤ f ∧ f ≤ 1019)
def srt (k : Nat) : Int := if k ≤ 9 then (k : Int) else -1
theorem l_sort {b : Nat → Nat} {n i : Nat} {R : St} (hT : TRR b n R i) : f_X10_sortOf R = some (jj (srt (tkd b n (plc b n i)))) := by
  have w0 := o_word hT (k := 0) (by decide) (by decide)
  have w1 := o_word hT (k := 1) (by decide) (by decide)
  have w2 := o_word hT (k := 2) (by decide) (by decide)
  have w3 := o_word hT (k := 3) (by decide) (by decide)
  have w4 := o_word hT (k := 4) (by decide) (by decide)
  have w5 := o_word hT (k := 5) (by decide) (by decide)
  have w6 := o_word hT (k := 6) (by decide) (by decide)
  have w7 := o_word hT (k := 7) (by decide) (by decide)
  have w8 := o_word hT (k := 8) (by decide) (by decide)
  have w9 := o_word hT (k := 9) (by decide) (by decide)
  generalize tkd b n (plc b n i) = k at *
  unfold f_X10_sortOf
  rw [bnd_of (cw_moves R), bnd_of w0]
  by_cases c0 : k = 0
  · rw [if_pos c0, if_neg (show ¬ (1 : Int32) = 0 by decide), c0]; rfl
  rw [if_neg c0, if_pos rfl, bnd_of (cw_tears R), bnd_of w1]
  by_cases c1 : k = 1
  · rw [if_pos c1, if_neg (show ¬ (1 : Int32) = 0 by decide), c1]; rfl
  rw [if_neg c1, if_pos rfl, bnd_of (cw_hand R), bnd_of w2]
  by_cases c2 : k = 2
  · rw [if_pos c2, if_neg (show ¬ (1 : Int32) = 0 by decide), c2]; rfl
  rw [if_neg c2, if_pos rfl, bnd_of (cw_dough R), bnd_of w3]
  by_cases c3 : k = 3
  · rw [if_pos c3, if_neg (show ¬ (1 : Int32) = 0 by decide), c3]; rfl
  rw [if_neg c3, if_pos rfl, bnd_of (cw_town R), bnd_of w4]
  by_cases c4 : k = 4
  · rw [if_pos c4, if_neg (show ¬ (1 : Int32) = 0 by decide), c4]; rfl
  rw [if_neg c4, if_pos rfl, bnd_of (cw_left R), bnd_of w5]
  by_cases c5 : k = 5
  · rw [if_pos c5, if_neg (show ¬ (1 : Int32) = 0 by decide), c5]; rfl
  rw [if_neg c5, if_pos rfl, bnd_of (cw_right R), bnd_of w6]
  by_cases c6 : k = 6
  · rw [if_pos c6, if_neg (show ¬ (1 : Int32) = 0 by decide), c6]; rfl
  rw [if_neg c6, if_pos rfl, bnd_of (cw_trim R), bnd_of w7]
  by_cases c7 : k = 7
  · rw [if_pos c7, if_neg (show ¬ (1 : Int32) = 0 by decide), c7]; rfl
  rw [if_neg c7, if_pos rfl, bnd_of (cw_patch R), bnd_of w8]
  by_cases c8 : k = 8
  · rw [if_pos c8, if_neg (show ¬ (1 : Int32) = 0 by decide), c8]; rfl
  rw [if_neg c8, if_pos rfl, bnd_of (cw_turn R), bnd_of w9]
  by_cases c9 : k = 9
  · rw [if_pos c9, if_neg (show ¬ (1 : Int32) = 0 by decide), c9]; rfl
  rw [if_neg c9, if_pos rfl, show srt k = -1 from if_neg (by omega)]
  rfl
theorem on1_b (em : Sem) : on1 em = 0 ∨ on1 em = 1 := by
  cases em with
  | none => exact Or.inl rfl
  | some E => exact Or.inr rfl
theorem q_has (S : St) {a c : Int} (ha : a = 0 ∨ a = 1) (hc : c = 0 ∨ c = 1) : f_X10_has S (jj (a + 2 * c)) (jj 0) = some (jj a) ∧ f_X10_has S (jj (a + 2 * c)) (jj 1) = some (jj c) := by
  have key : ∀ x : Fin 4, f_X10_has ((fun _ _ _ => 0, fun _ _ _ => 0, fun _ _ _ => 0, fun _ => none, 0) : St) (jj (x.val : Int)) (jj 0) = some (jj ((x.val % 2 : Nat) : Int)) ∧ f_X10_has ((fun _ _ _ => 0, fun _ _ _ => 0, fun _ _ _ => 0, fun _ => none, 0) : St) (jj (x.val : Int)) (jj 1) = some (jj ((x.val / 2 : Nat) : Int)) := by decide +kernel
  rcases ha with rfl | rfl <;> rcases hc with rfl | rfl
  · exact key 0
  · exact key 2
  · exact key 1
  · exact key 3
theorem q_once {a c : Int} (ha : a = 0 ∨ a = 1) (hc : c = 0 ∨ c = 1) : (a = 0 → jj (a + 2 * c) ||| ((1 : Int32) <<< (jj 0 &&& 31)) = jj (1 + 2 * c)) ∧ (c = 0 → jj (a + 2 * c) ||| ((1 : Int32) <<< (jj 1 &&& 31)) = jj (a + 2 * 1)) := by
  rcases ha with rfl | rfl <;> rcases hc with rfl | rfl <;> decide
/-- the law in a clause, after rows elsewhere have changed -/
theorem LWD_keep {R R1 : St} {L : Nat} {CL CL' : List (Int × Int × Int)} {D D' X : List (Int × Int)} {sort m : Int} {em : Sem} (h : LWD R L CL D sort m em) (hD : D' = D ++ X) (hC : ∀ (k : Nat) c, CL[k]? = some c → CL'[k]? = some c) (hl : CL'.length = CL.length ∨ (CL'.length = CL.length + 1 ∧ ∀ c, CL'[CL.length]? = some c → c.1 ≠ sort)) (hr : ∀ k, 681 * L < k → k < 681 * L + 1 + 3 * CL.length → gI R1 1002 0 k = gI R 1002 0 k) : LWD R1 L CL' D' sort m em := by
  cases em with
  | none =>
    intro c hc
    obtain ⟨k, hk⟩ := List.mem_iff_getElem?.mp hc
    by_cases z : k < CL.length
    · have : CL[k]? = some CL[k] := List.getElem?_eq_getElem z
      have e := hC k _ this
      rw [hk] at e
      rw [Option.some.inj e]
      exact h _ (List.getElem_mem z)
    · rcases hl with y | ⟨y1, y2⟩
      · rw [List.getElem?_eq_none (by omega)] at hk; exact absurd hk (by simp)
      · by_cases w : k = CL.length
        · rw [w] at hk; exact y2 c hk
        · rw [List.getElem?_eq_none (by omega)] at hk; exact absurd hk (by simp)
  | some E =>
    obtain ⟨k, D1, C, D2, c, h1, h2, h3, h4, h5, h6, h7, h8⟩ := h
    have kl : k < CL.length := by
      by_cases z : k < CL.length
      · exact z
      · rw [List.getElem?_eq_none (by omega)] at h2; exact absurd h2 (by simp)
    refine ⟨k, D1, C, D2 ++ X, c, by rw [hD, h1, List.append_assoc (D1 ++ C)], hC k c h2, h3, fun k' c' a e => ?_, by rw [hr _ (by omega) (by omega)]; exact h5, by rw [hr _ (by omega) (by omega)]; exact h6, h7, h8⟩
    have : CL[k']? = some CL[k'] := List.getElem?_eq_getElem (by omega)
    have e2 := hC k' _ this
    rw [e] at e2
    rw [Option.some.inj e2]
    exact h4 k' _ a this
def tlC (N : Nat) (q9 : Int32 × St) : Option (Int32 × St) :=
  if q9.1 = (0 : Int32) then (chk (inb (gI q9.2 1012 0 0) 2724) (chk (inb (gI q9.2 1012 0 0) 2724) (lt (sI q9.2 1002 0 ((gI q9.2 1012 0 0).toNatClampNeg) ((gI q9.2 1002 0 (gI q9.2 1012 0 0).toNatClampNeg) + (1 : Int32))) fun S12 => if (gI S12 1009 0 0) = (59 : Int32) then (bnd (f_X10_nextToken N S12 ) fun q13 => some ((0 : Int32), q13)) else (some ((1 : Int32), S12))))) else (some (q9.1, q9.2))
theorem g_post {b : Nat → Nat} {n N L j nc : Nat} {R : St} (hN : 4000 < N) (hL : L < 4) (hT : TRR b n R j) (h12 : gI R 1012 0 0 = jj ((681 * L : Nat) : Int)) (h0 : gI R 1002 0 (681 * L) = jj (nc : Int)) : (tkd b n (plc b n j) = 38 → ∃ R', tlC N (0, R) = some (0, R') ∧ TRR b n R' (j + 1) ∧ gI R' 1002 0 (681 * L) = jj ((nc + 1 : Nat) : Int) ∧ (∀ k, k ≠ 681 * L → gI R' 1002 0 k = gI R 1002 0 k) ∧ FX GFX R R') ∧ (tkd b n (plc b n j) ≠ 38 → ∃ R', tlC N (0, R) = some (1, R') ∧ TRR b n R' j ∧ (∀ k, k ≠ 681 * L → gI R' 1002 0 k = gI R 1002 0 k) ∧ FX GFX R R') := by
  have F1 : FX (fun f _ => f = 1002) R (sI R 1002 0 (681 * L) (jj ((nc + 1 : Nat) : Int))) := FX_sI (FX_refl _ _) rfl
  have T1 := TRR_FX F1 (by omega) (by omega) (fun f a c => by omega) hT
  have e59 := is_k T1 38 59 (by decide) (by decide) rfl
  have un : tlC N (0, R) = if gI (sI R 1002 0 (681 * L) (jj ((nc + 1 : Nat) : Int))) 1009 0 0 = (59 : Int32) then (bnd (f_X10_nextToken N (sI R 1002 0 (681 * L) (jj ((nc + 1 : Nat) : Int)))) fun q13 => some ((0 : Int32), q13)) else (some ((1 : Int32), sI R 1002 0 (681 * L) (jj ((nc + 1 : Nat) : Int)))) := by
    unfold tlC
    simp only [lt]
    rw [if_pos trivial, h12, chk_true (jj_inb (by omega) (by omega) (by omega)), chk_true (jj_inb (by omega) (by omega) (by omega)), jj_nat (by omega) (by omega), Int.toNat_natCast, h0, up9]
  have at0 : gI (sI R 1002 0 (681 * L) (jj ((nc + 1 : Nat) : Int))) 1002 0 (681 * L) = jj ((nc + 1 : Nat) : Int) := by rw [gI_sI, if_pos ⟨rfl, rfl, rfl⟩]
  have ot : ∀ k, k ≠ 681 * L → gI (sI R 1002 0 (681 * L) (jj ((nc + 1 : Nat) : Int))) 1002 0 k = gI R 1002 0 k := fun k hk => by rw [gI_sI, if_neg (by omega)]
  rw [un]
  generalize sI R 1002 0 (681 * L) (jj ((nc + 1 : Nat) : Int)) = R1 at F1 T1 e59 at0 ot
  refine ⟨fun q => ?_, fun q => ?_⟩
  · rw [if_pos (e59.mpr q)]
    obtain ⟨R2, e2, T2, F2⟩ := x_next hN T1.1 T1.2.2.1
    rw [bnd_of e2]
    have s2 : ∀ k, gI R2 1002 0 k = gI R1 1002 0 k := fun k => F2.1 1002 0 k (by unfold NXF; omega)
    exact ⟨R2, rfl, T2, (s2 _).trans at0, fun k hk => (s2 k).trans (ot k hk), FX_trans (FX_sub F1 (fun f _ z => by unfold GFX; omega)) (FX_sub F2 (fun f _ z => by unfold NXF at z; unfold GFX; omega))⟩
  · rw [if_neg (fun z => q (e59.mp z))]
    exact ⟨R1, rfl, T1, ot, FX_sub F1 (fun f _ z => by unfold GFX; omega)⟩
theorem g_pre {b : Nat → Nat} {n N L i kn : Nat} {R : St} {CL : List (Int × Int × Int)} {D : List (Int × Int)} {em et : Sem} (hN : 4000 < N) (hB : RBD b n L R i CL D em et) (hk : tkd b n (plc b n i) = kn) (k9 : kn ≤ 9) (hl : CL.length < 24) (h0 : kn = 0 → em = none) (h1 : kn = 1 → et = none) : ∃ R8, f_X10_clause N R = bnd (f_X10_body N R8 (jj (kn : Int)) (jj ((681 * L + 1 + 3 * CL.length : Nat) : Int))) (tlC N) ∧ TRR b n R8 (i + 1) ∧ gI R8 1014 0 0 = jj (kn : Int) ∧ gI R8 1019 0 0 = jj ((if kn = 0 then 1 else on1 em) + 2 * (if kn = 1 then 1 else on1 et)) ∧ gI R8 1002 0 (681 * L + 1 + 3 * CL.length) = jj (kn : Int) ∧ (∀ k, k ≠ 681 * L + 1 + 3 * CL.length → gI R8 1002 0 k = gI R 1002 0 k) ∧ FX (fun f _ => f = 1002 ∨ (1007 ≤ f ∧ f ≤ 1011) ∨ f = 1014 ∨ f = 1019) R R8 := by
  obtain ⟨b1, b2, b3, b4, b5, b6, b7, b8, b9, b10, b11⟩ := hB
  have so := l_sort b1
  rw [hk, show srt kn = (kn : Int) from if_pos k9] at so
  have n0 : (jj ((681 * L : Nat) : Int)).toNatClampNeg = 681 * L := by rw [jj_nat (by omega) (by omega), Int.toNat_natCast]
  have i0 : inb (jj ((681 * L : Nat) : Int)) 2724 = true := jj_inb (by omega) (by omega) (by omega)
  have c24 : ¬ jj (CL.length : Int) = (24 : Int32) := by rw [show (24 : Int32) = jj 24 from rfl, jj_eq (by omega) (by omega) (by decide) (by decide)]; omega
  have l0 : (0 : Int32) ≤ jj (kn : Int) := by rw [show (0 : Int32) = jj 0 from rfl, jj_le (by decide) (by decide) (by omega) (by omega)]; omega
  have l1 : ((1 : Int32) < jj (kn : Int)) = (1 < kn) := by
    rw [show (1 : Int32) = jj 1 from rfl, jj_lt (by decide) (by decide) (by omega) (by omega)]
    exact propext ⟨fun z => by omega, fun z => by omega⟩
  -- from the place where both ways meet
  have b65 : ∀ R0 : St, FX (fun f _ => f = 1019) R R0 → ∃ R8, f_X10_clause_b65 N (jj (kn : Int)) (jj (CL.length : Int)) R0 = bnd (f_X10_body N R8 (jj (kn : Int)) (jj ((681 * L + 1 + 3 * CL.length : Nat) : Int))) (tlC N) ∧ TRR b n R8 (i + 1) ∧ gI R8 1014 0 0 = jj (kn : Int) ∧ gI R8 1019 0 0 = gI R0 1019 0 0 ∧ gI R8 1002 0 (681 * L + 1 + 3 * CL.length) = jj (kn : Int) ∧ (∀ k, k ≠ 681 * L + 1 + 3 * CL.length → gI R8 1002 0 k = gI R 1002 0 k) ∧ FX (fun f _ => f = 1002 ∨ (1007 ≤ f ∧ f ≤ 1011) ∨ f = 1014 ∨ f = 1019) R R8 := by
    intro R0 F0
    have F1 : FX (fun f _ => f = 1014) R0 (sI R0 1014 0 0 (jj (kn : Int))) := FX_sI (FX_refl _ _) rfl
    have T1 := TRR_FX F1 (by omega) (by omega) (fun f a c => by omega) (TRR_FX F0 (by omega) (by omega) (fun f a c => by omega) b1)
    obtain ⟨R5, e5, T5, F5⟩ := x_next hN T1.1 T1.2.2.1
    have g12 : gI R5 1012 0 0 = jj ((681 * L : Nat) : Int) := (F5.1 1012 0 0 (by unfold NXF; omega)).trans ((F1.1 1012 0 0 (by omega)).trans ((F0.1 1012 0 0 (by omega)).trans b2))
    have ix : jj ((681 * L : Nat) : Int) + (1 : Int32) + (3 : Int32) * jj (CL.length : Int) = jj ((681 * L + 1 + 3 * CL.length : Nat) : Int) := by
      rw [show (1 : Int32) = jj 1 from rfl, show (3 : Int32) = jj 3 from rfl, jj_mul, jj_add, jj_add]
      congr 1
    have F8 : FX (fun f _ => f = 1002) R5 (sI R5 1002 0 (681 * L + 1 + 3 * CL.length) (jj (kn : Int))) := FX_sI (FX_refl _ _) rfl
    refine ⟨sI R5 1002 0 (681 * L + 1 + 3 * CL.length) (jj (kn : Int)), ?_, TRR_FX F8 (by omega) (by omega) (fun f a c => by omega) T5, ?_, ?_, ?_, fun k hk => ?_, FX_trans (FX_sub F0 (fun f _ z => by omega)) (FX_trans (FX_sub F1 (fun f _ z => by omega)) (FX_trans (FX_sub F5 (fun f _ z => by unfold NXF at z; omega)) (FX_sub F8 (fun f _ z => by omega))))⟩
    · unfold f_X10_clause_b65
      simp only [lt]
      rw [bnd_of e5, g12, ix, chk_true (jj_inb (by omega) (by omega) (by omega)), jj_nat (by omega) (by omega), Int.toNat_natCast]
      rfl
    · rw [F8.1 1014 0 0 (by omega), F5.1 1014 0 0 (by unfold NXF; omega), gI_sI, if_pos ⟨rfl, rfl, rfl⟩]
    · rw [F8.1 1019 0 0 (by omega), F5.1 1019 0 0 (by unfold NXF; omega), F1.1 1019 0 0 (by omega)]
    · rw [gI_sI, if_pos ⟨rfl, rfl, rfl⟩]
    · rw [gI_sI, if_neg (by omega), F5.1 1002 0 k (by unfold NXF; omega), F1.1 1002 0 k (by omega), F0.1 1002 0 k (by omega)]
  have ob := on1_b em
  have oc := on1_b et
  have hs := q_has R ob oc
  have hq := q_once ob oc
  unfold f_X10_clause f_X10_clause_b29
  rw [bnd_of so, if_pos l0]
  simp only [lt]
  rw [b2, chk_true i0, n0, b6, if_neg c24]
  by_cases q1 : 1 < kn
  · rw [if_pos (l1.mpr q1), if_pos (l1.mpr q1)]
    obtain ⟨R8, r1, r2, r3, r4, r5, r6, r7⟩ := b65 R (FX_refl _ _)
    exact ⟨R8, r1, r2, r3, by rw [r4, if_neg (by omega), if_neg (by omega)]; exact b8, r5, r6, r7⟩
  · rw [if_neg (fun z => q1 (l1.mp z)), if_neg (fun z => q1 (l1.mp z)), b8]
    have kc : kn = 0 ∨ kn = 1 := by omega
    rcases kc with rfl | rfl
    · have e0 := h0 rfl
      have z0 : on1 em = 0 := by rw [e0]; rfl
      have hs1 := hs.1
      rw [z0] at hs1 hq ⊢
      have hs1 : f_X10_has R (jj (0 + 2 * on1 et)) (jj ((0 : Nat) : Int)) = some (jj 0) := hs1
      rw [bnd_of hs1, if_pos (show jj 0 = 0 from rfl), show jj (0 + 2 * on1 et) ||| ((1 : Int32) <<< (jj ((0 : Nat) : Int) &&& 31)) = jj (1 + 2 * on1 et) from hq.1 rfl]
      obtain ⟨R8, r1, r2, r3, r4, r5, r6, r7⟩ := b65 (sI R 1019 0 0 (jj (1 + 2 * on1 et))) (FX_sI (FX_refl _ _) rfl)
      refine ⟨R8, r1, r2, r3, ?_, r5, r6, r7⟩
      rw [r4, gI_sI, if_pos ⟨rfl, rfl, rfl⟩, if_pos rfl, if_neg (by decide)]
    · have e0 := h1 rfl
      have z0 : on1 et = 0 := by rw [e0]; rfl
      have hs1 := hs.2
      rw [z0] at hs1 hq ⊢
      have hs1 : f_X10_has R (jj (on1 em + 2 * 0)) (jj ((1 : Nat) : Int)) = some (jj 0) := hs1
      rw [bnd_of hs1, if_pos (show jj 0 = 0 from rfl), show jj (on1 em + 2 * 0) ||| ((1 : Int32) <<< (jj ((1 : Nat) : Int) &&& 31)) = jj (on1 em + 2 * 1) from hq.2 rfl]
      obtain ⟨R8, r1, r2, r3, r4, r5, r6, r7⟩ := b65 (sI R 1019 0 0 (jj (on1 em + 2 * 1))) (FX_sI (FX_refl _ _) rfl)
      refine ⟨R8, r1, r2, r3, ?_, r5, r6, r7⟩
      rw [r4, gI_sI, if_pos ⟨rfl, rfl, rfl⟩, if_neg (by decide), if_pos rfl]
theorem c_post {K : Ks} {N j nc : Nat} {S : St} (hT : TS K) (hC : CT0 K S j) (h7 : gI S 107 0 0 = jj (nc : Int)) : (K.1 j = 38 ∧ ∃ S', f_X1_clause_b126 N 1 S = some (1, S') ∧ CT0 K S' (j + 1) ∧ gI S' 107 0 0 = jj ((nc + 1 : Nat) : Int) ∧ FX (fun f _ => f = 104 ∨ f = 105 ∨ f = 107) S S') ∨ (K.1 j ≠ 38 ∧ ∃ S', f_X1_clause_b126 N 1 S = some (0, S') ∧ FLD K S' 1 j ∧ FX (fun f _ => f = 102 ∨ f = 103 ∨ f = 107) S S') := by
  have F1 : FX (fun f _ => f = 107) S (sI S 107 0 0 (jj ((nc + 1 : Nat) : Int))) := FX_sI (FX_refl _ _) rfl
  have C1 : CT0 K (sI S 107 0 0 (jj ((nc + 1 : Nat) : Int))) j := ⟨CTK_of F1 (fun f a c => by omega) hC.1, hC.2.1, (F1.1 104 0 0 (by omega)).trans hC.2.2.1, (F1.1 105 0 0 (by omega)).trans hC.2.2.2⟩
  have un : ∀ x : Int32, x = 1 → f_X1_clause_b126 N x S = bnd (f_X1_takes (sI S 107 0 0 (jj ((nc + 1 : Nat) : Int))) (jj 38)) fun q11 => if q11.1 = (0 : Int32) then (some ((0 : Int32), q11.2)) else (some ((1 : Int32), q11.2)) := by
    intro x hx
    unfold f_X1_clause_b126
    simp only [lt]
    rw [h7, up9, hx, if_neg (show ¬ (1 : Int32) = 0 by decide)]
    rfl
  rw [un 1 rfl]
  rcases d_takes (k := 38) hT C1 (by decide) (by decide) with ⟨t1, S2, e2, C2, F2⟩ | ⟨t1, S2, e2, fl, F2⟩
  · refine Or.inl ⟨t1, S2, by rw [bnd_of e2]; rfl, C2, ?_, FX_trans (FX_sub F1 (fun f _ z => by omega)) (FX_sub F2 (fun f _ z => by omega))⟩
    rw [F2.1 107 0 0 (by omega), gI_sI, if_pos ⟨rfl, rfl, rfl⟩]
  · exact Or.inr ⟨t1, S2, by rw [bnd_of e2]; rfl, fl, FX_trans (FX_sub F1 (fun f _ z => by omega)) (FX_sub F2 (fun f _ z => by omega))⟩
theorem c_pre {K : Ks} {N i nc kn : Nat} {S : St} (hT : TS K) (hC : CT0 K S i) (h7 : gI S 107 0 0 = jj (nc : Int)) (hn : nc < 24) (hk : K.1 i = (kn : Int)) (k9 : kn ≤ 9) : ∃ S8, f_X1_clause_b48 N (jj (kn : Int)) S = (if (1 : Int32) < jj (kn : Int) then (bnd (f_X1_readDeed S8 (jj (kn : Int))) fun q9 => f_X1_clause_b126 N q9.1 q9.2) else (bnd (f_X1_readLaw N S8 (jj (kn : Int))) fun q12 => f_X1_clause_b126 N q12.1 q12.2)) ∧ CT0 K S8 (i + 1) ∧ gI S8 106 0 (3 * nc) = jj (kn : Int) ∧ gI S8 106 0 (3 * nc + 1) = jj 0 ∧ gI S8 106 0 (3 * nc + 2) = jj 0 ∧ (∀ k, k < 3 * nc → gI S8 106 0 k = gI S 106 0 k) ∧ FX (fun f _ => f = 104 ∨ f = 105 ∨ f = 106) S S8 := by
  have m1 : (3 : Int32) * jj (nc : Int) = jj ((3 * nc : Nat) : Int) := by rw [show (3 : Int32) = jj 3 from rfl, jj_mul]; congr 1
  have nn : ∀ k : Nat, k ≤ 72 → (jj (k : Int)).toNatClampNeg = k := fun k hk => by rw [jj_nat (by omega) (by omega), Int.toNat_natCast]
  have F3 : FX (fun f _ => f = 106) S (sI (sI (sI S 106 0 (3 * nc) (jj (kn : Int))) 106 0 (3 * nc + 1) 0) 106 0 (3 * nc + 2) 0) := FX_sI (FX_sI (FX_sI (FX_refl _ _) rfl) rfl) rfl
  have h71 : gI (sI S 106 0 (3 * nc) (jj (kn : Int))) 107 0 0 = jj (nc : Int) := by rw [gI_sI, if_neg (by omega)]; exact h7
  have h72 : gI (sI (sI S 106 0 (3 * nc) (jj (kn : Int))) 106 0 (3 * nc + 1) 0) 107 0 0 = jj (nc : Int) := by rw [gI_sI, if_neg (by omega)]; exact h71
  obtain ⟨S8, e8, C8, F8⟩ := d_adv hT (S := sI (sI (sI S 106 0 (3 * nc) (jj (kn : Int))) 106 0 (3 * nc + 1) 0) 106 0 (3 * nc + 2) 0) ⟨CTK_of F3 (fun f a c => by omega) hC.1, hC.2.1, (F3.1 104 0 0 (by omega)).trans hC.2.2.1, (F3.1 105 0 0 (by omega)).trans hC.2.2.2⟩ (by omega)
  refine ⟨S8, ?_, C8, ?_, ?_, ?_, fun k hk => ?_, FX_trans (FX_sub F3 (fun f _ z => by omega)) (FX_sub F8 (fun f _ z => by omega))⟩
  · unfold f_X1_clause_b48
    simp only [lt]
    rw [h7, if_pos (show jj (nc : Int) < (24 : Int32) by rw [show (24 : Int32) = jj 24 from rfl, jj_lt (by omega) (by omega) (by decide) (by decide)]; omega), m1, chk_true (jj_inb (by omega) (by omega) (by omega)), nn _ (by omega), h71, m1, show jj ((3 * nc : Nat) : Int) + (1 : Int32) = jj ((3 * nc + 1 : Nat) : Int) from jn_add _ 1, chk_true (jj_inb (by omega) (by omega) (by omega)), nn _ (by omega), h72, m1, show jj ((3 * nc : Nat) : Int) + (2 : Int32) = jj ((3 * nc + 2 : Nat) : Int) from jn_add _ 2, chk_true (jj_inb (by omega) (by omega) (by omega)), nn _ (by omega), bnd_of e8]
  · rw [F8.1 106 0 _ (by omega), gI_sI, if_neg (by omega), gI_sI, if_neg (by omega), gI_sI, if_pos ⟨rfl, rfl, rfl⟩]
  · rw [F8.1 106 0 _ (by omega), gI_sI, if_neg (by omega), gI_sI, if_pos ⟨rfl, rfl, rfl⟩]; rfl
  · rw [F8.1 106 0 _ (by omega), gI_sI, if_pos ⟨rfl, rfl, rfl⟩]; rfl
  · rw [F8.1 106 0 _ (by omega), gI_sI, if_neg (by omega), gI_sI, if_neg (by omega), gI_sI, if_neg (by omega)]
