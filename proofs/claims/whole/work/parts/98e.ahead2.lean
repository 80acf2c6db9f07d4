/-! CALLS: foretold: the whole. -/
theorem INV_try {S S1 S2 : St} {A B : Int → Int} {T W : Int} {em et : Sem} (hI : INVA T S A B) (t0 : 0 ≤ T) (t1 : T < 512) (F1 : FX (fun f j => (200 ≤ f ∧ f ≤ 205) ∨ (400 ≤ f ∧ f ≤ 408 ∧ 62 ≤ j) ∨ (704 ≤ f ∧ f ≤ 707)) S S1) (w1 : WRT S1 W) (hW : W ≤ WT (T + 1)) (R2 : RC S2 A em et) (F2 : FX (fun f _ => f = 1000 ∨ (1020 ≤ f ∧ f ≤ 1025)) S1 S2) : INV (T + 1) S2 := by
  obtain ⟨i1, i2, i3, i4, i5, i6, i7, i8, i9, i10, i11⟩ := id hI
  have W1 : WLD S1 0 A := WLD_step i5 i3 F1 (fun f a b => by omega) (fun f j a b c d => by omega) (SHX_FX F1 (fun f a b => by omega) i3.2.1) (fun _ _ _ _ => rfl)
  exact INVA_next hI t0 t1 (FX_trans (FX_sub F1 (fun f j q => by unfold NPR PRT; omega)) (FX_sub F2 (fun f j q => by unfold NPR PRT; omega))) R2.1 (WLD_FXR F2 (fun f j a => by omega) W1) (NUM_mono i5 (by unfold MT; omega) (by unfold MT; omega)) (WRT_mono (WRT_FX F2 (fun j => by omega) w1) hW) R2.2.2 rfl
theorem isCell_no {S : St} {z : Int} (b1 : -2147483648 ≤ z) (b2 : z ≤ 2147483647) (h : ¬ (0 ≤ z ∧ z ≤ 11)) : f_X9_isCell S (jj z) = some (jj 0) ∧ f_X10_isCell S (jj z) = some (jj 0) := ⟨by rw [q_isCell b1 b2, if_neg h], by rw [q_isCellM b1 b2, if_neg h]⟩
theorem isCell_yes {S : St} {z : Int} (h : 0 ≤ z ∧ z ≤ 11) : f_X9_isCell S (jj z) = some (jj 1) ∧ f_X10_isCell S (jj z) = some (jj 1) := ⟨by rw [q_isCell (by omega) (by omega), if_pos h], by rw [q_isCellM (by omega) (by omega), if_pos h]⟩
theorem k_foretold {S : St} {N : Nat} {T : Int} (hN : 4000 < N) (t0 : 0 ≤ T) (t1 : T < 512) (hI : INV T S) (x y w : Int32) : TWO (fun S => f_X9_foretold N S x y w) (fun S => f_X10_foretold N S x y w) T S := by
  obtain ⟨A, B, hI⟩ := hI
  obtain ⟨em, et, hX, hR⟩ := INVA_get hI
  obtain ⟨n, rfl, b1, b2⟩ := jj_ex x
  obtain ⟨u, rfl, b3, b4⟩ := jj_ex y
  obtain ⟨z, rfl, b5, b6⟩ := jj_ex w
  have hM := hX.2.1
  have hT := hM.1.2.1
  have s0 := hT.1
  have s6 := hT.2.1
  have g6 := hX.1.1.2.1
  have town : f_X9_isTown S (jj z) = some (if 0 ≤ z ∧ z < A 1 then jj 1 else jj 0) := by
    unfold f_X9_isTown
    rw [g6]
    simp (disch := omega) only [jj_of, jj_add, jj_sub, jj_mul, jj_neg, jj_le, jj_lt, jj_eq, jj_nat, chk_true (jj_inb _ _ _), chk_true (jj_nz _ _ _), lt]
    by_cases q : z < 0
    · rw [if_pos q, if_neg (by omega)]
    · rw [if_neg q]
      by_cases q2 : A 1 ≤ z
      · rw [if_pos q2, if_neg (by omega)]
      · rw [if_neg q2, if_pos (by omega)]
  show ∃ v S1 S2, f_X9_foretold N S (jj n) (jj u) (jj z) = some (v, S1) ∧ f_X10_foretold N S1 (jj n) (jj u) (jj z) = some (v, S2) ∧ INV (T + 1) S2
  by_cases ok : (1 ≤ n ∧ n ≤ 60) ∧ (u = 0 ∧ (0 ≤ z ∧ z ≤ 11) ∨ u = 1 ∧ (0 ≤ z ∧ z < A 1) ∨ u = 2)
  · obtain ⟨⟨n0, n1⟩, ok⟩ := ok
    obtain ⟨S1, e1, X1, F1, w1⟩ := c_behind (n := n) hN hX (by unfold WT; omega) (by omega) n1
    have R1 : RC S1 A em et := RC_step hR F1 (by unfold PUP; omega) (by unfold PUP; omega) (FX_AR F1 (by unfold PUP; omega) hR.1) rfl
    have e1A : gI S1 1000 0 1 = jj (A 1) := R1.1 1 (by decide) (by decide)
    have FF := FX_sub F1 (Q := fun f j => (200 ≤ f ∧ f ≤ 205) ∨ (400 ≤ f ∧ f ≤ 408 ∧ 62 ≤ j) ∨ (704 ≤ f ∧ f ≤ 707)) (fun f j q => by unfold PUP at q; omega)
    have nn1 : ¬ jj 1 = jj 0 := by decide
    have nn2 : ¬ jj 2 = jj 0 := by decide
    have nn3 : ¬ jj 2 = jj 1 := by decide
    rcases ok with ⟨rfl, q⟩ | ⟨rfl, q⟩ | rfl
    · obtain ⟨S2, e2, R2, F2⟩ := r_ahead (n := n) (what := 0) (which := z) hN hM R1 (by omega) n1 (gI S1 400 62 z.toNat) (fun S3 A3 O3 g3 X => by
        have e := A3 (11 + z) (by omega) (by omega)
        rw [if_pos (show jj 0 = (0 : Int32) from rfl)]
        simp (disch := omega) only [jj_of, jj_add, jj_sub, jj_mul, jj_neg, jj_le, jj_lt, jj_eq, jj_nat, chk_true (jj_inb _ _ _), chk_true (jj_nz _ _ _), lt, e]
        rw [X1.1.1 z q.1 (by omega)])
      refine ⟨gI S1 400 62 z.toNat, S1, S2, ?_, ?_, INV_try hI t0 t1 FF w1 (by unfold WT; omega) R2 F2⟩
      · unfold f_X9_foretold f_X9_foretold_b34
        simp only [jj_of, if_true]
        rw [bnd_of (isCell_yes q).1, if_neg (show ¬ jj n < jj 1 by rw [jj_lt b1 b2 (by decide) (by decide)]; omega), if_neg (show ¬ jj 60 < jj n by rw [jj_lt (by decide) (by decide) b1 b2]; omega), if_neg nn1, bnd_of e1, chk_true (jj_inb q.1 (by omega) (by omega)), jj_nat (by omega) (by omega)]
      · unfold f_X10_foretold f_X10_foretold_b30
        simp only [jj_of, if_true]
        rw [bnd_of (q_isIn2 b1 b2 (by decide) (by decide) (by decide) (by decide)), if_pos (show 1 ≤ n ∧ n ≤ 60 from ⟨n0, n1⟩), if_neg nn1, bnd_of (q_isIn2 (by decide) (by decide) (by decide) (by decide) (by decide) (by decide)), if_pos (show (0 : Int) ≤ 0 ∧ (0 : Int) ≤ 2 by decide), if_neg nn1, bnd_of (isCell_yes q).2, if_neg nn1, if_neg (show ¬ jj 0 = jj 1 by decide)]
        exact e2
    · obtain ⟨S2, e2, R2, F2⟩ := r_ahead (n := n) (what := 1) (which := z) hN hM R1 (by omega) n1 (gI S1 401 62 z.toNat) (fun S3 A3 O3 g3 X => by
        have e := A3 (35 + z) (by omega) (by omega)
        have h1 := X1.2.2.2.1 z q.1 (by omega)
        unfold hmA at h1
        rw [if_pos (show z < FTN em et n.toNat A 1 by rw [g3 1 (by decide)]; exact q.2)] at h1
        rw [if_neg (show ¬ jj 1 = (0 : Int32) by decide), if_pos (show jj 1 = (1 : Int32) from rfl)]
        simp (disch := omega) only [jj_of, jj_add, jj_sub, jj_mul, jj_neg, jj_le, jj_lt, jj_eq, jj_nat, chk_true (jj_inb _ _ _), chk_true (jj_nz _ _ _), lt, e]
        rw [h1])
      refine ⟨gI S1 401 62 z.toNat, S1, S2, ?_, ?_, INV_try hI t0 t1 FF w1 (by unfold WT; omega) R2 F2⟩
      · unfold f_X9_foretold f_X9_foretold_b34
        simp only [jj_of, if_true]
        rw [if_neg nn1, bnd_of town, if_pos q, if_neg (show ¬ jj n < jj 1 by rw [jj_lt b1 b2 (by decide) (by decide)]; omega), if_neg (show ¬ jj 60 < jj n by rw [jj_lt (by decide) (by decide) b1 b2]; omega), if_neg nn1, bnd_of e1, if_neg nn1, chk_true (jj_inb q.1 (by omega) (by omega)), jj_nat (by omega) (by omega)]
      · unfold f_X10_foretold f_X10_foretold_b30
        simp only [jj_of, if_true]
        rw [bnd_of (q_isIn2 b1 b2 (by decide) (by decide) (by decide) (by decide)), if_pos (show 1 ≤ n ∧ n ≤ 60 from ⟨n0, n1⟩), if_neg nn1, bnd_of (q_isIn2 (by decide) (by decide) (by decide) (by decide) (by decide) (by decide)), if_pos (show (0 : Int) ≤ 1 ∧ (1 : Int) ≤ 2 by decide), if_neg nn1, if_neg nn1, e1A, jj_sub, bnd_of (q_isIn2 b5 b6 (by decide) (by decide) (by omega) (by omega)), if_pos (show 0 ≤ z ∧ z ≤ A 1 - 1 by omega), if_neg nn1]
        exact e2
    · obtain ⟨S2, e2, R2, F2⟩ := r_ahead (n := n) (what := 2) (which := z) hN hM R1 (by omega) n1 (gI S1 404 62 0) (fun S3 A3 O3 g3 X => by
        obtain ⟨v, ev, tv⟩ := r_torn hN A3 O3.1.2.1
        rw [if_neg (show ¬ jj 2 = (0 : Int32) by decide), if_neg (show ¬ jj 2 = (1 : Int32) by decide), bnd_of ev, (tb_one tv X1.1.2.1).mpr (fun c a b => rfl)])
      refine ⟨gI S1 404 62 0, S1, S2, ?_, ?_, INV_try hI t0 t1 FF w1 (by unfold WT; omega) R2 F2⟩
      · unfold f_X9_foretold f_X9_foretold_b34
        simp only [jj_of, if_true]
        rw [if_neg nn2, if_neg nn3, if_neg (show ¬ jj n < jj 1 by rw [jj_lt b1 b2 (by decide) (by decide)]; omega), if_neg (show ¬ jj 60 < jj n by rw [jj_lt (by decide) (by decide) b1 b2]; omega), if_neg nn1, bnd_of e1, if_neg nn2, if_neg nn3]
      · unfold f_X10_foretold f_X10_foretold_b30
        simp only [jj_of, if_true]
        rw [bnd_of (q_isIn2 b1 b2 (by decide) (by decide) (by decide) (by decide)), if_pos (show 1 ≤ n ∧ n ≤ 60 from ⟨n0, n1⟩), if_neg nn1, bnd_of (q_isIn2 (by decide) (by decide) (by decide) (by decide) (by decide) (by decide)), if_pos (show (0 : Int) ≤ 2 ∧ (2 : Int) ≤ 2 by decide), if_neg nn1, if_neg nn2, if_neg nn3]
        exact e2
  · refine ⟨jj (-2), S, S, ?_, ?_, INV_same hI t0 t1⟩
    · have e34 : ∀ s0 : Int32, s0 = jj 0 ∨ ¬ (1 ≤ n ∧ n ≤ 60) → f_X9_foretold_b34 N (jj n) (jj u) (jj z) s0 S = some (jj (-2), S) := by
        intro s0 hs
        unfold f_X9_foretold_b34
        simp (disch := omega) only [jj_of, jj_add, jj_sub, jj_mul, jj_neg, jj_le, jj_lt, jj_eq, jj_nat, chk_true (jj_inb _ _ _), chk_true (jj_nz _ _ _), lt]
        by_cases q1 : n < 1
        · rw [if_pos q1]
        · rw [if_neg q1]
          by_cases q2 : 60 < n
          · rw [if_pos q2]
          · rw [if_neg q2]
            rcases hs with rfl | hs
            · rw [if_pos rfl]
            · exact absurd ⟨by omega, by omega⟩ hs
      unfold f_X9_foretold
      rw [bnd_of (q_isCell b5 b6), bnd_of town]
      simp (disch := omega) only [jj_of, jj_add, jj_sub, jj_mul, jj_neg, jj_le, jj_lt, jj_eq, jj_nat, chk_true (jj_inb _ _ _), chk_true (jj_nz _ _ _), lt]
      by_cases u0 : u = 0
      · rw [if_pos u0]
        refine e34 _ ?_
        by_cases q : 0 ≤ z ∧ z ≤ 11
        · exact Or.inr (fun k => ok ⟨k, Or.inl ⟨u0, q⟩⟩)
        · rw [if_neg q]; exact Or.inl rfl
      · rw [if_neg u0]
        by_cases u1 : u = 1
        · rw [if_pos u1]
          refine e34 _ ?_
          by_cases q : 0 ≤ z ∧ z < A 1
          · exact Or.inr (fun k => ok ⟨k, Or.inr (Or.inl ⟨u1, q⟩)⟩)
          · rw [if_neg q]; exact Or.inl rfl
        · rw [if_neg u1]
          by_cases u2 : u = 2
          · rw [if_pos u2]
            exact e34 _ (Or.inr (fun k => ok ⟨k, Or.inr (Or.inr u2)⟩))
          · rw [if_neg u2]
            exact e34 _ (Or.inl rfl)
    · have e1A : gI S 1000 0 1 = jj (A 1) := hR.1 1 (by decide) (by decide)
      have nn1 : ¬ jj 1 = jj 0 := by decide
      unfold f_X10_foretold f_X10_foretold_b30
      simp only [jj_of]
      rw [bnd_of (q_isIn2 b1 b2 (by decide) (by decide) (by decide) (by decide)), bnd_of (q_isIn2 b3 b4 (by decide) (by decide) (by decide) (by decide)), bnd_of (q_isCellM b5 b6), e1A]
      simp only [jj_sub]
      rw [bnd_of (q_isIn2 b5 b6 (by decide) (by decide) (by omega) (by omega))]
      by_cases k : 1 ≤ n ∧ n ≤ 60
      · rw [if_pos k, if_neg nn1]
        by_cases k2 : 0 ≤ u ∧ u ≤ 2
        · rw [if_pos k2, if_neg nn1]
          have : u = 0 ∨ u = 1 ∨ u = 2 := by omega
          rcases this with rfl | rfl | rfl
          · rw [if_pos rfl, if_neg (show ¬ (0 ≤ z ∧ z ≤ 11) from fun q => ok ⟨k, Or.inl ⟨rfl, q⟩⟩), if_pos rfl]
            rfl
          · rw [if_neg nn1, if_pos rfl, if_neg (show ¬ (0 ≤ z ∧ z ≤ A 1 - 1) from fun q => ok ⟨k, Or.inr (Or.inl ⟨rfl, by omega⟩)⟩), if_pos rfl]
            rfl
          · exact absurd ⟨k, Or.inr (Or.inr rfl)⟩ ok
        · rw [if_neg k2, if_pos rfl]
          rfl
      · rw [if_neg k, if_pos rfl]
        rfl
