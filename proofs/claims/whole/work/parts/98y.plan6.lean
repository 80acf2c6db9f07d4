theorem k_plan {S : St} {N : Nat} {T : Int} (hN : 200000000 < N) (t0 : 0 ≤ T) (t1 : T < 512) (hI : INV T S) (x y z : Int32) : TWO (fun S => f_X9_plan N S x y z) (fun S => f_X10_plan N S x y z) T S := by
  obtain ⟨A, B, hI⟩ := hI
  obtain ⟨em, et, hX, hR⟩ := INVA_get hI
  obtain ⟨x, rfl, x1, x2⟩ := jj_ex x
  obtain ⟨y, rfl, y1, y2⟩ := jj_ex y
  obtain ⟨z, rfl, z1, z2⟩ := jj_ex z
  have a0 := hX.2.1.1.2.2.1.1
  have a4 := hX.2.1.1.2.2.1.2.1
  have l1 : (jj y < 0) = (y < 0) := jj_lt (b := 0) y1 y2 (by decide) (by decide)
  have l2 : (9999 < jj y) = (9999 < y) := jj_lt (a := 9999) (by decide) (by decide) y1 y2
  have l3 : (jj z < -1) = (z < -1) := by
    rw [show (-1 : Int32) = jj (-1) from rfl]
    exact jj_lt z1 z2 (by decide) (by decide)
  have l4 : (jj z < 3) = (z < 3) := jj_lt (b := 3) z1 z2 (by decide) (by decide)
  have i1 : ∀ S : St, f_X10_isIn S (jj y) 0 9999 = some (if 0 ≤ y ∧ y ≤ 9999 then jj 1 else jj 0) := fun S => q_isIn2 (a := 0) (b := 9999) y1 y2 (by decide) (by decide) (by decide) (by decide)
  have i2 : ∀ S : St, f_X10_isIn S (jj z) (-1) 2 = some (if -1 ≤ z ∧ z ≤ 2 then jj 1 else jj 0) := fun S => by
    rw [show (-1 : Int32) = jj (-1) from rfl, show (2 : Int32) = jj 2 from rfl]
    exact q_isIn2 z1 z2 (by decide) (by decide) (by decide) (by decide)
  show ∃ v S1 S2, f_X9_plan N S (jj x) (jj y) (jj z) = some (v, S1) ∧ f_X10_plan N S1 (jj x) (jj y) (jj z) = some (v, S2) ∧ INV (T + 1) S2
  unfold f_X9_plan f_X10_plan
  simp only [l1, l2, l3, l4]
  by_cases q : (0 ≤ x ∧ x < A 0) ∧ (0 ≤ y ∧ y ≤ 9999) ∧ (-1 ≤ z ∧ z ≤ 2)
  · obtain ⟨q1, q2, q3⟩ := q
    obtain ⟨⟨v, S1⟩, e1, F1, w1, cs⟩ := c_few (N := N) (h := x) (lim := y) (show 4000 < N by omega) hX (by unfold WT; omega) q1 q2.1 q2.2
    simp only at F1 w1 cs
    have R1 : RC S1 A em et := RC_step hR F1 (by unfold TRP; omega) (by unfold TRP; omega) (FX_AR F1 (by unfold TRP; omega) hR.1) rfl
    rw [bnd_of (x_isHand hX.1.1.1 a0 a4 x1 x2), if_pos q1, if_neg (show ¬ jj 1 = 0 by decide), if_neg (show ¬ y < 0 by omega), if_neg (show ¬ 9999 < y by omega), if_neg (show ¬ z < -1 by omega), if_pos (show z < 3 by omega), bnd_of e1]
    have fin : ∀ (u : Int32) (E : Nat), ((E = 4 ∧ (∀ L : Nat, L ≤ 3 → NON em et x y L A) ∧ jj (-2) = u) ∨ (E ≤ 3 ∧ ∃ c, (∀ L' : Nat, L' < E → NON em et x y L' A) ∧ LOW em et x y E A c ∧ (z = -1 → jj (E : Int) = u) ∧ (0 ≤ z → (E : Int) ≤ z → jj (-2) = u) ∧ (0 ≤ z → z < E → jj (c / 24 ^ (E - 1 - z.toNat) % 24) = u))) → ∃ v S1' S2, (some (u, S1) : Option (Int32 × St)) = some (v, S1') ∧ (bnd (f_X10_isHand S1' (jj x)) fun q1 => if q1 = 0 then some (-2, S1') else bnd (f_X10_isIn S1' (jj y) 0 9999) fun q2 => if q2 = 0 then some (-2, S1') else bnd (f_X10_isIn S1' (jj z) (-1) 2) fun q3 => if q3 = 0 then some (-2, S1') else f_X10_plan_b37 N N (jj x) (jj y) (jj z) 1 0 S1') = some (v, S2) ∧ INV (T + 1) S2 := by
      intro u E hc
      obtain ⟨⟨v2, S2⟩, e2, hv, R2, F2⟩ := r_plan (S := S1) (N := N) (h := x) (lim := y) (y := z) (Q := fun r => r = u) hN hX.2.1.1 R1 q1 q2.1 q2.2 q3.1 q3.2 E hc
      simp only at hv R2 F2
      refine ⟨u, S1, S2, rfl, ?_, INV_try hI t0 t1 F1 w1 (by unfold WT; omega) R2 F2⟩
      rw [bnd_of (r_isHand R1.1 a0 a4 x1 x2), if_pos q1, if_neg (show ¬ jj 1 = 0 by decide), bnd_of (i1 S1), if_pos q2, if_neg (show ¬ jj 1 = 0 by decide), bnd_of (i2 S1), if_pos q3, if_neg (show ¬ jj 1 = 0 by decide), e2, hv]
    have zz : ¬ z = -1 → ¬ jj z = -1 := fun w => by
      rw [show (-1 : Int32) = jj (-1) from rfl, jj_eq z1 z2 (by decide) (by decide)]
      exact w
    rcases cs with ⟨v0, no⟩ | ⟨L, c, hL, vL, no, lo, dg⟩
    · rw [v0]
      have r1 : (if jj z = -1 then some (jj (-2), S1) else if jj (-2) ≤ jj z then some (-2, S1) else chk (inb (jj z) 3) (some (gI S1 704 0 (jj z).toNatClampNeg, S1))) = some (jj (-2), S1) := by
        by_cases w : z = -1
        · rw [if_pos (show jj z = -1 by rw [w]; rfl)]
        · rw [if_neg (zz w), if_pos (show jj (-2) ≤ jj z by rw [jj_le (by decide) (by decide) z1 z2]; omega)]
          rfl
      rw [r1]
      exact fin _ 4 (Or.inl ⟨rfl, no, rfl⟩)
    · rw [vL]
      by_cases w : z = -1
      · rw [if_pos (show jj z = -1 by rw [w]; rfl)]
        exact fin _ L (Or.inr ⟨hL, c, no, lo, fun _ => rfl, fun a => by omega, fun a => by omega⟩)
      · rw [if_neg (zz w)]
        by_cases w2 : (L : Int) ≤ z
        · rw [if_pos (show jj (L : Int) ≤ jj z by rw [jj_le (by omega) (by omega) z1 z2]; exact w2)]
          exact fin _ L (Or.inr ⟨hL, c, no, lo, fun a => by omega, fun _ _ => rfl, fun _ a => by omega⟩)
        · have d := dg z.toNat (by omega)
          rw [if_neg (show ¬ jj (L : Int) ≤ jj z by rw [jj_le (by omega) (by omega) z1 z2]; exact w2), chk_true (jj_inb (by omega) (by omega) (by omega)), jj_nat (a := z) (by omega) (by omega), d]
          exact fin _ L (Or.inr ⟨hL, c, no, lo, fun a => by omega, fun _ a => by omega, fun _ _ => rfl⟩)
  · refine ⟨jj (-2), S, S, ?_, ?_, INV_same hI t0 t1⟩
    · rw [bnd_of (x_isHand hX.1.1.1 a0 a4 x1 x2)]
      by_cases w1 : 0 ≤ x ∧ x < A 0
      · rw [if_pos w1, if_neg (show ¬ jj 1 = 0 by decide)]
        by_cases w2 : y < 0
        · rw [if_pos w2]; rfl
        · rw [if_neg w2]
          by_cases w3 : 9999 < y
          · rw [if_pos w3]; rfl
          · rw [if_neg w3]
            by_cases w4 : z < -1
            · rw [if_pos w4]; rfl
            · rw [if_neg w4, if_neg (show ¬ z < 3 from fun w5 => q ⟨w1, by omega, by omega⟩)]
              rfl
      · rw [if_neg w1, if_pos (show jj 0 = 0 by decide)]
        rfl
    · rw [bnd_of (r_isHand hR.1 a0 a4 x1 x2), bnd_of (i1 S), bnd_of (i2 S)]
      by_cases w1 : 0 ≤ x ∧ x < A 0
      · rw [if_pos w1, if_neg (show ¬ jj 1 = 0 by decide)]
        by_cases w2 : 0 ≤ y ∧ y ≤ 9999
        · rw [if_pos w2, if_neg (show ¬ jj 1 = 0 by decide), if_neg (show ¬ (-1 ≤ z ∧ z ≤ 2) from fun w3 => q ⟨w1, w2, w3⟩), if_pos (show jj 0 = 0 by decide)]
          rfl
        · rw [if_neg w2, if_pos (show jj 0 = 0 by decide)]
          rfl
      · rw [if_neg w1, if_pos (show jj 0 = 0 by decide)]
        rfl
