theorem k_patches {S : St} {N : Nat} {T : Int} (hN : 4000 < N) (t0 : 0 ≤ T) (t1 : T < 512) (hI : INV T S) (x y x3 : Int32) : TWO (fun S => f_X9_patches N S x y x3) (fun S => f_X10_patches N S x y x3) T S := by
  obtain ⟨A, B, hI0⟩ := id hI
  obtain ⟨em, et, hX, hR⟩ := INVA_get hI0
  have hL := hX.1.2.1.1
  obtain ⟨x, rfl, x1, x2⟩ := jj_ex x
  obtain ⟨y, rfl, y1, y2⟩ := jj_ex y
  show ∃ v S1 S2, f_X9_patches N S (jj x) (jj y) x3 = some (v, S1) ∧ f_X10_patches N S1 (jj x) (jj y) x3 = some (v, S2) ∧ INV (T + 1) S2
  unfold f_X9_patches f_X10_patches
  have ee : ∀ S : St, ∀ z : Int, -2147483648 ≤ z → z ≤ 2147483647 → f_X10_isIn S (jj z) 1 6 = some (if 1 ≤ z ∧ z ≤ 6 then jj 1 else jj 0) := fun S z a b => q_isIn2 (a := 1) (b := 6) a b (by decide) (by decide) (by decide) (by decide)
  have l1 : ∀ z : Int, -2147483648 ≤ z → z ≤ 2147483647 → ((jj z < 1) = (z < 1)) := fun z a b => jj_lt (b := 1) a b (by decide) (by decide)
  have l2 : ∀ z : Int, -2147483648 ≤ z → z ≤ 2147483647 → ((6 < jj z) = (6 < z)) := fun z a b => jj_lt (a := 6) (by decide) (by decide) a b
  have l3 : ∀ z : Int, -2147483648 ≤ z → z ≤ 2147483647 → ((jj z ≤ 6) = (z ≤ 6)) := fun z a b => jj_le (b := 6) a b (by decide) (by decide)
  simp only [l1 x x1 x2, l2 x x1 x2, l1 y y1 y2, l3 y y1 y2]
  by_cases q : (1 ≤ x ∧ x ≤ 6) ∧ (1 ≤ y ∧ y ≤ 6)
  · obtain ⟨q1, q2⟩ := q
    rw [if_neg (show ¬ x < 1 by omega), if_neg (show ¬ 6 < x by omega), if_neg (show ¬ y < 1 by omega), if_pos (show y ≤ 6 by omega)]
    obtain ⟨S1, e1, F1⟩ := x_cov (S := sI S 300 0 12 0) (N := N) (u := if x3 = 0 then 1 else jj x + 2) (v := if x3 = 0 then 1 else jj y + 2) hL.2.1 q1.1 q1.2 q2.1 q2.2 (by omega) (by rw [gI_sI, if_pos ⟨rfl, rfl, rfl⟩])
    have e1' : f_X3_covers N S (gI S 404 0 0) (jj x) (jj y) x3 = some (cov (fun c => A (23 + c)) x y (if x3 = 0 then 1 else jj x + 2) (if x3 = 0 then 1 else jj y + 2) 12 0, S1) := by
      unfold f_X3_covers f_X3_covers_b12 f_X3_covers_b26
      by_cases w : x3 = 0
      · rw [if_pos w, if_pos w] at e1
        rw [if_pos w, if_pos w, if_pos w, if_pos w]
        exact e1
      · rw [if_neg w, if_neg w] at e1
        rw [if_neg w, if_neg w, if_neg w, if_neg w]
        exact e1
    have F0 : FX (fun f _ => f = 300) S S1 := FX_trans (FX_sI (FX_refl _ _) rfl) F1
    obtain ⟨S2, e2, F2⟩ := r_cov (S := S1) (N := N) (t := fun c => A (23 + c)) (x3 := x3) (a := x) (b := y) (fun c a b => ⟨(F0.1 1000 0 _ (by decide)).trans (hR.1 (23 + c) (by omega) (by omega)), tb_01 hL.2.1 a b⟩) q1.1 q1.2 q2.1 q2.2 (by omega) rfl rfl
    rw [bnd_of e1']
    refine ⟨_, S1, S2, rfl, ?_, SCR_of t0 t1 hI (FX_trans (FX_sub F0 (fun f j q => by omega)) (FX_sub F2 (fun f j q => by omega)))⟩
    rw [bnd_of (ee S1 x x1 x2), bnd_of (ee S1 y y1 y2), if_pos q1, if_pos q2, if_neg (show ¬ jj 1 = 0 by decide), if_neg (show ¬ jj 1 = 0 by decide)]
    exact e2
  · have hr : (bnd (f_X10_isIn S (jj x) 1 6) fun q1 => if q1 = 0 then some ((-1 : Int32), S) else bnd (f_X10_isIn S (jj y) 1 6) fun q2 => if q2 = 0 then some ((-1 : Int32), S) else f_X10_patches_b26 N N (jj x) (jj y) x3 18 S) = some (-1, S) := by
      rw [bnd_of (ee S x x1 x2), bnd_of (ee S y y1 y2)]
      by_cases w : 1 ≤ x ∧ x ≤ 6
      · rw [if_pos w, if_neg (show ¬ jj 1 = 0 by decide), if_neg (show ¬ (1 ≤ y ∧ y ≤ 6) from fun z => q ⟨w, z⟩), if_pos (show jj 0 = 0 by decide)]
      · rw [if_neg w, if_pos (show jj 0 = 0 by decide)]
    refine ⟨-1, S, S, ?_, hr, SCR_of t0 t1 hI (FX_refl _ _)⟩
    by_cases w1 : x < 1
    · rw [if_pos w1]
    · rw [if_neg w1]
      by_cases w2 : 6 < x
      · rw [if_pos w2]
      · rw [if_neg w2]
        by_cases w3 : y < 1
        · rw [if_pos w3]
        · rw [if_neg w3, if_neg (show ¬ y ≤ 6 by omega)]
