/-! CALLS that ask. -/
def ONE (X Y : St → Option Int32) (S : St) : Prop := ∃ v, X S = some v ∧ Y S = some v
theorem sh0 {c : Int} (h : 0 ≤ c) (h2 : c < 12) : (jj 0 <<< (jj c &&& 31)) = jj 0 := by
  have : ∀ n : Fin 12, (jj 0 <<< (jj n.val &&& 31)) = jj 0 := by decide
  have q := this ⟨c.toNat, by omega⟩
  simp only [Int.toNat_of_nonneg h] at q
  exact q
theorem or0 (x : Int32) : x ||| jj 0 = x := Int32.or_zero
/-- the torn cells of the reference -/
theorem r_torn {S : St} {N : Nat} {A : Int → Int} (hN : 4000 < N) (hA : AR 1000 S A) (h01 : ∀ c : Int, 0 ≤ c → c < 12 → A (23 + c) = 0 ∨ A (23 + c) = 1) : ∃ x, f_X10_tornNow N S = some x ∧ TB x (fun c => A (23 + c)) := by
  have := wp_up (F := fun n (x : Int32) k => f_X10_tornNow_b4 N n x (jj k) S) (P := fun k x => 0 ≤ k ∧ TB x (fun c => if c < k then A (23 + c) else 0)) (Q := fun x => TB x (fun c => A (23 + c))) (E := 12) (by
    intro n x ⟨k0, hx⟩
    simp only [f_X10_tornNow_b4]
    rw [if_pos (show (12 : Int32) ≤ jj 12 by rw [jj_of]; exact Int32.le_refl _)]
    exact wp_some (tb_ext hx (fun c a b => if_pos b))) (by
    intro n x k hk ⟨k0, hx⟩ ih
    have hk2 : ¬ 12 ≤ k := by omega
    have e := hA (23 + k) (by omega) (by omega)
    simp only [f_X10_tornNow_b4]
    simp (disch := omega) only [jj_of, jj_le, jj_add, jj_nat, chk_true (jj_inb _ _ _), lt, if_false, hk2, e]
    rw [← jj_of]
    rcases h01 k k0 hk with w | w
    · rw [w, sh0 k0 hk, or0]
      refine ih x ⟨by omega, tb_ext hx (fun c a b => ?_)⟩
      by_cases z : c < k
      · rw [if_pos z, if_pos (by omega)]
      · rw [if_neg z]
        by_cases z2 : c < k + 1
        · rw [if_pos z2, show c = k by omega, w]
        · rw [if_neg z2]
    · rw [w]
      refine ih _ ⟨by omega, tb_ext (tb_set hx k0 hk) (fun c a b => ?_)⟩
      rw [UP_at]
      by_cases z : c = k
      · rw [if_pos z, if_pos (by omega), z, w]
      · rw [if_neg z]
        by_cases z2 : c < k
        · rw [if_pos z2, if_pos (by omega)]
        · rw [if_neg z2, if_neg (by omega)]) 12 N 0 (jj 0) (by decide) (by omega) ⟨by decide, tb_zero (fun c a b => if_neg (by omega))⟩
  exact this
/-- the towns in a cell -/
theorem x_townsIn {S : St} {N j : Nat} {hm : Int → Int} {c : Int} (hN : 4000 < N) (hH : HOM S j hm) (hb : ∀ t : Int, 0 ≤ t → t < 6 → -2 ≤ hm t ∧ hm t ≤ 11) (c0 : -1 ≤ c) (c1 : c ≤ 11) : ∃ x, f_X4_townsIn N j S (jj c) = some x ∧ TB x (fun t => if t < 6 ∧ hm t = c then 1 else 0) := by
  have := wp_up (F := fun n (x : Int32) k => f_X4_townsIn_b4 N j n (jj c) x (jj k) S) (P := fun k x => 0 ≤ k ∧ TB x (fun t => if t < k ∧ hm t = c then 1 else 0)) (Q := fun x => TB x (fun t => if t < 6 ∧ hm t = c then 1 else 0)) (E := 6) (by
    intro n x ⟨k0, hx⟩
    simp only [f_X4_townsIn_b4]
    rw [if_pos (show (6 : Int32) ≤ jj 6 by rw [jj_of]; exact Int32.le_refl _)]
    exact wp_some hx) (by
    intro n x k hk ⟨k0, hx⟩ ih
    have hk2 : ¬ 6 ≤ k := by omega
    have e := hH k k0 hk
    have hbk := hb k k0 hk
    simp only [f_X4_townsIn_b4]
    simp (disch := omega) only [jj_of, jj_le, jj_add, jj_nat, jj_eq, chk_true (jj_inb _ _ _), lt, if_false, hk2, e]
    rw [show jj 31 = 31 from (jj_of 31).symm, show jj 1 = 1 from (jj_of 1).symm]
    refine wp_ite (fun w => ?_) (fun w => ?_)
    · refine ih _ ⟨by omega, tb_ext (tb_set hx k0 (by omega)) (fun t a b => ?_)⟩
      rw [UP_at]
      by_cases z : t = k
      · rw [if_pos z, if_pos ⟨by omega, by rw [z]; exact w⟩]
      · rw [if_neg z]
        by_cases z2 : t < k ∧ hm t = c
        · rw [if_pos z2, if_pos ⟨by omega, z2.2⟩]
        · rw [if_neg z2, if_neg (fun y => z2 ⟨by omega, y.2⟩)]
    · refine ih x ⟨by omega, tb_ext hx (fun t a b => ?_)⟩
      by_cases z2 : t < k ∧ hm t = c
      · rw [if_pos z2, if_pos ⟨by omega, z2.2⟩]
      · rw [if_neg z2, if_neg (fun y => z2 ⟨by
          by_cases z : t = k
          · rw [z] at y; exact absurd y.2 w
          · omega, y.2⟩)]) 6 N 0 (jj 0) (by decide) (by omega) ⟨by decide, tb_zero (fun t a b => if_neg (by omega))⟩
  exact this
theorem r_townsIn {S : St} {N : Nat} {A : Int → Int} {c : Int} (hN : 4000 < N) (hA : AR 1000 S A) (hT : TOK A) (c0 : -1 ≤ c) (c1 : c ≤ 11) : ∃ x, f_X10_townsIn N S (jj c) = some x ∧ TB x (fun t => if t < A 1 ∧ A (35 + t) = c then 1 else 0) := by
  have e1 : gI S 1000 0 1 = jj (A 1) := hA 1 (by decide) (by decide)
  have t0 := hT.1
  have t6 := hT.2.1
  have := wp_up (F := fun n (x : Int32) k => f_X10_townsIn_b4 N n (jj c) x (jj k) S) (P := fun k x => 0 ≤ k ∧ TB x (fun t => if t < k ∧ A (35 + t) = c then 1 else 0)) (Q := fun x => TB x (fun t => if t < A 1 ∧ A (35 + t) = c then 1 else 0)) (E := A 1) (by
    intro n x ⟨k0, hx⟩
    simp only [f_X10_townsIn_b4]
    rw [e1, if_pos (Int32.le_refl _)]
    exact wp_some hx) (by
    intro n x k hk ⟨k0, hx⟩ ih
    have hk2 : ¬ A 1 ≤ k := by omega
    have e := hA (35 + k) (by omega) (by omega)
    have hbk := hT.2.2 k k0 hk
    simp only [f_X10_townsIn_b4]
    rw [e1]
    simp (disch := omega) only [jj_of, jj_le, jj_add, jj_nat, jj_eq, chk_true (jj_inb _ _ _), lt, if_false, hk2, e]
    rw [show jj 31 = 31 from (jj_of 31).symm, show jj 1 = 1 from (jj_of 1).symm]
    refine wp_ite (fun w => ?_) (fun w => ?_)
    · refine ih _ ⟨by omega, tb_ext (tb_set hx k0 (by omega)) (fun t a b => ?_)⟩
      rw [UP_at]
      by_cases z : t = k
      · rw [if_pos z, if_pos ⟨by omega, by rw [z]; exact w⟩]
      · rw [if_neg z]
        by_cases z2 : t < k ∧ A (35 + t) = c
        · rw [if_pos z2, if_pos ⟨by omega, z2.2⟩]
        · rw [if_neg z2, if_neg (fun y => z2 ⟨by omega, y.2⟩)]
    · rw [or0]
      refine ih x ⟨by omega, tb_ext hx (fun t a b => ?_)⟩
      by_cases z2 : t < k ∧ A (35 + t) = c
      · rw [if_pos z2, if_pos ⟨by omega, z2.2⟩]
      · rw [if_neg z2, if_neg (fun y => z2 ⟨by
          by_cases z : t = k
          · rw [z] at y; exact absurd y.2 w
          · omega, y.2⟩)]) (A 1).toNat N 0 (jj 0) (by omega) (by omega) ⟨by omega, tb_zero (fun t a b => if_neg (by omega))⟩
  exact this
theorem towns_two {S : St} {N : Nat} {A : Int → Int} {M c : Int} (hN : 4000 < N) (hO : OKS A M) (hX : SHX S 0 1 A) (hA : AR 1000 S A) (c0 : -1 ≤ c) (c1 : c ≤ 11) : ∃ x, f_X4_townsIn N 0 S (jj c) = some x ∧ f_X10_townsIn N S (jj c) = some x := by
  have hT := hO.2.1
  have t6 := hT.2.1
  obtain ⟨x, ex, tx⟩ := x_townsIn (c := c) hN hX.2.2.2.1 (fun t a b => by
    unfold hmA
    by_cases q : t < A 1
    · rw [if_pos q]; have := hT.2.2 t a q; omega
    · rw [if_neg q]; omega) c0 c1
  obtain ⟨y, ey, ty⟩ := r_townsIn (c := c) hN hA hT c0 c1
  have : x = y := (tb_one tx ty).mpr (fun t a b => by
    unfold hmA
    by_cases q : t < A 1
    · simp only [q, if_true, true_and, show t < 6 by omega]
    · rw [if_neg (show ¬ (t < A 1 ∧ A (35 + t) = c) from fun z => q z.1), if_neg (fun z => by rw [if_neg q] at z; omega)])
  exact ⟨x, ex, by rw [this]; exact ey⟩
theorem k_fallen {S : St} {N : Nat} {T : Int} (hN : 4000 < N) (hI : INV T S) : ONE (fun S => f_X9_fallen N S) (fun S => f_X10_fallen N S) S := by
  obtain ⟨A, B, hI⟩ := hI
  obtain ⟨em, et, hX, hR⟩ := INVA_get hI
  obtain ⟨x, e1, e2⟩ := towns_two (c := -1) hN hX.2.1.1 hX.1.2.1 hR.1 (by decide) (by decide)
  refine ⟨x, ?_, ?_⟩
  · show f_X9_fallen N S = _
    unfold f_X9_fallen
    rw [show (-1 : Int32) = jj (-1) from rfl, bnd_of e1]
  · show f_X10_fallen N S = _
    unfold f_X10_fallen
    rw [show (-1 : Int32) = jj (-1) from rfl, bnd_of e2]
theorem k_ofTown {S : St} {T : Int} (hI : INV T S) (x : Int32) : ONE (fun S => f_X9_ofTown S x) (fun S => f_X10_ofTown S x) S := by
  obtain ⟨A, B, hI⟩ := hI
  obtain ⟨em, et, hX, hR⟩ := INVA_get hI
  obtain ⟨z, rfl, b1, b2⟩ := jj_ex x
  have hT := hX.2.1.1.2.1
  have t0 := hT.1
  have t6 := hT.2.1
  have e1 : gI S 1000 0 1 = jj (A 1) := hR.1 1 (by decide) (by decide)
  refine ⟨jj (if 0 ≤ z ∧ z < A 1 then A (35 + z) else -2), ?_, ?_⟩
  · show f_X9_ofTown S (jj z) = _
    unfold f_X9_ofTown f_X9_isTown
    rw [hX.1.1.2.1]
    simp (disch := omega) only [jj_of, jj_add, jj_sub, jj_mul, jj_neg, jj_le, jj_lt, jj_eq, jj_nat, chk_true (jj_inb _ _ _), chk_true (jj_nz _ _ _), lt]
    by_cases q : z < 0
    · rw [if_pos q, bnd_of rfl, if_pos rfl, if_neg (by omega)]
    · rw [if_neg q]
      by_cases q2 : A 1 ≤ z
      · rw [if_pos q2, bnd_of rfl, if_pos rfl, if_neg (by omega)]
      · rw [if_neg q2, bnd_of rfl, if_neg (by decide), if_pos (by omega), chk_true (jj_inb (by omega) (by omega) (by omega))]
        have := hX.1.2.1.2.2.2.1 z (by omega) (by omega)
        unfold hmA at this
        rw [if_pos (by omega)] at this
        rw [this]
  · show f_X10_ofTown S (jj z) = _
    unfold f_X10_ofTown
    rw [e1]
    simp only [jj_of, jj_sub]
    rw [bnd_of (q_isIn2 b1 b2 (by decide) (by decide) (by omega) (by omega))]
    by_cases q : 0 ≤ z ∧ z < A 1
    · have e := hR.1 (35 + z) (by omega) (by omega)
      rw [if_pos (show 0 ≤ z ∧ z ≤ A 1 - 1 by omega), if_neg (by decide), if_pos q]
      simp (disch := omega) only [jj_of, jj_add, jj_sub, jj_mul, jj_neg, jj_le, jj_lt, jj_eq, jj_nat, chk_true (jj_inb _ _ _), chk_true (jj_nz _ _ _), lt, e]
    · rw [if_neg (show ¬ (0 ≤ z ∧ z ≤ A 1 - 1) by omega), if_pos rfl, if_neg q]
      rfl
theorem k_ofHand {S : St} {T : Int} (hI : INV T S) (x : Int32) : ONE (fun S => f_X9_ofHand S x) (fun S => f_X10_ofHand S x) S := by
  obtain ⟨A, B, hI⟩ := hI
  obtain ⟨em, et, hX, hR⟩ := INVA_get hI
  obtain ⟨z, rfl, b1, b2⟩ := jj_ex x
  have a0 := hX.2.1.1.2.2.1.1
  have a4 := hX.2.1.1.2.2.1.2.1
  refine ⟨jj (if 0 ≤ z ∧ z < A 0 then A (47 + z) else -1), ?_, ?_⟩
  · show f_X9_ofHand S (jj z) = _
    unfold f_X9_ofHand
    rw [bnd_of (x_isHand hX.1.1.1 a0 a4 b1 b2)]
    by_cases q : 0 ≤ z ∧ z < A 0
    · have := hX.1.1.2.2.2.2.2.1 z q.1 q.2
      rw [if_pos q, if_neg (by decide), if_pos q, chk_true (jj_inb (by omega) (by omega) (by omega)), jj_nat (by omega) (by omega), this]
    · rw [if_neg q, if_pos (by decide), if_neg q]
      rfl
  · show f_X10_ofHand S (jj z) = _
    unfold f_X10_ofHand
    rw [bnd_of (r_isHand hR.1 a0 a4 b1 b2)]
    by_cases q : 0 ≤ z ∧ z < A 0
    · have e := hR.1 (47 + z) (by omega) (by omega)
      rw [if_pos q, if_neg (by decide), if_pos q]
      simp (disch := omega) only [jj_of, jj_add, jj_sub, jj_mul, jj_neg, jj_le, jj_lt, jj_eq, jj_nat, chk_true (jj_inb _ _ _), chk_true (jj_nz _ _ _), lt, e]
    · rw [if_neg q, if_pos (by decide), if_neg q]
      rfl
theorem torn_two {S : St} {N : Nat} {A : Int → Int} {M : Int} (hN : 4000 < N) (hO : OKS A M) (hX : SHX S 0 1 A) (hA : AR 1000 S A) : f_X10_tornNow N S = some (gI S 404 0 0) := by
  obtain ⟨x, ex, tx⟩ := r_torn hN hA hO.1.2.1
  rw [ex, (tb_one tx hX.1.2.1).mpr (fun c a b => rfl)]
theorem k_is {S : St} {N : Nat} {T : Int} (hN : 4000 < N) (hI : INV T S) (x : Int32) : ONE (fun S => f_X9_is N S x) (fun S => f_X10_is N S x) S := by
  obtain ⟨A, B, hI⟩ := hI
  obtain ⟨em, et, hX, hR⟩ := INVA_get hI
  obtain ⟨z, rfl, b1, b2⟩ := jj_ex x
  have hL := hX.1.2.1
  have key : ∀ i : Int, 0 ≤ i → i ≤ 3 → z = i → f_X10_is N S (jj z) = some (jj (A (6 + i))) := by
    intro i i0 i1 hz
    subst hz
    have e := hR.1 (6 + z) (by omega) (by omega)
    unfold f_X10_is
    simp only [jj_of]
    rw [bnd_of (q_isIn2 b1 b2 (by decide) (by decide) (by decide) (by decide)), if_pos (show 0 ≤ z ∧ z ≤ 3 from ⟨i0, i1⟩), if_neg (by decide)]
    simp (disch := omega) only [jj_of, jj_add, jj_sub, jj_mul, jj_neg, jj_le, jj_lt, jj_eq, jj_nat, chk_true (jj_inb _ _ _), chk_true (jj_nz _ _ _), lt, e]
  show ∃ v, f_X9_is N S (jj z) = some v ∧ f_X10_is N S (jj z) = some v
  by_cases h0 : z = 0
  · refine ⟨_, ?_, key 0 (by decide) (by decide) h0⟩
    subst h0
    show some (gI S 407 0 0) = _
    rw [hL.1.2.2.2]; rfl
  by_cases h1 : z = 1
  · refine ⟨_, ?_, key 1 (by decide) (by decide) h1⟩
    subst h1
    show some (gI S 408 0 0) = _
    rw [hL.2.2.1]; rfl
  by_cases h2 : z = 2
  · refine ⟨_, ?_, key 2 (by decide) (by decide) h2⟩
    subst h2
    show some (gI S 406 0 0) = _
    rw [hL.2.1]; rfl
  by_cases h3 : z = 3
  · refine ⟨_, ?_, key 3 (by decide) (by decide) h3⟩
    subst h3
    show some (gI S 405 0 0) = _
    rw [hL.1.2.2.1]; rfl
  have nin : ¬ (0 ≤ z ∧ z ≤ 3) := by omega
  by_cases h4 : z = 4
  · refine ⟨gI S 404 0 0, ?_, ?_⟩
    · subst h4; rfl
    · unfold f_X10_is
      simp only [jj_of]
      rw [bnd_of (q_isIn2 b1 b2 (by decide) (by decide) (by decide) (by decide)), if_neg nin, if_pos rfl, h4, if_pos rfl, bnd_of (torn_two hN hX.2.1.1 hL hR.1)]
  by_cases h5 : z = 5
  · refine ⟨jj (pre (fun i => A (11 + i)) 12), ?_, ?_⟩
    · subst h5
      have := q_sum (j := 0) (LAY_CC hL.1) (show 20 < N by omega) (a := 0) (b := 12) (by decide) (by decide) (by decide)
      show bnd (f_X3_sum N 0 S (0 : Int32) (12 : Int32)) (fun q1 => some q1) = _
      simp only [jj_of]
      rw [bnd_of this, show pre (fun i => A (11 + i)) (Int.toNat 12) - pre (fun i => A (11 + i)) (Int.toNat 0) = pre (fun i => A (11 + i)) 12 - 0 from rfl, Int.sub_zero]
    · have := q_doughOf (AR_CA hR.1) (show 20 < N by omega) (a := 0) (m := 12) (by decide) (by decide) (by decide)
      unfold f_X10_is
      simp only [jj_of]
      rw [bnd_of (q_isIn2 b1 b2 (by decide) (by decide) (by decide) (by decide)), if_neg nin, if_pos rfl, h5, if_neg (by decide), if_pos rfl, bnd_of this, show pre (fun i => A (11 + i)) (Int.toNat (0 + 12)) - pre (fun i => A (11 + i)) (Int.toNat 0) = pre (fun i => A (11 + i)) 12 - 0 from rfl, Int.sub_zero]
  · refine ⟨jj (-2), ?_, ?_⟩
    · unfold f_X9_is
      simp (disch := omega) only [jj_of, jj_add, jj_sub, jj_mul, jj_neg, jj_le, jj_lt, jj_eq, jj_nat, chk_true (jj_inb _ _ _), chk_true (jj_nz _ _ _), lt]
      rw [if_neg h0, if_neg h1, if_neg h2, if_neg h3, if_neg h4, if_neg h5]
    · unfold f_X10_is
      simp only [jj_of]
      rw [bnd_of (q_isIn2 b1 b2 (by decide) (by decide) (by decide) (by decide)), if_neg nin, if_pos rfl]
      simp (disch := omega) only [jj_of, jj_add, jj_sub, jj_mul, jj_neg, jj_le, jj_lt, jj_eq, jj_nat, chk_true (jj_inb _ _ _), chk_true (jj_nz _ _ _), lt]
      rw [if_neg h4, if_neg h5]
theorem k_about {S : St} {T : Int} (hI : INV T S) (x : Int32) : ONE (fun S => f_X9_about S x) (fun S => f_X10_about S x) S := by
  obtain ⟨A, B, hI⟩ := hI
  obtain ⟨em, et, hX, hR⟩ := INVA_get hI
  obtain ⟨n, b, p1, p2, -⟩ := hI.2.2.2.2.2.2.2.2.1
  obtain ⟨z, rfl, b1, b2⟩ := jj_ex x
  have hH := hX.1.1
  have key : ∀ i : Int, 0 ≤ i → i ≤ 5 → z = i → f_X10_about S (jj z) = some (jj (A i)) := by
    intro i i0 i1 hz
    subst hz
    have e := hR.1 z (by omega) (by omega)
    unfold f_X10_about
    simp only [jj_of]
    rw [bnd_of (q_isIn2 b1 b2 (by decide) (by decide) (by decide) (by decide)), if_pos (show 0 ≤ z ∧ z ≤ 5 from ⟨i0, i1⟩), if_neg (by decide)]
    simp (disch := omega) only [jj_of, jj_add, jj_sub, jj_mul, jj_neg, jj_le, jj_lt, jj_eq, jj_nat, chk_true (jj_inb _ _ _), chk_true (jj_nz _ _ _), lt, e]
  show ∃ v, f_X9_about S (jj z) = some v ∧ f_X10_about S (jj z) = some v
  by_cases h0 : z = 0
  · exact ⟨_, by subst h0; show some (gI S 805 0 0) = _; rw [hH.1], key 0 (by decide) (by decide) h0⟩
  by_cases h1 : z = 1
  · exact ⟨_, by subst h1; show some (gI S 806 0 0) = _; rw [hH.2.1], key 1 (by decide) (by decide) h1⟩
  by_cases h2 : z = 2
  · exact ⟨_, by subst h2; show some (gI S 808 0 0) = _; rw [hH.2.2.1], key 2 (by decide) (by decide) h2⟩
  by_cases h3 : z = 3
  · exact ⟨_, by subst h3; show some (gI S 809 0 0) = _; rw [hH.2.2.2.1], key 3 (by decide) (by decide) h3⟩
  by_cases h4 : z = 4
  · exact ⟨_, by subst h4; show some (gI S 803 0 0) = _; rw [hX.1.2.2.1], key 4 (by decide) (by decide) h4⟩
  by_cases h5 : z = 5
  · exact ⟨_, by subst h5; show some (gI S 811 0 0) = _; rw [hH.2.2.2.2.1], key 5 (by decide) (by decide) h5⟩
  have nin : ¬ (0 ≤ z ∧ z ≤ 5) := by omega
  by_cases h6 : z = 6
  · refine ⟨jj n, by subst h6; show some (gI S 501 0 0) = _; rw [p1], ?_⟩
    unfold f_X10_about
    simp only [jj_of]
    rw [bnd_of (q_isIn2 b1 b2 (by decide) (by decide) (by decide) (by decide)), if_neg nin, if_pos rfl, h6, if_pos rfl, p2]
  · refine ⟨jj (-2), ?_, ?_⟩
    · unfold f_X9_about
      simp (disch := omega) only [jj_of, jj_add, jj_sub, jj_mul, jj_neg, jj_le, jj_lt, jj_eq, jj_nat, chk_true (jj_inb _ _ _), chk_true (jj_nz _ _ _), lt]
      rw [if_neg h0, if_neg h1, if_neg h2, if_neg h3, if_neg h4, if_neg h5, if_neg h6]
    · unfold f_X10_about
      simp only [jj_of]
      rw [bnd_of (q_isIn2 b1 b2 (by decide) (by decide) (by decide) (by decide)), if_neg nin, if_pos rfl]
      simp (disch := omega) only [jj_of, jj_add, jj_sub, jj_mul, jj_neg, jj_le, jj_lt, jj_eq, jj_nat, chk_true (jj_inb _ _ _), chk_true (jj_nz _ _ _), lt]
      rw [if_neg h6]
theorem k_fault {S : St} {T : Int} (hI : INV T S) (x : Int32) : ONE (fun S => f_X9_fault S x) (fun S => f_X10_fault S x) S := by
  obtain ⟨A, B, hI⟩ := hI
  rcases hI.2.2.2.2.2.2.2.2.2.1 with ⟨h1, h2, h3⟩ | ⟨h1, h2, h3⟩
  · refine ⟨-1, ?_, ?_⟩
    · show f_X9_fault S x = _
      unfold f_X9_fault
      rw [h1, if_pos rfl]
    · show f_X10_fault S x = _
      unfold f_X10_fault
      rw [h2, h3]
      repeat' split
      all_goals rfl
  · have n1 : ¬ (1 : Int32) = 0 := by decide
    show ∃ v, f_X9_fault S x = some v ∧ f_X10_fault S x = some v
    unfold f_X9_fault f_X10_fault
    rw [h1, if_neg n1, h2, h3]
    by_cases q : x = 0
    · rw [if_pos q]; exact ⟨_, rfl, rfl⟩
    · rw [if_neg q]
      by_cases q2 : x = 1
      · rw [if_pos q2]; exact ⟨_, rfl, rfl⟩
      · rw [if_neg q2]; exact ⟨_, rfl, rfl⟩
