/-! sees, lake, glaze -/
/-- what cell z sees to the right -/
def SEER (c : Int → Int) (z r : Int) : Prop := (r = -1 ∧ ∀ k, 1 ≤ k → z + k < 12 → c (z + k) ≤ c z) ∨ (∃ k, 1 ≤ k ∧ z + k < 12 ∧ r = z + k ∧ c z < c (z + k) ∧ ∀ i, 1 ≤ i → i < k → c (z + i) ≤ c z)
theorem SEER_one {c : Int → Int} {z r s : Int} (h : SEER c z r) (h2 : SEER c z s) : r = s := by
  rcases h with ⟨e, h⟩ | ⟨k, k1, k2, e, k3, k4⟩
  · rcases h2 with ⟨e2, _⟩ | ⟨k, k1, k2, e2, k3, k4⟩
    · omega
    · have := h k k1 k2
      omega
  · rcases h2 with ⟨e2, h⟩ | ⟨i, i1, i2, e2, i3, i4⟩
    · have := h k k1 k2
      omega
    · rcases Int.lt_trichotomy k i with q | q | q
      · have := i4 k k1 q
        omega
      · subst q; omega
      · have := k4 i i1 q
        omega
theorem seeR_X {S : St} {c : Int → Int} (hC : CC S 0 c) (hB : CB c) {N : Nat} (hN : 20 < N) {z : Int} (z1 : 0 ≤ z) (z2 : z < 12) : ∃ r, f_X3_firstHigher N 0 S (jj z) (jj 1) = some r ∧ ∃ v, r = jj v ∧ SEER c z v := by
  have hz := hB z z1 z2
  refine one_rule (F := fun n (_ : Unit) k => f_X3_firstHigher_b2 N 0 n (jj z) (jj 1) (jj k) S) (P := fun k _ => 1 ≤ k ∧ ∀ i, 1 ≤ i → i < k → z + i < 12 → c (z + i) ≤ c z) (Q := fun r => ∃ v, r = jj v ∧ SEER c z v) (E := 12) ?_ ?_ 11 N 1 () (by omega) (by omega) ⟨Int.le_refl 1, fun i h h2 => by omega⟩
  · intro n a ⟨h1, h2⟩
    refine ⟨jj (-1), ?_, -1, rfl, Or.inl ⟨rfl, fun k k1 k2 => ?_⟩⟩
    · simp only [f_X3_firstHigher_b2]; simp (disch := omega) only [jj_of, jj_add, jj_sub, jj_mul, jj_neg, jj_le, jj_lt, jj_eq, jj_nat, chk_true (jj_inb _ _ _), chk_true (jj_nz _ _ _), lt, if_true, if_false, reduceIte, Int.le_refl]
    · exact h2 k k1 (by omega) k2
  · intro n a k hk ⟨h1, h2⟩ ih
    have hk2 : ¬ 12 ≤ k := by omega
    simp only [f_X3_firstHigher_b2, f_X3_firstHigher_b21]
    simp (disch := omega) only [jj_of, jj_add, jj_sub, jj_mul, jj_neg, jj_le, jj_lt, jj_eq, jj_nat, chk_true (jj_inb _ _ _), chk_true (jj_nz _ _ _), lt, if_true, if_false, reduceIte, hk2, show ((1 : Int) = 0) = False from eq_false (by decide)]
    by_cases hi : z + k < 12
    · have hb := hB (z + k) (by omega) (by omega)
      have i1 : ¬ z + k < 0 := by omega
      have i2 : ¬ 12 ≤ z + k := by omega
      simp (disch := omega) only [jj_of, jj_add, jj_sub, jj_mul, jj_neg, jj_le, jj_lt, jj_eq, jj_nat, chk_true (jj_inb _ _ _), chk_true (jj_nz _ _ _), lt, if_true, if_false, reduceIte, i1, i2, hC _]
      by_cases hc : c (z + k) ≤ c z
      · simp only [hc, if_true, if_false, reduceIte]
        refine ih () ⟨by omega, fun i i1 i2 i3 => ?_⟩
        by_cases e : i = k
        · subst e; exact hc
        · exact h2 i i1 (by omega) i3
      · simp only [hc, if_true, if_false, reduceIte]
        exact ⟨_, rfl, _, rfl, Or.inr ⟨k, h1, hi, rfl, by omega, fun i i1 i2 => h2 i i1 i2 (by omega)⟩⟩
    · have ih2 := ih () ⟨by omega, fun i i1 i2 i3 => by
        by_cases e : i = k
        · subst e; exact absurd i3 hi
        · exact h2 i i1 (by omega) i3⟩
      by_cases i1 : z + k < 0
      · simp (disch := omega) only [jj_of, jj_add, jj_sub, jj_mul, jj_neg, jj_le, jj_lt, jj_eq, jj_nat, chk_true (jj_inb _ _ _), chk_true (jj_nz _ _ _), lt, if_true, if_false, reduceIte, i1]
        exact ih2
      · have i2 : 12 ≤ z + k := by omega
        simp (disch := omega) only [jj_of, jj_add, jj_sub, jj_mul, jj_neg, jj_le, jj_lt, jj_eq, jj_nat, chk_true (jj_inb _ _ _), chk_true (jj_nz _ _ _), lt, if_true, if_false, reduceIte, i1, i2]
        exact ih2
theorem seeR_M {S : St} {c : Int → Int} (hA : CA S c) (hB : CB c) {N : Nat} (hN : 20 < N) {z : Int} (z1 : 0 ≤ z) (z2 : z < 12) : ∃ r, bnd (f_X10_besideOf S (jj z) (jj 1)) (fun q2 => f_X10_sees_b15 N N (jj z) (jj 1) q2 S) = some r ∧ ∃ v, r = jj v ∧ SEER c z v := by
  have hz := hB z z1 z2
  have hbes : ∀ k : Int, -1 ≤ k → k < 12 → z + (k - z + 1) < 12 → f_X10_besideOf S (jj k) (jj 1) = some (jj (k + 1)) := by
    intro k k1 k2 k3
    unfold f_X10_besideOf
    have h13 : ¬ 12 ≤ k + 1 := by omega
    simp (disch := omega) only [jj_of, jj_add, jj_sub, jj_mul, jj_neg, jj_le, jj_lt, jj_eq, jj_nat, chk_true (jj_inb _ _ _), chk_true (jj_nz _ _ _), lt, if_true, if_false, reduceIte, show ((1 : Int) = 0) = False from eq_false (by decide), h13]
  have hend : f_X10_besideOf S (jj (11)) (jj 1) = some (jj (-1)) := by
    unfold f_X10_besideOf
    simp (disch := omega) only [jj_of, jj_add, jj_sub, jj_mul, jj_neg, jj_le, jj_lt, jj_eq, jj_nat, chk_true (jj_inb _ _ _), chk_true (jj_nz _ _ _), lt, if_true, if_false, reduceIte, show ((1 : Int) = 0) = False from eq_false (by decide)]
    rfl
  have main := one_rule (F := fun n (_ : Unit) k => f_X10_sees_b15 N n (jj z) (jj 1) (jj (if z + k < 12 then z + k else -1)) S) (P := fun k _ => 1 ≤ k ∧ ∀ i, 1 ≤ i → i < k → z + i < 12 → c (z + i) ≤ c z) (Q := fun r => ∃ v, r = jj v ∧ SEER c z v) (E := 12 - z) ?_ ?_ (11 - z).toNat N 1 () (by omega) (by omega) ⟨Int.le_refl 1, fun i h h2 => by omega⟩
  · obtain ⟨r, e, hr⟩ := main
    refine ⟨r, ?_, hr⟩
    by_cases hi : z + 1 < 12
    · rw [if_pos hi] at e
      rw [bnd_of (hbes z (by omega) z2 (by omega))]
      exact e
    · rw [if_neg hi] at e
      have : z = 11 := by omega
      subst this
      rw [bnd_of hend]
      exact e
  · intro n a ⟨h1, h2⟩
    refine ⟨jj (-1), ?_, -1, rfl, Or.inl ⟨rfl, fun k k1 k2 => ?_⟩⟩
    · rw [if_neg (by omega)]
      simp only [f_X10_sees_b15]; simp (disch := omega) only [jj_of, jj_add, jj_sub, jj_mul, jj_neg, jj_le, jj_lt, jj_eq, jj_nat, chk_true (jj_inb _ _ _), chk_true (jj_nz _ _ _), lt, if_true, if_false, reduceIte]
    · exact h2 k k1 (by omega) k2
  · intro n a k hk ⟨h1, h2⟩ ih
    have hi : z + k < 12 := by omega
    have hb := hB (z + k) (by omega) (by omega)
    have hm : ¬ z + k = -1 := by omega
    simp only [f_X10_sees_b15, if_pos hi]
    simp (disch := omega) only [jj_of, jj_add, jj_sub, jj_mul, jj_neg, jj_le, jj_lt, jj_eq, jj_nat, chk_true (jj_inb _ _ _), chk_true (jj_nz _ _ _), lt, if_true, if_false, reduceIte, hA _, hm]
    by_cases hc : c z < c (z + k)
    · simp only [hc, if_true, if_false, reduceIte]
      exact ⟨_, rfl, _, rfl, Or.inr ⟨k, h1, hi, rfl, hc, fun i i1 i2 => h2 i i1 i2 (by omega)⟩⟩
    · simp only [hc, if_true, if_false, reduceIte]
      have ih2 := ih () ⟨by omega, fun i i1 i2 i3 => by
        by_cases e : i = k
        · subst e; omega
        · exact h2 i i1 (by omega) i3⟩
      by_cases hi2 : z + (k + 1) < 12
      · rw [bnd_of (hbes (z + k) (by omega) (by omega) (by omega))]
        rw [if_pos hi2] at ih2
        rw [show z + k + 1 = z + (k + 1) by omega]
        exact ih2
      · rw [if_neg hi2] at ih2
        rw [show z + k = 11 by omega, bnd_of hend]
        exact ih2
/-- what cell z sees to the left -/
def SEEL (c : Int → Int) (z r : Int) : Prop := (r = -1 ∧ ∀ k, 1 ≤ k → 0 ≤ z - k → c (z - k) ≤ c z) ∨ (∃ k, 1 ≤ k ∧ 0 ≤ z - k ∧ r = z - k ∧ c z < c (z - k) ∧ ∀ i, 1 ≤ i → i < k → c (z - i) ≤ c z)
theorem SEEL_one {c : Int → Int} {z r s : Int} (h : SEEL c z r) (h2 : SEEL c z s) : r = s := by
  rcases h with ⟨e, h⟩ | ⟨k, k1, k2, e, k3, k4⟩
  · rcases h2 with ⟨e2, _⟩ | ⟨k, k1, k2, e2, k3, k4⟩
    · omega
    · have := h k k1 k2
      omega
  · rcases h2 with ⟨e2, h⟩ | ⟨i, i1, i2, e2, i3, i4⟩
    · have := h k k1 k2
      omega
    · rcases Int.lt_trichotomy k i with q | q | q
      · have := i4 k k1 q
        omega
      · subst q; omega
      · have := k4 i i1 q
        omega
theorem seeL_X {S : St} {c : Int → Int} (hC : CC S 0 c) (hB : CB c) {N : Nat} (hN : 20 < N) {z : Int} (z1 : 0 ≤ z) (z2 : z < 12) : ∃ r, f_X3_firstHigher N 0 S (jj z) (jj 0) = some r ∧ ∃ v, r = jj v ∧ SEEL c z v := by
  have hz := hB z z1 z2
  refine one_rule (F := fun n (_ : Unit) k => f_X3_firstHigher_b2 N 0 n (jj z) (jj 0) (jj k) S) (P := fun k _ => 1 ≤ k ∧ ∀ i, 1 ≤ i → i < k → 0 ≤ z - i → c (z - i) ≤ c z) (Q := fun r => ∃ v, r = jj v ∧ SEEL c z v) (E := 12) ?_ ?_ 11 N 1 () (by omega) (by omega) ⟨Int.le_refl 1, fun i h h2 => by omega⟩
  · intro n a ⟨h1, h2⟩
    refine ⟨jj (-1), ?_, -1, rfl, Or.inl ⟨rfl, fun k k1 k2 => ?_⟩⟩
    · simp only [f_X3_firstHigher_b2]; simp (disch := omega) only [jj_of, jj_add, jj_sub, jj_mul, jj_neg, jj_le, jj_lt, jj_eq, jj_nat, chk_true (jj_inb _ _ _), chk_true (jj_nz _ _ _), lt, if_true, if_false, reduceIte, Int.le_refl]
    · exact h2 k k1 (by omega) k2
  · intro n a k hk ⟨h1, h2⟩ ih
    have hk2 : ¬ 12 ≤ k := by omega
    simp only [f_X3_firstHigher_b2, f_X3_firstHigher_b21]
    simp (disch := omega) only [jj_of, jj_add, jj_sub, jj_mul, jj_neg, jj_le, jj_lt, jj_eq, jj_nat, chk_true (jj_inb _ _ _), chk_true (jj_nz _ _ _), lt, if_true, if_false, reduceIte, hk2, show ((1 : Int) = 0) = False from eq_false (by decide)]
    by_cases hi : 0 ≤ z - k
    · have hb := hB (z - k) (by omega) (by omega)
      have i1 : ¬ z - k < 0 := by omega
      have i2 : ¬ 12 ≤ z - k := by omega
      simp (disch := omega) only [jj_of, jj_add, jj_sub, jj_mul, jj_neg, jj_le, jj_lt, jj_eq, jj_nat, chk_true (jj_inb _ _ _), chk_true (jj_nz _ _ _), lt, if_true, if_false, reduceIte, i1, i2, hC _]
      by_cases hc : c (z - k) ≤ c z
      · simp only [hc, if_true, if_false, reduceIte]
        refine ih () ⟨by omega, fun i i1 i2 i3 => ?_⟩
        by_cases e : i = k
        · subst e; exact hc
        · exact h2 i i1 (by omega) i3
      · simp only [hc, if_true, if_false, reduceIte]
        exact ⟨_, rfl, _, rfl, Or.inr ⟨k, h1, hi, rfl, by omega, fun i i1 i2 => h2 i i1 i2 (by omega)⟩⟩
    · have ih2 := ih () ⟨by omega, fun i i1 i2 i3 => by
        by_cases e : i = k
        · subst e; exact absurd i3 hi
        · exact h2 i i1 (by omega) i3⟩
      by_cases i1 : z - k < 0
      · simp (disch := omega) only [jj_of, jj_add, jj_sub, jj_mul, jj_neg, jj_le, jj_lt, jj_eq, jj_nat, chk_true (jj_inb _ _ _), chk_true (jj_nz _ _ _), lt, if_true, if_false, reduceIte, i1]
        exact ih2
      · have i2 : 12 ≤ z - k := by omega
        simp (disch := omega) only [jj_of, jj_add, jj_sub, jj_mul, jj_neg, jj_le, jj_lt, jj_eq, jj_nat, chk_true (jj_inb _ _ _), chk_true (jj_nz _ _ _), lt, if_true, if_false, reduceIte, i1, i2]
        exact ih2
theorem seeL_M {S : St} {c : Int → Int} (hA : CA S c) (hB : CB c) {N : Nat} (hN : 20 < N) {z : Int} (z1 : 0 ≤ z) (z2 : z < 12) : ∃ r, bnd (f_X10_besideOf S (jj z) (jj 0)) (fun q2 => f_X10_sees_b15 N N (jj z) (jj 0) q2 S) = some r ∧ ∃ v, r = jj v ∧ SEEL c z v := by
  have hz := hB z z1 z2
  have hbes : ∀ k : Int, -1 ≤ k → k < 12 → 0 ≤ z - (z - k + 1) → f_X10_besideOf S (jj k) (jj 0) = some (jj (k - 1)) := by
    intro k k1 k2 k3
    unfold f_X10_besideOf
    skip
    simp (disch := omega) only [jj_of, jj_add, jj_sub, jj_mul, jj_neg, jj_le, jj_lt, jj_eq, jj_nat, chk_true (jj_inb _ _ _), chk_true (jj_nz _ _ _), lt, if_true, if_false, reduceIte, show ((1 : Int) = 0) = False from eq_false (by decide)]
  have hend : f_X10_besideOf S (jj (0)) (jj 0) = some (jj (-1)) := by
    unfold f_X10_besideOf
    simp (disch := omega) only [jj_of, jj_add, jj_sub, jj_mul, jj_neg, jj_le, jj_lt, jj_eq, jj_nat, chk_true (jj_inb _ _ _), chk_true (jj_nz _ _ _), lt, if_true, if_false, reduceIte, show ((1 : Int) = 0) = False from eq_false (by decide)]
    rfl
  have main := one_rule (F := fun n (_ : Unit) k => f_X10_sees_b15 N n (jj z) (jj 0) (jj (if 0 ≤ z - k then z - k else -1)) S) (P := fun k _ => 1 ≤ k ∧ ∀ i, 1 ≤ i → i < k → 0 ≤ z - i → c (z - i) ≤ c z) (Q := fun r => ∃ v, r = jj v ∧ SEEL c z v) (E := z + 1) ?_ ?_ (z).toNat N 1 () (by omega) (by omega) ⟨Int.le_refl 1, fun i h h2 => by omega⟩
  · obtain ⟨r, e, hr⟩ := main
    refine ⟨r, ?_, hr⟩
    by_cases hi : 0 ≤ z - 1
    · rw [if_pos hi] at e
      rw [bnd_of (hbes z (by omega) z2 (by omega))]
      exact e
    · rw [if_neg hi] at e
      have : z = 0 := by omega
      subst this
      rw [bnd_of hend]
      exact e
  · intro n a ⟨h1, h2⟩
    refine ⟨jj (-1), ?_, -1, rfl, Or.inl ⟨rfl, fun k k1 k2 => ?_⟩⟩
    · rw [if_neg (by omega)]
      simp only [f_X10_sees_b15]; simp (disch := omega) only [jj_of, jj_add, jj_sub, jj_mul, jj_neg, jj_le, jj_lt, jj_eq, jj_nat, chk_true (jj_inb _ _ _), chk_true (jj_nz _ _ _), lt, if_true, if_false, reduceIte]
    · exact h2 k k1 (by omega) k2
  · intro n a k hk ⟨h1, h2⟩ ih
    have hi : 0 ≤ z - k := by omega
    have hb := hB (z - k) (by omega) (by omega)
    have hm : ¬ z - k = -1 := by omega
    simp only [f_X10_sees_b15, if_pos hi]
    simp (disch := omega) only [jj_of, jj_add, jj_sub, jj_mul, jj_neg, jj_le, jj_lt, jj_eq, jj_nat, chk_true (jj_inb _ _ _), chk_true (jj_nz _ _ _), lt, if_true, if_false, reduceIte, hA _, hm]
    by_cases hc : c z < c (z - k)
    · simp only [hc, if_true, if_false, reduceIte]
      exact ⟨_, rfl, _, rfl, Or.inr ⟨k, h1, hi, rfl, hc, fun i i1 i2 => h2 i i1 i2 (by omega)⟩⟩
    · simp only [hc, if_true, if_false, reduceIte]
      have ih2 := ih () ⟨by omega, fun i i1 i2 i3 => by
        by_cases e : i = k
        · subst e; omega
        · exact h2 i i1 (by omega) i3⟩
      by_cases hi2 : 0 ≤ z - (k + 1)
      · rw [bnd_of (hbes (z - k) (by omega) (by omega) (by omega))]
        rw [if_pos hi2] at ih2
        rw [show z - k - 1 = z - (k + 1) by omega]
        exact ih2
      · rw [if_neg hi2] at ih2
        rw [show z - k = 0 by omega, bnd_of hend]
        exact ih2
theorem q_sees {S : St} {c : Int → Int} (hC : CC S 0 c) (hA : CA S c) (hB : CB c) {N : Nat} (hN : 20 < N) (x : Int32) (r : Int32) (hr : r = 0 ∨ r = 1) : ∃ v, f_X9_sees N S x r = some v ∧ f_X10_sees N S x r = some v := by
  obtain ⟨z, rfl, b1, b2⟩ := jj_ex x
  unfold f_X9_sees f_X10_sees
  rw [bnd_of (q_isCell b1 b2), bnd_of (q_isCellM b1 b2)]
  by_cases q : 0 ≤ z ∧ z ≤ 11
  · obtain ⟨q1, q2⟩ := q
    have e01 : ((1 : Int) = 0) = False := eq_false (by decide)
    simp (disch := omega) only [jj_of, jj_add, jj_sub, jj_mul, jj_neg, jj_le, jj_lt, jj_eq, jj_nat, chk_true (jj_inb _ _ _), chk_true (jj_nz _ _ _), lt, q1, q2, and_self, if_true, if_false, reduceIte, e01]
    rcases hr with rfl | rfl
    · obtain ⟨r1, e1, v1, rfl, h1⟩ := seeL_X hC hB hN q1 (show z < 12 by omega)
      obtain ⟨r2, e2, v2, rfl, h2⟩ := seeL_M hA hB hN q1 (show z < 12 by omega)
      have := SEEL_one h1 h2
      subst this
      exact ⟨_, bnd_of e1 _, e2⟩
    · obtain ⟨r1, e1, v1, rfl, h1⟩ := seeR_X hC hB hN q1 (show z < 12 by omega)
      obtain ⟨r2, e2, v2, rfl, h2⟩ := seeR_M hA hB hN q1 (show z < 12 by omega)
      have := SEER_one h1 h2
      subst this
      exact ⟨_, bnd_of e1 _, e2⟩
  · refine ⟨jj (-1), ?_, ?_⟩
    · simp (disch := omega) only [jj_of, jj_add, jj_sub, jj_mul, jj_neg, jj_le, jj_lt, jj_eq, jj_nat, chk_true (jj_inb _ _ _), chk_true (jj_nz _ _ _), lt, q, if_true, if_false, reduceIte]
    · simp (disch := omega) only [jj_of, jj_add, jj_sub, jj_mul, jj_neg, jj_le, jj_lt, jj_eq, jj_nat, chk_true (jj_inb _ _ _), chk_true (jj_nz _ _ _), lt, q, if_true, if_false, reduceIte]
/-- the most of the cells from a on, ahead of b (0 at least) -/
def MX (c : Int → Int) (a b v : Int) : Prop := 0 ≤ v ∧ (∀ i, a ≤ i → i < b → c i ≤ v) ∧ (v = 0 ∨ ∃ i, a ≤ i ∧ i < b ∧ v = c i)
theorem MX_one {c : Int → Int} {a b v w : Int} (h : MX c a b v) (h2 : MX c a b w) : v = w := by
  obtain ⟨h0, h1, h2'⟩ := h
  obtain ⟨g0, g1, g2⟩ := h2
  rcases h2' with e | ⟨i, i1, i2, e⟩
  · rcases g2 with f | ⟨k, k1, k2, f⟩
    · omega
    · have := h1 k k1 k2
      omega
  · have := g1 i i1 i2
    rcases g2 with f | ⟨k, k1, k2, f⟩
    · omega
    · have := h1 k k1 k2
      omega
theorem MX_up {c : Int → Int} {a b v : Int} (h : MX c a b v) (hab : a ≤ b) : MX c a (b + 1) (if v < c b then c b else v) := by
  obtain ⟨h0, h1, h2⟩ := h
  by_cases q : v < c b
  · rw [if_pos q]
    refine ⟨by omega, fun i i1 i2 => ?_, Or.inr ⟨b, by omega, by omega, rfl⟩⟩
    by_cases e : i = b
    · subst e; omega
    · have := h1 i i1 (by omega)
      omega
  · rw [if_neg q]
    refine ⟨h0, fun i i1 i2 => ?_, ?_⟩
    · by_cases e : i = b
      · subst e; omega
      · exact h1 i i1 (by omega)
    · rcases h2 with e | ⟨i, i1, i2, e⟩
      · exact Or.inl e
      · exact Or.inr ⟨i, i1, by omega, e⟩
theorem MX_b {c : Int → Int} (hB : CB c) {a b v : Int} (h1 : 0 ≤ a) (h2 : b ≤ 12) (h : MX c a b v) : 0 ≤ v ∧ v ≤ 100000000 := by
  obtain ⟨h0, _, h3⟩ := h
  rcases h3 with e | ⟨i, i1, i2, e⟩
  · omega
  · have := hB i (by omega) (by omega)
    omega
theorem q_mostOf {S : St} {c : Int → Int} (hA : CA S c) (hB : CB c) {N : Nat} (hN : 20 < N) {a m : Int} (h1 : 0 ≤ a) (h2 : 0 ≤ m) (h3 : a + m ≤ 12) : ∃ v, f_X10_mostOf N S (jj a) (jj m) = some (jj v) ∧ MX c a (a + m) v := by
  have := one_rule (F := fun n v k => f_X10_mostOf_b5 N n (jj a) (jj m) (jj v) (jj k) S) (P := fun k v => a ≤ k ∧ MX c a k v) (Q := fun r => ∃ v, r = jj v ∧ MX c a (a + m) v) (E := a + m) ?_ ?_ m.toNat N a 0 (by omega) (by omega) ⟨Int.le_refl a, Int.le_refl 0, fun i i1 i2 => by omega, Or.inl rfl⟩
  · obtain ⟨r, e, v, rfl, h⟩ := this
    exact ⟨v, e, h⟩
  · intro n s ⟨q1, q2⟩
    refine ⟨jj s, ?_, s, rfl, q2⟩
    simp only [f_X10_mostOf_b5]; simp (disch := omega) only [jj_of, jj_add, jj_sub, jj_mul, jj_neg, jj_le, jj_lt, jj_eq, jj_nat, chk_true (jj_inb _ _ _), chk_true (jj_nz _ _ _), lt, if_true, if_false, reduceIte, Int.le_refl]
  · intro n s k hk ⟨q1, q2⟩ ih
    have hk2 : ¬ a + m ≤ k := by omega
    have hb := hB k (by omega) (by omega)
    have hs := MX_b hB h1 (by omega) q2
    have up := MX_up q2 q1
    simp only [f_X10_mostOf_b5]
    simp (disch := omega) only [jj_of, jj_add, jj_sub, jj_mul, jj_neg, jj_le, jj_lt, jj_eq, jj_nat, chk_true (jj_inb _ _ _), chk_true (jj_nz _ _ _), lt, if_true, if_false, reduceIte, hk2, hA _]
    by_cases hc : c k ≤ s
    · have hc2 : ¬ s < c k := by omega
      simp only [hc, if_true, if_false, reduceIte]
      rw [if_neg hc2] at up
      exact ih s ⟨by omega, up⟩
    · have hc2 : s < c k := by omega
      simp only [hc, if_true, if_false, reduceIte]
      rw [if_pos hc2] at up
      exact ih (c k) ⟨by omega, up⟩
theorem water_in {S : St} {c : Int → Int} (hC : CC S 0 c) (hB : CB c) {N : Nat} (hN : 20 < N) {k : Int} (h3 : 0 ≤ k) (h4 : k < 12) (s : Int32) (rec4 : Int32 → Int32 → St → Option Int32) :
    ∃ u v, MX c 0 (k + 1) u ∧ MX c k 12 v ∧ f_X3_water_b18 rec4 N 0 N s (jj k) (jj 0) (jj 0) (jj 0) S = rec4 (s + (jj (if v < u then v else u) - jj (c k))) (jj (k + 1)) S := by
  have hbk := hB k h3 h4
  have := up_loop (F := fun n (s2 : Int × Int) d => f_X3_water_b18 rec4 N 0 n s (jj k) (jj s2.1) (jj s2.2) (jj d) S) (out := fun s2 => rec4 (s + (jj (if s2.2 < s2.1 then s2.2 else s2.1) - jj (c k))) (jj (k + 1)) S) (step := fun d s2 => (if d ≤ k then (if s2.1 < c d then c d else s2.1) else s2.1, if k ≤ d then (if s2.2 < c d then c d else s2.2) else s2.2)) (P := fun d s2 => 0 ≤ d ∧ MX c 0 (if d ≤ k then d else k + 1) s2.1 ∧ MX c k (if k ≤ d then d else k) s2.2) (E := 12) ?_ ?_ 12 N 0 (0, 0) (by omega) (by omega) ⟨Int.le_refl 0, ?_, ?_⟩
  · obtain ⟨e, _, e2, e3⟩ := this
    rw [if_neg (by omega)] at e2
    rw [if_pos (by omega)] at e3
    exact ⟨_, _, e2, e3, e⟩
  · intro n ⟨s1, s2⟩ ⟨q1, q2, q3⟩
    rw [if_neg (by omega)] at q2
    rw [if_pos (by omega)] at q3
    have m1 := MX_b hB (by omega) (by omega) q2
    have m2 := MX_b hB (by omega) (by omega) q3
    simp only [f_X3_water_b18]
    by_cases q : s2 < s1
    · simp (disch := omega) only [jj_of, jj_add, jj_sub, jj_mul, jj_neg, jj_le, jj_lt, jj_eq, jj_nat, chk_true (jj_inb _ _ _), chk_true (jj_nz _ _ _), lt, if_true, if_false, reduceIte, Int.le_refl, hC _, q]
    · simp (disch := omega) only [jj_of, jj_add, jj_sub, jj_mul, jj_neg, jj_le, jj_lt, jj_eq, jj_nat, chk_true (jj_inb _ _ _), chk_true (jj_nz _ _ _), lt, if_true, if_false, reduceIte, Int.le_refl, hC _, q]
  · intro n ⟨s1, s2⟩ d hd ⟨q1, q2, q3⟩
    have hd2 : ¬ 12 ≤ d := by omega
    have hbd := hB d q1 hd
    by_cases t1 : d < k
    · have t2 : d ≤ k := by omega
      have t3 : ¬ k ≤ d := by omega
      have t4 : ¬ k < d := by omega
      rw [if_pos t2] at q2
      rw [if_neg t3] at q3
      have m1 := MX_b hB (by omega) (by omega) q2
      have m2 := MX_b hB (by omega) (by omega) q3
      have up := MX_up q2 q1
      refine ⟨?_, by omega, ?_, ?_⟩
      · simp only [f_X3_water_b18, f_X3_water_b40]
        by_cases q : s1 < c d
        · simp (disch := omega) only [jj_of, jj_add, jj_sub, jj_mul, jj_neg, jj_le, jj_lt, jj_eq, jj_nat, chk_true (jj_inb _ _ _), chk_true (jj_nz _ _ _), lt, if_true, if_false, reduceIte, hd2, hC _, t1, t2, t3, t4, q]
        · simp (disch := omega) only [jj_of, jj_add, jj_sub, jj_mul, jj_neg, jj_le, jj_lt, jj_eq, jj_nat, chk_true (jj_inb _ _ _), chk_true (jj_nz _ _ _), lt, if_true, if_false, reduceIte, hd2, hC _, t1, t2, t3, t4, q]
      · rw [if_pos (by omega), if_pos t2]; exact up
      · rw [if_neg t3]
        by_cases t5 : k ≤ d + 1
        · rw [if_pos t5, show d + 1 = k by omega]; exact q3
        · rw [if_neg t5]; exact q3
    · by_cases t2 : d = k
      · have t2' : d ≤ k := by omega
        have t3 : k ≤ d := by omega
        have t4 : ¬ k < d := by omega
        rw [if_pos t2'] at q2
        rw [if_pos t3] at q3
        have m1 := MX_b hB (by omega) (by omega) q2
        have m2 := MX_b hB (by omega) (by omega) q3
        have up := MX_up q2 q1
        have up2 := MX_up q3 t3
        refine ⟨?_, by omega, ?_, ?_⟩
        · simp only [f_X3_water_b18, f_X3_water_b40]
          by_cases q : s1 < c d <;> by_cases q4 : s2 < c d <;> simp (disch := omega) only [jj_of, jj_add, jj_sub, jj_mul, jj_neg, jj_le, jj_lt, jj_eq, jj_nat, chk_true (jj_inb _ _ _), chk_true (jj_nz _ _ _), lt, if_true, if_false, reduceIte, hd2, hC _, t1, t2', t3, t4, q, q4]
        · rw [if_neg (by omega), if_pos t2', show k + 1 = d + 1 by omega]; exact up
        · rw [if_pos (by omega), if_pos t3]; exact up2
      · have t2' : ¬ d ≤ k := by omega
        have t3 : k ≤ d := by omega
        have t4 : k < d := by omega
        rw [if_neg t2'] at q2
        rw [if_pos t3] at q3
        have m1 := MX_b hB (by omega) (by omega) q2
        have m2 := MX_b hB (by omega) (by omega) q3
        have up2 := MX_up q3 t3
        refine ⟨?_, by omega, ?_, ?_⟩
        · simp only [f_X3_water_b18, f_X3_water_b40]
          by_cases q4 : s2 < c d <;> simp (disch := omega) only [jj_of, jj_add, jj_sub, jj_mul, jj_neg, jj_le, jj_lt, jj_eq, jj_nat, chk_true (jj_inb _ _ _), chk_true (jj_nz _ _ _), lt, if_true, if_false, reduceIte, hd2, hC _, t1, t2', t3, t4, q4]
        · rw [if_neg (by omega), if_neg t2']; exact q2
        · rw [if_pos (by omega), if_pos t3]; exact up2
  · by_cases t : 0 ≤ k
    · rw [if_pos t]; exact ⟨Int.le_refl 0, fun i i1 i2 => by omega, Or.inl rfl⟩
    · omega
  · refine ⟨Int.le_refl 0, fun i i1 i2 => ?_, Or.inl rfl⟩
    by_cases t : k ≤ 0
    · rw [if_pos t] at i2; omega
    · rw [if_neg t] at i2; omega
theorem q_lake {S : St} {c : Int → Int} (hC : CC S 0 c) (hA : CA S c) (hB : CB c) {N : Nat} (hN : 20 < N) : ∃ v, f_X9_lake N S = some v ∧ f_X10_lake N S = some v := by
  have := two_rule (F := fun n a k => f_X3_water_b4 N 0 n a (jj k) S) (G := fun n a k => f_X10_lake_b4 N n a (jj k) S) (P := fun k _ => 0 ≤ k) (Q := fun _ => True) (E := 12) ?_ ?_ 12 N N 0 0 (by decide) (by omega) (by omega) (by decide)
  · obtain ⟨r, e1, e2, _⟩ := this
    exact ⟨r, bnd_of e1 _, e2⟩
  · intro n n' a h1
    refine ⟨a, ?_, ?_, trivial⟩
    · simp only [f_X3_water_b4]; simp (disch := omega) only [jj_of, jj_add, jj_sub, jj_mul, jj_neg, jj_le, jj_lt, jj_eq, jj_nat, chk_true (jj_inb _ _ _), chk_true (jj_nz _ _ _), lt, if_true, if_false, reduceIte, Int.le_refl]
    · simp only [f_X10_lake_b4]; simp (disch := omega) only [jj_of, jj_add, jj_sub, jj_mul, jj_neg, jj_le, jj_lt, jj_eq, jj_nat, chk_true (jj_inb _ _ _), chk_true (jj_nz _ _ _), lt, if_true, if_false, reduceIte, Int.le_refl]
  · intro n n' a k hk h1 ih
    have hk2 : ¬ 12 ≤ k := by omega
    obtain ⟨u, v, hu, hv, e⟩ := water_in hC hB hN h1 hk a (f_X3_water_b4 N 0 n)
    obtain ⟨u2, e2, hu2⟩ := q_mostOf hA hB hN (show (0 : Int) ≤ 0 by omega) (show 0 ≤ k + 1 by omega) (by omega)
    obtain ⟨v2, e3, hv2⟩ := q_mostOf hA hB hN h1 (show 0 ≤ 12 - k by omega) (by omega)
    rw [show (0 : Int) + (k + 1) = k + 1 by omega] at hu2
    rw [show k + (12 - k) = 12 by omega] at hv2
    have := MX_one hu hu2
    subst this
    have := MX_one hv hv2
    subst this
    have m1 := MX_b hB (by omega) (by omega) hu
    have m2 := MX_b hB (by omega) (by omega) hv
    simp only [f_X3_water_b4, f_X10_lake_b4, f_X10_lake_b43]
    simp (disch := omega) only [jj_of, jj_add, jj_sub, jj_mul, jj_neg, jj_le, jj_lt, jj_eq, jj_nat, chk_true (jj_inb _ _ _), chk_true (jj_nz _ _ _), lt, if_true, if_false, reduceIte, hk2]
    rw [e, bnd_of e2, bnd_of e3]
    have hbk := hB k h1 hk
    simp (disch := omega) only [jj_of, jj_add, jj_sub, jj_mul, jj_neg, jj_le, jj_lt, jj_eq, jj_nat, chk_true (jj_inb _ _ _), chk_true (jj_nz _ _ _), lt, hA _]
    by_cases q : v ≤ u
    · rw [if_pos q]
      by_cases q2 : v < u
      · rw [if_pos q2]
        exact ih _ (show 0 ≤ k + 1 by omega)
      · rw [if_neg q2, show u = v by omega]
        exact ih _ (show 0 ≤ k + 1 by omega)
    · rw [if_neg q, if_neg (show ¬ v < u by omega)]
      exact ih _ (show 0 ≤ k + 1 by omega)
