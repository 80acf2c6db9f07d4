/-! More shapes: sums, the most, the least of a row of cells. -/
theorem jj_ex (x : Int32) : ∃ z, x = jj z ∧ -2147483648 ≤ z ∧ z ≤ 2147483647 := by
  have b1 := Int32.le_toInt x
  have b2 := Int32.toInt_lt x
  exact ⟨x.toInt, (jj_self x).symm, by omega, by omega⟩
theorem q_isIn2 {S : St} {z a b : Int} (h5 : -2147483648 ≤ z) (h6 : z ≤ 2147483647) (h : -2147483648 ≤ a) (h2 : a ≤ 2147483647) (h3 : -2147483648 ≤ b) (h4 : b ≤ 2147483647) : f_X10_isIn S (jj z) (jj a) (jj b) = some (if a ≤ z ∧ z ≤ b then jj 1 else jj 0) := by
  have := q_isIn (S := S) (x := jj z) h h2 h3 h4
  rwa [jj_toInt h5 h6] at this
theorem q_isCell {S : St} {z : Int} (h5 : -2147483648 ≤ z) (h6 : z ≤ 2147483647) : f_X9_isCell S (jj z) = some (if 0 ≤ z ∧ z ≤ 11 then jj 1 else jj 0) := by
  unfold f_X9_isCell
  simp (disch := omega) only [jj_of, jj_add, jj_sub, jj_mul, jj_neg, jj_le, jj_lt, jj_eq, jj_nat, chk_true (jj_inb _ _ _), chk_true (jj_nz _ _ _), lt]
  by_cases q : z < 0
  · have q2 : ¬ (0 ≤ z ∧ z ≤ 11) := by omega
    simp only [q, q2, if_true, if_false, reduceIte]
  · by_cases q3 : 12 ≤ z
    · have q2 : ¬ (0 ≤ z ∧ z ≤ 11) := by omega
      simp only [q, q2, q3, if_true, if_false, reduceIte]
    · have q2 : (0 ≤ z ∧ z ≤ 11) := by omega
      simp only [q, q2, q3, if_true, if_false, reduceIte]
      rfl
theorem isz_if {p : Prop} [Decidable p] : isz (if p then jj 1 else jj 0) = true := by
  by_cases h : p
  · rw [if_pos h]; rfl
  · rw [if_neg h]; rfl
theorem q_isCellM {S : St} {z : Int} (h5 : -2147483648 ≤ z) (h6 : z ≤ 2147483647) : f_X10_isCell S (jj z) = some (if 0 ≤ z ∧ z ≤ 11 then jj 1 else jj 0) := by
  unfold f_X10_isCell
  simp only [jj_of]
  rw [bnd_of (q_isIn2 h5 h6 (by decide) (by decide) (by decide) (by decide)), chk_true isz_if]
/-- the sum of the first cells -/
def pre (f : Int → Int) : Nat → Int
  | 0 => 0
  | m + 1 => pre f m + f m
theorem pre_up {f : Int → Int} {k : Int} (h : 0 ≤ k) : pre f (k + 1).toNat = pre f k.toNat + f k := by
  rw [show (k + 1).toNat = k.toNat + 1 by omega]
  show pre f k.toNat + f ((k.toNat : Nat) : Int) = _
  rw [Int.toNat_of_nonneg h]
theorem pre_mono {f : Int → Int} (hB : ∀ i, 0 ≤ i → i < 12 → 0 ≤ f i) : ∀ (m : Nat) (k : Int), 0 ≤ k → k + m ≤ 12 → pre f k.toNat ≤ pre f (k + m).toNat := by
  intro m
  induction m with
  | zero => intro k h h2; rw [show k + ((0 : Nat) : Int) = k by omega]; exact Int.le_refl _
  | succ m ih =>
    intro k h h2
    have := ih k h (by omega)
    rw [show k + ((m + 1 : Nat) : Int) = (k + m) + 1 by omega, pre_up (by omega)]
    have := hB (k + m) (by omega) (by omega)
    omega
/-- the sums of twelve cells are small -/
def PB (c : Int → Int) : Prop := ∀ k : Int, 0 ≤ k → k ≤ 12 → 0 ≤ pre c k.toNat ∧ pre c k.toNat ≤ 100000000
theorem q_sum {S : St} {j : Nat} {c : Int → Int} (hC : CC S j c) {N : Nat} (hN : 20 < N) {a b : Int} (h1 : 0 ≤ a) (h2 : a ≤ b) (h3 : b ≤ 12) : f_X3_sum N j S (jj a) (jj b) = some (jj (pre c b.toNat - pre c a.toNat)) := by
  have := one_rule (F := fun n s k => f_X3_sum_b9 N j n (jj b) (jj s) (jj k) S) (P := fun k s => a ≤ k ∧ s = pre c k.toNat - pre c a.toNat) (Q := fun r => r = jj (pre c b.toNat - pre c a.toNat)) (E := b) ?_ ?_ (b - a).toNat N a 0 (by omega) (by omega) ⟨Int.le_refl a, by omega⟩
  · obtain ⟨r, e, rfl⟩ := this
    unfold f_X3_sum
    have : ∀ u : Int32, (if jj 0 < jj a then jj a else jj 0) = jj a := by
      intro u
      simp (disch := omega) only [jj_of, jj_add, jj_sub, jj_mul, jj_neg, jj_le, jj_lt, jj_eq, jj_nat, chk_true (jj_inb _ _ _), chk_true (jj_nz _ _ _), lt]
      by_cases q : 0 < a
      · simp only [q, if_true, if_false, reduceIte]
      · simp only [q, if_true, if_false, reduceIte]
        rw [show a = 0 by omega]
    simp only [jj_of, this 0, lt]
    exact e
  · intro n s ⟨q1, q2⟩
    refine ⟨jj s, ?_, by rw [q2]⟩
    simp only [f_X3_sum_b9]; simp (disch := omega) only [jj_of, jj_add, jj_sub, jj_mul, jj_neg, jj_le, jj_lt, jj_eq, jj_nat, chk_true (jj_inb _ _ _), chk_true (jj_nz _ _ _), lt, if_true, if_false, reduceIte, Int.le_refl]
  · intro n s k hk ⟨q1, q2⟩ ih
    have hk2 : ¬ b ≤ k := by omega
    have hk3 : ¬ 12 ≤ k := by omega
    simp only [f_X3_sum_b9]
    simp (disch := omega) only [jj_of, jj_add, jj_sub, jj_mul, jj_neg, jj_le, jj_lt, jj_eq, jj_nat, chk_true (jj_inb _ _ _), chk_true (jj_nz _ _ _), lt, if_true, if_false, reduceIte, hk2, hk3, hC _]
    exact ih (s + c k) ⟨by omega, by rw [pre_up (by omega)]; omega⟩
theorem q_doughOf {S : St} {c : Int → Int} (hA : CA S c) {N : Nat} (hN : 20 < N) {a m : Int} (h1 : 0 ≤ a) (h2 : 0 ≤ m) (h3 : a + m ≤ 12) : f_X10_doughOf N S (jj a) (jj m) = some (jj (pre c (a + m).toNat - pre c a.toNat)) := by
  have := one_rule (F := fun n s k => f_X10_doughOf_b5 N n (jj a) (jj m) (jj s) (jj k) S) (P := fun k s => a ≤ k ∧ s = pre c k.toNat - pre c a.toNat) (Q := fun r => r = jj (pre c (a + m).toNat - pre c a.toNat)) (E := a + m) ?_ ?_ m.toNat N a 0 (by omega) (by omega) ⟨Int.le_refl a, by omega⟩
  · obtain ⟨r, e, rfl⟩ := this
    exact e
  · intro n s ⟨q1, q2⟩
    refine ⟨jj s, ?_, by rw [q2]⟩
    simp only [f_X10_doughOf_b5]; simp (disch := omega) only [jj_of, jj_add, jj_sub, jj_mul, jj_neg, jj_le, jj_lt, jj_eq, jj_nat, chk_true (jj_inb _ _ _), chk_true (jj_nz _ _ _), lt, if_true, if_false, reduceIte, Int.le_refl]
  · intro n s k hk ⟨q1, q2⟩ ih
    have hk2 : ¬ a + m ≤ k := by omega
    simp only [f_X10_doughOf_b5]
    simp (disch := omega) only [jj_of, jj_add, jj_sub, jj_mul, jj_neg, jj_le, jj_lt, jj_eq, jj_nat, chk_true (jj_inb _ _ _), chk_true (jj_nz _ _ _), lt, if_true, if_false, reduceIte, hk2, hA _]
    exact ih (s + c k) ⟨by omega, by rw [pre_up (by omega)]; omega⟩
theorem q_richest {S : St} {c : Int → Int} (hC : CC S 0 c) (hA : CA S c) (hB : CB c) (hP : PB c) {N : Nat} (hN : 20 < N) (x : Int32) : ∃ v, f_X9_richest N S x = some v ∧ f_X10_richest N S x = some v := by
  obtain ⟨z, rfl, b1, b2⟩ := jj_ex x
  have mono := pre_mono (f := c) (fun i h h2 => (hB i h h2).1)
  unfold f_X9_richest f_X10_richest
  simp only [jj_of]
  rw [bnd_of (q_isIn2 b1 b2 (by decide) (by decide) (by decide) (by decide))]
  simp (disch := omega) only [jj_of, jj_add, jj_sub, jj_mul, jj_neg, jj_le, jj_lt, jj_eq, jj_nat, chk_true (jj_inb _ _ _), chk_true (jj_nz _ _ _), lt]
  by_cases q : 1 ≤ z ∧ z ≤ 12
  · obtain ⟨q1, q2⟩ := q
    have q3 : ¬ z < 1 := by omega
    have := two_rule (F := fun n (a : Int) k => f_X3_fullest_b7 N 0 n (jj z) (jj a) (jj (pre c (a + z).toNat - pre c a.toNat)) (jj k) S) (G := fun n a k => f_X10_richest_b16 N n (jj z) (jj a) (jj k) S) (P := fun k a => 1 ≤ k ∧ 0 ≤ a ∧ a + z ≤ 12) (Q := fun _ => True) (E := 13 - z) ?_ ?_ (12 - z).toNat (N - 1) N 1 0 (by omega) (by omega) (by omega) (by constructor; omega; omega)
    · obtain ⟨r, e1, e2, _⟩ := this
      refine ⟨r, ?_, ?_⟩
      · simp only [q2, q3, if_true, if_false, reduceIte]
        refine bnd_of ?_ _
        unfold f_X3_fullest
        obtain ⟨n, rfl⟩ : ∃ n', N = n' + 1 := ⟨N - 1, by omega⟩
        simp only [f_X3_fullest_b7]
        have h13 : ¬ 12 < 0 + z := by omega
        have hs := hP (0 + z) (by omega) (by omega)
        have hs0 : pre c (Int.toNat 0) = 0 := rfl
        have h14 : ¬ pre c (0 + z).toNat - 0 ≤ -1 := by omega
        simp (disch := omega) only [jj_of, jj_add, jj_sub, jj_mul, jj_neg, jj_le, jj_lt, jj_eq, jj_nat, chk_true (jj_inb _ _ _), chk_true (jj_nz _ _ _), lt, h13, if_true, if_false, reduceIte]
        rw [bnd_of (q_sum hC hN (by decide) (by omega) (by omega)), hs0]
        simp (disch := omega) only [jj_of, jj_add, jj_sub, jj_mul, jj_neg, jj_le, jj_lt, jj_eq, jj_nat, chk_true (jj_inb _ _ _), chk_true (jj_nz _ _ _), lt, h14, if_true, if_false, reduceIte]
        simp only [Nat.add_sub_cancel, hs0] at e1
        exact e1
      · simp only [q1, q2, and_self, if_true, if_false, reduceIte]
        exact e2
    · intro n n' a ⟨h1, h2, h3⟩
      have h13 : 12 < 13 - z + z := by omega
      refine ⟨jj a, ?_, ?_, trivial⟩
      · simp only [f_X3_fullest_b7]; simp (disch := omega) only [jj_of, jj_add, jj_sub, jj_mul, jj_neg, jj_le, jj_lt, jj_eq, jj_nat, chk_true (jj_inb _ _ _), chk_true (jj_nz _ _ _), lt, if_true, if_false, reduceIte, h13]
      · simp only [f_X10_richest_b16]; simp (disch := omega) only [jj_of, jj_add, jj_sub, jj_mul, jj_neg, jj_le, jj_lt, jj_eq, jj_nat, chk_true (jj_inb _ _ _), chk_true (jj_nz _ _ _), lt, if_true, if_false, reduceIte, h13]
    · intro n n' a k hk ⟨h1, h2, h3⟩ ih
      have h13 : ¬ 12 < k + z := by omega
      have p1 := hP (k + z) (by omega) (by omega)
      have p2 := hP k (by omega) (by omega)
      have p3 := hP (a + z) (by omega) (by omega)
      have p4 := hP a (by omega) (by omega)
      simp only [f_X3_fullest_b7, f_X10_richest_b16]
      simp (disch := omega) only [jj_of, jj_add, jj_sub, jj_mul, jj_neg, jj_le, jj_lt, jj_eq, jj_nat, chk_true (jj_inb _ _ _), chk_true (jj_nz _ _ _), lt, if_true, if_false, reduceIte, h13]
      rw [bnd_of (q_sum hC hN (show 0 ≤ k by omega) (show k ≤ k + z by omega) (by omega)), bnd_of (q_doughOf hA hN (show 0 ≤ k by omega) (show 0 ≤ z by omega) (by omega)), bnd_of (q_doughOf hA hN h2 (show 0 ≤ z by omega) h3)]
      simp (disch := omega) only [jj_of, jj_add, jj_sub, jj_mul, jj_neg, jj_le, jj_lt, jj_eq, jj_nat, chk_true (jj_inb _ _ _), chk_true (jj_nz _ _ _), lt]
      by_cases hc : pre c (k + z).toNat - pre c k.toNat ≤ pre c (a + z).toNat - pre c a.toNat
      · simp only [hc, if_true, if_false, reduceIte]
        exact ih a ⟨by omega, h2, h3⟩
      · simp only [hc, if_true, if_false, reduceIte]
        exact ih k ⟨by omega, by omega, by omega⟩
  · refine ⟨jj (-1), ?_, ?_⟩
    · by_cases q3 : z < 1
      · simp only [q3, if_true, if_false, reduceIte]
      · have q4 : ¬ z ≤ 12 := by omega
        simp only [q3, q4, if_true, if_false, reduceIte]
    · simp only [q, if_true, if_false, reduceIte]
