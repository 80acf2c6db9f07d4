/-! Shapes of twelve cells: class and reference answer alike. -/
theorem two_rule {σ β : Type} {F G : Nat → σ → Int → Option β} {P : Int → σ → Prop} {Q : β → Prop} {E : Int}
    (h0 : ∀ n n' a, P E a → ∃ r, F (n + 1) a E = some r ∧ G (n' + 1) a E = some r ∧ Q r)
    (h1 : ∀ n n' a k, k < E → P k a → (∀ a', P (k + 1) a' → ∃ r, F n a' (k + 1) = some r ∧ G n' a' (k + 1) = some r ∧ Q r) → ∃ r, F (n + 1) a k = some r ∧ G (n' + 1) a k = some r ∧ Q r) :
    ∀ (m n n' : Nat) (k : Int) (a : σ), k + m = E → m < n → m < n' → P k a → ∃ r, F n a k = some r ∧ G n' a k = some r ∧ Q r := by
  intro m
  induction m with
  | zero =>
    intro n n' k a hk hn hn' hP
    obtain ⟨n, rfl⟩ : ∃ q, n = q + 1 := ⟨n - 1, by omega⟩
    obtain ⟨n', rfl⟩ : ∃ q, n' = q + 1 := ⟨n' - 1, by omega⟩
    have : k = E := by omega
    subst this
    exact h0 n n' a hP
  | succ m ih =>
    intro n n' k a hk hn hn' hP
    obtain ⟨n, rfl⟩ : ∃ q, n = q + 1 := ⟨n - 1, by omega⟩
    obtain ⟨n', rfl⟩ : ∃ q, n' = q + 1 := ⟨n' - 1, by omega⟩
    exact h1 n n' a k (by omega) hP (fun a' h => ih n n' (k + 1) a' (by omega) (by omega) (by omega) h)
theorem one_rule {σ β : Type} {F : Nat → σ → Int → Option β} {P : Int → σ → Prop} {Q : β → Prop} {E : Int}
    (h0 : ∀ n a, P E a → ∃ r, F (n + 1) a E = some r ∧ Q r)
    (h1 : ∀ n a k, k < E → P k a → (∀ a', P (k + 1) a' → ∃ r, F n a' (k + 1) = some r ∧ Q r) → ∃ r, F (n + 1) a k = some r ∧ Q r) :
    ∀ (m n : Nat) (k : Int) (a : σ), k + m = E → m < n → P k a → ∃ r, F n a k = some r ∧ Q r := by
  intro m
  induction m with
  | zero =>
    intro n k a hk hn hP
    obtain ⟨n, rfl⟩ : ∃ q, n = q + 1 := ⟨n - 1, by omega⟩
    have : k = E := by omega
    subst this
    exact h0 n a hP
  | succ m ih =>
    intro n k a hk hn hP
    obtain ⟨n, rfl⟩ : ∃ q, n = q + 1 := ⟨n - 1, by omega⟩
    exact h1 n a k (by omega) hP (fun a' h => ih n (k + 1) a' (by omega) (by omega) h)
/-- the cells of sheet j; those of the reference's row; how much they can be -/
def CC (S : St) (j : Nat) (c : Int → Int) : Prop := ∀ i : Int, 0 ≤ i → i < 12 → gI S 400 j i.toNat = jj (c i)
def CA (S : St) (c : Int → Int) : Prop := ∀ i : Int, 0 ≤ i → i < 12 → gI S 1000 0 (11 + i).toNat = jj (c i)
def CB (c : Int → Int) : Prop := ∀ i : Int, 0 ≤ i → i < 12 → 0 ≤ c i ∧ c i ≤ 100000000
theorem CA_1 {S : St} {c : Int → Int} (h : CA S c) (i : Int) (h1 : 0 ≤ i) (h2 : i < 11) : gI S 1000 0 (11 + i + 1).toNat = jj (c (i + 1)) := by
  rw [show 11 + i + 1 = 11 + (i + 1) by omega]
  exact h _ (by omega) (by omega)
theorem CA_2 {S : St} {c : Int → Int} (h : CA S c) (i : Int) (h1 : 1 ≤ i) (h2 : i < 12) : gI S 1000 0 (11 + i - 1).toNat = jj (c (i - 1)) := by
  rw [show 11 + i - 1 = 11 + (i - 1) by omega]
  exact h _ (by omega) (by omega)
theorem q_thin {S : St} {c : Int → Int} (hC : CC S 0 c) (hA : CA S c) (hB : CB c) {N : Nat} (hN : 20 < N) : ∃ v, f_X9_thin N S = some v ∧ f_X10_thin N S = some v := by
  have := two_rule (F := fun n a k => f_X3_leastCell_b4 N 0 n (jj a) (jj k) S) (G := fun n a k => f_X10_thin_b4 N n (jj a) (jj k) S) (P := fun k a => 0 ≤ k ∧ 0 ≤ a ∧ a < 12) (Q := fun _ => True) (E := 12) ?_ ?_ 11 N N 1 0 (by decide) (by omega) (by omega) (by decide)
  · obtain ⟨r, e1, e2, _⟩ := this
    exact ⟨r, bnd_of e1 _, e2⟩
  · intro n n' a ⟨h1, h2, h3⟩
    refine ⟨jj a, ?_, ?_, trivial⟩
    · simp only [f_X3_leastCell_b4]; simp (disch := omega) only [jj_of, jj_add, jj_sub, jj_mul, jj_neg, jj_le, jj_lt, jj_eq, jj_nat, chk_true (jj_inb _ _ _), chk_true (jj_nz _ _ _), lt, if_true, if_false, reduceIte, Int.le_refl]
    · simp only [f_X10_thin_b4]; simp (disch := omega) only [jj_of, jj_add, jj_sub, jj_mul, jj_neg, jj_le, jj_lt, jj_eq, jj_nat, chk_true (jj_inb _ _ _), chk_true (jj_nz _ _ _), lt, if_true, if_false, reduceIte, Int.le_refl]
  · intro n n' a k hk ⟨h1, h2, h3⟩ ih
    have hba := hB a h2 h3
    have hbk := hB k h1 hk
    have hk2 : ¬ 12 ≤ k := by omega
    simp only [f_X3_leastCell_b4, f_X10_thin_b4]
    simp (disch := omega) only [jj_of, jj_add, jj_sub, jj_mul, jj_neg, jj_le, jj_lt, jj_eq, jj_nat, chk_true (jj_inb _ _ _), chk_true (jj_nz _ _ _), lt, hC _, hA _, hk2, if_true, if_false, reduceIte]
    by_cases hc : c a ≤ c k
    · simp only [hc, if_true]
      exact ih a ⟨by omega, h2, h3⟩
    · simp only [hc, if_false]
      exact ih k ⟨by omega, h1, hk⟩
theorem q_thick {S : St} {c : Int → Int} (hC : CC S 0 c) (hA : CA S c) (hB : CB c) {N : Nat} (hN : 20 < N) : ∃ v, f_X9_thick N S = some v ∧ f_X10_thick N S = some v := by
  have := two_rule (F := fun n a k => f_X3_mostCell_b4 N 0 n (jj a) (jj k) S) (G := fun n a k => f_X10_thick_b4 N n (jj a) (jj k) S) (P := fun k a => 0 ≤ k ∧ 0 ≤ a ∧ a < 12) (Q := fun _ => True) (E := 12) ?_ ?_ 11 N N 1 0 (by decide) (by omega) (by omega) (by decide)
  · obtain ⟨r, e1, e2, _⟩ := this
    exact ⟨r, bnd_of e1 _, e2⟩
  · intro n n' a ⟨h1, h2, h3⟩
    refine ⟨jj a, ?_, ?_, trivial⟩
    · simp only [f_X3_mostCell_b4]; simp (disch := omega) only [jj_of, jj_add, jj_sub, jj_mul, jj_neg, jj_le, jj_lt, jj_eq, jj_nat, chk_true (jj_inb _ _ _), chk_true (jj_nz _ _ _), lt, if_true, if_false, reduceIte, Int.le_refl]
    · simp only [f_X10_thick_b4]; simp (disch := omega) only [jj_of, jj_add, jj_sub, jj_mul, jj_neg, jj_le, jj_lt, jj_eq, jj_nat, chk_true (jj_inb _ _ _), chk_true (jj_nz _ _ _), lt, if_true, if_false, reduceIte, Int.le_refl]
  · intro n n' a k hk ⟨h1, h2, h3⟩ ih
    have hba := hB a h2 h3
    have hbk := hB k h1 hk
    have hk2 : ¬ 12 ≤ k := by omega
    simp only [f_X3_mostCell_b4, f_X10_thick_b4]
    simp (disch := omega) only [jj_of, jj_add, jj_sub, jj_mul, jj_neg, jj_le, jj_lt, jj_eq, jj_nat, chk_true (jj_inb _ _ _), chk_true (jj_nz _ _ _), lt, hC _, hA _, hk2, if_true, if_false, reduceIte]
    by_cases hc : c k ≤ c a
    · simp only [hc, if_true]
      exact ih a ⟨by omega, h2, h3⟩
    · simp only [hc, if_false]
      exact ih k ⟨by omega, h1, hk⟩
theorem q_folds {S : St} {c : Int → Int} (hC : CC S 0 c) (hA : CA S c) (hB : CB c) {N : Nat} (hN : 20 < N) : ∃ v, f_X9_folds N S = some v ∧ f_X10_folds N S = some v := by
  have := two_rule (F := fun n a k => f_X3_falls_b4 N 0 n a (jj k) S) (G := fun n a k => f_X10_folds_b4 N n a (jj k) S) (P := fun k _ => 0 ≤ k) (Q := fun _ => True) (E := 12) ?_ ?_ 12 N N 0 0 (by decide) (by omega) (by omega) (by decide)
  · obtain ⟨r, e1, e2, _⟩ := this
    exact ⟨r, bnd_of e1 _, e2⟩
  · intro n n' a h1
    refine ⟨a, ?_, ?_, trivial⟩
    · simp only [f_X3_falls_b4]; simp (disch := omega) only [jj_of, jj_add, jj_sub, jj_mul, jj_neg, jj_le, jj_lt, jj_eq, jj_nat, chk_true (jj_inb _ _ _), chk_true (jj_nz _ _ _), lt, if_true, if_false, reduceIte, Int.le_refl]
    · simp only [f_X10_folds_b4]; simp (disch := omega) only [jj_of, jj_add, jj_sub, jj_mul, jj_neg, jj_le, jj_lt, jj_eq, jj_nat, chk_true (jj_inb _ _ _), chk_true (jj_nz _ _ _), lt, if_true, if_false, reduceIte, Int.le_refl]
  · intro n n' a k hk h1 ih
    have hbk := hB k h1 hk
    have hk2 : ¬ 12 ≤ k := by omega
    simp only [f_X3_falls_b4, f_X10_folds_b4]
    simp (disch := omega) only [jj_of, jj_add, jj_sub, jj_mul, jj_neg, jj_le, jj_lt, jj_eq, jj_nat, chk_true (jj_inb _ _ _), chk_true (jj_nz _ _ _), lt, hk2, if_true, if_false, reduceIte]
    refine two_rule (F := fun n2 a d => f_X3_falls_b14 (f_X3_falls_b4 N 0 n) N 0 n2 a (jj k) (jj d) S) (G := fun n2 a d => f_X10_folds_b14 (f_X10_folds_b4 N n') N n2 a (jj k) (jj d) S) (P := fun d _ => 0 ≤ d) (Q := fun _ => True) (E := 12) ?_ ?_ (11 - k).toNat N N (k + 1) a (by omega) (by omega) (by omega) (show 0 ≤ k + 1 by omega)
    · intro n2 n2' a2 h2
      simp only [f_X3_falls_b14, f_X10_folds_b14]
      simp (disch := omega) only [jj_of, jj_add, jj_sub, jj_mul, jj_neg, jj_le, jj_lt, jj_eq, jj_nat, chk_true (jj_inb _ _ _), chk_true (jj_nz _ _ _), lt, if_true, if_false, reduceIte, Int.le_refl]
      exact ih a2 (show 0 ≤ k + 1 by omega)
    · intro n2 n2' a2 d hd h2 ih2
      have hbd := hB d h2 hd
      have hd2 : ¬ 12 ≤ d := by omega
      simp only [f_X3_falls_b14, f_X10_folds_b14]
      simp (disch := omega) only [jj_of, jj_add, jj_sub, jj_mul, jj_neg, jj_le, jj_lt, jj_eq, jj_nat, chk_true (jj_inb _ _ _), chk_true (jj_nz _ _ _), lt, hC _, hA _, hd2, if_true, if_false, reduceIte]
      by_cases hc : c k ≤ c d
      · simp only [hc, if_true]
        rw [show a2 + jj 0 = a2 from Int32.add_zero a2]
        exact ih2 a2 (show 0 ≤ d + 1 by omega)
      · simp only [hc, if_false]
        exact ih2 (a2 + jj 1) (show 0 ≤ d + 1 by omega)
theorem q_peaks {S : St} {c : Int → Int} (hC : CC S 0 c) (hA : CA S c) (hB : CB c) {N : Nat} (hN : 20 < N) : ∃ v, f_X9_peaks N S = some v ∧ f_X10_peaks N S = some v := by
  have := two_rule (F := fun n a k => f_X3_tops_b4 N 0 n a (jj k) S) (G := fun n a k => f_X10_peaks_b4 N n a (jj k) S) (P := fun k _ => 0 ≤ k) (Q := fun _ => True) (E := 12) ?_ ?_ 12 N N 0 0 (by decide) (by omega) (by omega) (by decide)
  · obtain ⟨r, e1, e2, _⟩ := this
    exact ⟨r, bnd_of e1 _, e2⟩
  · intro n n' a h1
    refine ⟨a, ?_, ?_, trivial⟩
    · simp only [f_X3_tops_b4]; simp (disch := omega) only [jj_of, jj_add, jj_sub, jj_mul, jj_neg, jj_le, jj_lt, jj_eq, jj_nat, chk_true (jj_inb _ _ _), chk_true (jj_nz _ _ _), lt, if_true, if_false, reduceIte, Int.le_refl]
    · simp only [f_X10_peaks_b4]; simp (disch := omega) only [jj_of, jj_add, jj_sub, jj_mul, jj_neg, jj_le, jj_lt, jj_eq, jj_nat, chk_true (jj_inb _ _ _), chk_true (jj_nz _ _ _), lt, if_true, if_false, reduceIte, Int.le_refl]
  · intro n n' a k hk h1 ih
    have hbk := hB k h1 hk
    have hk2 : ¬ 12 ≤ k := by omega
    have or0 : ∀ x : Int32, x ||| jj 0 = x := fun x => Int32.or_zero
    have ih2 := ih a (show 0 ≤ k + 1 by omega)
    have ih3 := ih (a ||| jj 1 <<< (jj k &&& jj 31)) (show 0 ≤ k + 1 by omega)
    simp only [f_X3_tops_b4, f_X10_peaks_b4, f_X3_tops_b25, f_X3_tops_b30, f_X3_tops_b48, f_X3_tops_b53, f_X10_peaks_b38, f_X10_peaks_b67]
    simp (disch := omega) only [jj_of, jj_add, jj_sub, jj_mul, jj_neg, jj_le, jj_lt, jj_eq, jj_nat, chk_true (jj_inb _ _ _), chk_true (jj_nz _ _ _), lt, hC _, hA _, hk2, if_true, if_false, reduceIte, or0]
    by_cases h0 : k = 0
    · have h0' : (k = 0) = True := eq_true h0
      have h11' : (k = 11) = False := eq_false (by omega)
      have hb1 := hB (k + 1) (by omega) (by omega)
      simp (disch := omega) only [jj_of, jj_add, jj_sub, jj_mul, jj_neg, jj_le, jj_lt, jj_eq, jj_nat, chk_true (jj_inb _ _ _), chk_true (jj_nz _ _ _), lt, hC _, hA _, CA_1 hA _, if_true, if_false, reduceIte, h0', h11']
      by_cases hc : c k ≤ c (k + 1)
      · simp (disch := omega) only [jj_of, jj_add, jj_sub, jj_mul, jj_neg, jj_le, jj_lt, jj_eq, jj_nat, chk_true (jj_inb _ _ _), chk_true (jj_nz _ _ _), lt, if_true, if_false, reduceIte, hc]
        exact ih2
      · simp (disch := omega) only [jj_of, jj_add, jj_sub, jj_mul, jj_neg, jj_le, jj_lt, jj_eq, jj_nat, chk_true (jj_inb _ _ _), chk_true (jj_nz _ _ _), lt, if_true, if_false, reduceIte, hc]
        exact ih3
    · have hb1 := hB (k - 1) (by omega) (by omega)
      simp (disch := omega) only [jj_of, jj_add, jj_sub, jj_mul, jj_neg, jj_le, jj_lt, jj_eq, jj_nat, chk_true (jj_inb _ _ _), chk_true (jj_nz _ _ _), lt, hC _, hA _, CA_2 hA _, if_true, if_false, reduceIte, h0]
      by_cases h11 : k = 11
      · have h11' : (k = 11) = True := eq_true h11
        by_cases hc : c k ≤ c (k - 1)
        · simp (disch := omega) only [jj_of, jj_add, jj_sub, jj_mul, jj_neg, jj_le, jj_lt, jj_eq, jj_nat, chk_true (jj_inb _ _ _), chk_true (jj_nz _ _ _), lt, if_true, if_false, reduceIte, hc, h11']
          exact ih2
        · simp (disch := omega) only [jj_of, jj_add, jj_sub, jj_mul, jj_neg, jj_le, jj_lt, jj_eq, jj_nat, chk_true (jj_inb _ _ _), chk_true (jj_nz _ _ _), lt, if_true, if_false, reduceIte, hc, h11']
          exact ih3
      · have hb2 := hB (k + 1) (by omega) (by omega)
        simp (disch := omega) only [jj_of, jj_add, jj_sub, jj_mul, jj_neg, jj_le, jj_lt, jj_eq, jj_nat, chk_true (jj_inb _ _ _), chk_true (jj_nz _ _ _), lt, hC _, hA _, CA_2 hA _, CA_1 hA _, if_true, if_false, reduceIte, h11]
        by_cases hc : c k ≤ c (k - 1)
        · by_cases hd : c k ≤ c (k + 1)
          · simp (disch := omega) only [jj_of, jj_add, jj_sub, jj_mul, jj_neg, jj_le, jj_lt, jj_eq, jj_nat, chk_true (jj_inb _ _ _), chk_true (jj_nz _ _ _), lt, if_true, if_false, reduceIte, hc, hd]
            exact ih2
          · simp (disch := omega) only [jj_of, jj_add, jj_sub, jj_mul, jj_neg, jj_le, jj_lt, jj_eq, jj_nat, chk_true (jj_inb _ _ _), chk_true (jj_nz _ _ _), lt, if_true, if_false, reduceIte, hc, hd]
            exact ih2
        · by_cases hd : c k ≤ c (k + 1)
          · simp (disch := omega) only [jj_of, jj_add, jj_sub, jj_mul, jj_neg, jj_le, jj_lt, jj_eq, jj_nat, chk_true (jj_inb _ _ _), chk_true (jj_nz _ _ _), lt, if_true, if_false, reduceIte, hc, hd]
            exact ih2
          · simp (disch := omega) only [jj_of, jj_add, jj_sub, jj_mul, jj_neg, jj_le, jj_lt, jj_eq, jj_nat, chk_true (jj_inb _ _ _), chk_true (jj_nz _ _ _), lt, if_true, if_false, reduceIte, hc, hd]
            exact ih3
theorem q_isIn {S : St} {x : Int32} {a b : Int} (h : -2147483648 ≤ a) (h2 : a ≤ 2147483647) (h3 : -2147483648 ≤ b) (h4 : b ≤ 2147483647) : f_X10_isIn S x (jj a) (jj b) = some (if a ≤ x.toInt ∧ x.toInt ≤ b then (1 : Int32) else 0) := by
  have e := jj_self x
  have b1 := Int32.le_toInt x
  have b2 := Int32.toInt_lt x
  unfold f_X10_isIn
  rw [← e, jj_toInt (by omega) (by omega)]
  simp (disch := omega) only [jj_le, jj_lt]
  by_cases q : a ≤ x.toInt
  · by_cases q2 : x.toInt ≤ b
    · simp [q, q2, Int.not_lt.mpr q]
    · simp [q, q2, Int.not_lt.mpr q]
  · simp [q, Int.not_le.mp q]
theorem q_islands {S : St} {c : Int → Int} (hC : CC S 0 c) (hA : CA S c) (hB : CB c) {N : Nat} (hN : 20 < N) (x : Int32) : ∃ v, f_X9_islands N S x = some v ∧ f_X10_islands N S x = some v := by
  have e := jj_self x
  have b1 := Int32.le_toInt x
  have b2 := Int32.toInt_lt x
  generalize hz : x.toInt = z at *
  unfold f_X9_islands f_X10_islands
  simp only [jj_of]
  rw [bnd_of (q_isIn (by decide) (by decide) (by decide) (by decide)), hz]
  rw [← e]
  simp (disch := omega) only [jj_of, jj_add, jj_sub, jj_mul, jj_neg, jj_le, jj_lt, jj_eq, jj_nat, chk_true (jj_inb _ _ _), chk_true (jj_nz _ _ _), lt]
  by_cases q : 0 ≤ z ∧ z ≤ 9999
  · obtain ⟨q1, q2⟩ := q
    have q3 : ¬ z < 0 := by omega
    have := two_rule (F := fun n a k => f_X3_rowsAbove_b4 N 0 n (jj z) a (jj k) S) (G := fun n a k => f_X10_islands_b17 N n (jj z) a (jj k) S) (P := fun k _ => 0 ≤ k) (Q := fun _ => True) (E := 12) ?_ ?_ 12 N N 0 0 (by decide) (by omega) (by omega) (by decide)
    · obtain ⟨r, e1, e2, _⟩ := this
      refine ⟨r, ?_, ?_⟩
      · simp only [q2, q3, if_true, if_false, reduceIte]
        exact bnd_of e1 _
      · simp only [q1, q2, and_self, if_true, if_false, reduceIte]
        exact e2
    · intro n n' a h1
      refine ⟨a, ?_, ?_, trivial⟩
      · simp only [f_X3_rowsAbove_b4]; simp (disch := omega) only [jj_of, jj_add, jj_sub, jj_mul, jj_neg, jj_le, jj_lt, jj_eq, jj_nat, chk_true (jj_inb _ _ _), chk_true (jj_nz _ _ _), lt, if_true, if_false, reduceIte, Int.le_refl]
      · simp only [f_X10_islands_b17]; simp (disch := omega) only [jj_of, jj_add, jj_sub, jj_mul, jj_neg, jj_le, jj_lt, jj_eq, jj_nat, chk_true (jj_inb _ _ _), chk_true (jj_nz _ _ _), lt, if_true, if_false, reduceIte, Int.le_refl]
    · intro n n' a k hk h1 ih
      have hbk := hB k h1 hk
      have hk2 : ¬ 12 ≤ k := by omega
      have ih2 := ih a (show 0 ≤ k + 1 by omega)
      have ih3 := ih (a + jj 1) (show 0 ≤ k + 1 by omega)
      have p0 : a + jj 0 = a := Int32.add_zero a
      simp only [f_X3_rowsAbove_b4, f_X10_islands_b17]
      simp (disch := omega) only [jj_of, jj_add, jj_sub, jj_mul, jj_neg, jj_le, jj_lt, jj_eq, jj_nat, chk_true (jj_inb _ _ _), chk_true (jj_nz _ _ _), lt, hC _, hA _, hk2, if_true, if_false, reduceIte, p0]
      by_cases hc : c k ≤ z
      · simp only [hc, if_true]
        exact ih2
      · simp only [hc, if_false]
        by_cases h0 : k = 0
        · have h0' : (k = 0) = True := eq_true h0
          simp (disch := omega) only [h0', if_true, if_false, reduceIte]
          exact ih3
        · have hb1 := hB (k - 1) (by omega) (by omega)
          simp (disch := omega) only [jj_of, jj_add, jj_sub, jj_mul, jj_neg, jj_le, jj_lt, jj_eq, jj_nat, chk_true (jj_inb _ _ _), chk_true (jj_nz _ _ _), lt, hC _, CA_2 hA _, h0, if_true, if_false, reduceIte, p0]
          by_cases hd : z < c (k - 1)
          · simp only [hd, if_true]
            exact ih2
          · simp only [hd, if_false]
            exact ih3
  · refine ⟨jj (-1), ?_, ?_⟩
    · by_cases q3 : z < 0
      · simp only [q3, if_true, if_false, reduceIte]
      · have q4 : ¬ z ≤ 9999 := by omega
        simp only [q3, q4, if_true, if_false, reduceIte]
    · simp only [q, if_true, if_false, reduceIte]
