/-! sees, middle, lake, glaze -/
def nn (p : Bool) : Int := if p = true then 1 else 0
theorem pre_two {f g : Int → Int} {v : Int} (h : ∀ i, f i + g i = v) : ∀ m : Nat, pre f m + pre g m = v * m := by
  intro m
  induction m with
  | zero => show (0 : Int) + 0 = v * 0; omega
  | succ m ih =>
    show pre f m + f m + (pre g m + g m) = v * ((m + 1 : Nat) : Int)
    have := h m
    rw [show v * ((m + 1 : Nat) : Int) = v * (m : Int) + v by rw [Int.natCast_add, Int.mul_add]; omega]
    omega
theorem pre_le {f : Int → Int} (h : ∀ i, 0 ≤ f i ∧ f i ≤ 1) : ∀ m : Nat, 0 ≤ pre f m ∧ pre f m ≤ m := by
  intro m
  induction m with
  | zero => show (0 : Int) ≤ 0 ∧ (0 : Int) ≤ 0; omega
  | succ m ih =>
    have := h m
    show 0 ≤ pre f m + f m ∧ pre f m + f m ≤ ((m + 1 : Nat) : Int)
    omega
theorem nn_le (p : Bool) : 0 ≤ nn p ∧ nn p ≤ 1 := by
  unfold nn
  cases p <;> simp
theorem q_cellsAbove {S : St} {j : Nat} {c : Int → Int} (hC : CC S j c) (hB : CB c) {N : Nat} (hN : 20 < N) {v : Int} (h1 : -1 ≤ v) (h2 : v ≤ 100000000) : f_X3_cellsAbove N j S (jj v) = some (jj (pre (fun i => nn (decide (v < c i))) 12)) := by
  have := one_rule (F := fun n s k => f_X3_cellsAbove_b4 N j n (jj v) (jj s) (jj k) S) (P := fun k s => 0 ≤ k ∧ s = pre (fun i => nn (decide (v < c i))) k.toNat) (Q := fun r => r = jj (pre (fun i => nn (decide (v < c i))) 12)) (E := 12) ?_ ?_ 12 N 0 0 (by omega) (by omega) ⟨Int.le_refl 0, rfl⟩
  · obtain ⟨r, e, rfl⟩ := this
    exact e
  · intro n s ⟨q1, q2⟩
    refine ⟨jj s, ?_, by rw [q2]; rfl⟩
    simp only [f_X3_cellsAbove_b4]; simp (disch := omega) only [jj_of, jj_add, jj_sub, jj_mul, jj_neg, jj_le, jj_lt, jj_eq, jj_nat, chk_true (jj_inb _ _ _), chk_true (jj_nz _ _ _), lt, if_true, if_false, reduceIte, Int.le_refl]
  · intro n s k hk ⟨q1, q2⟩ ih
    have hk2 : ¬ 12 ≤ k := by omega
    have hb := hB k q1 hk
    simp only [f_X3_cellsAbove_b4]
    simp (disch := omega) only [jj_of, jj_add, jj_sub, jj_mul, jj_neg, jj_le, jj_lt, jj_eq, jj_nat, chk_true (jj_inb _ _ _), chk_true (jj_nz _ _ _), lt, if_true, if_false, reduceIte, hk2, hC _]
    by_cases hc : c k ≤ v
    · simp only [hc, if_true, if_false, reduceIte]
      refine ih s ⟨by omega, ?_⟩
      rw [pre_up q1, q2]
      have : ¬ v < c k := by omega
      simp [nn, this]
    · simp only [hc, if_true, if_false, reduceIte]
      refine ih (s + 1) ⟨by omega, ?_⟩
      rw [pre_up q1, q2]
      have : v < c k := by omega
      simp [nn, this]
theorem middle_in {S : St} {c : Int → Int} (hA : CA S c) (hB : CB c) {N : Nat} (hN : 20 < N) {z k : Int} (h1 : 1 ≤ z) (h2 : z ≤ 12) (h3 : 0 ≤ k) (h4 : k < 12) (rec14 : Int32 → Int32 → St → Option Int32) :
    f_X10_middle_b28 rec14 N N (jj z) (jj k) (jj 0) (jj 0) (jj 0) S = (if z ≤ pre (fun i => nn (decide (c i < c k))) 12 then rec14 (jj z) (jj (k + 1)) S else if pre (fun i => nn (decide (c i < c k))) 12 + pre (fun i => nn (decide (c i = c k))) 12 < z then rec14 (jj z) (jj (k + 1)) S else some (jj (c k))) := by
  have hbk := hB k h3 h4
  have := up_loop (F := fun n (s : Int × Int) d => f_X10_middle_b28 rec14 N n (jj z) (jj k) (jj s.1) (jj s.2) (jj d) S) (out := fun s => if z ≤ s.1 then rec14 (jj z) (jj (k + 1)) S else if s.1 + s.2 < z then rec14 (jj z) (jj (k + 1)) S else some (jj (c k))) (step := fun d s => (s.1 + nn (decide (c d < c k)), s.2 + nn (decide (c d = c k)))) (P := fun d s => 0 ≤ d ∧ s.1 = pre (fun i => nn (decide (c i < c k))) d.toNat ∧ s.2 = pre (fun i => nn (decide (c i = c k))) d.toNat) (E := 12) ?_ ?_ 12 N 0 (0, 0) (by omega) (by omega) ⟨Int.le_refl 0, rfl, rfl⟩
  · obtain ⟨e, _, e2, e3⟩ := this
    refine e.trans ?_
    rw [e2, e3]
    rfl
  · intro n ⟨s1, s2⟩ ⟨q1, q2, q3⟩
    have l1 := pre_le (fun i => nn_le (decide (c i < c k))) 12
    have l2 := pre_le (fun i => nn_le (decide (c i = c k))) 12
    change s1 = pre _ 12 at q2
    change s2 = pre _ 12 at q3
    simp only [f_X10_middle_b28]
    simp (disch := omega) only [jj_of, jj_add, jj_sub, jj_mul, jj_neg, jj_le, jj_lt, jj_eq, jj_nat, chk_true (jj_inb _ _ _), chk_true (jj_nz _ _ _), lt, if_true, if_false, reduceIte, Int.le_refl, hA _]
  · intro n ⟨s1, s2⟩ d hd ⟨q1, q2, q3⟩
    have hd2 : ¬ 12 ≤ d := by omega
    have hbd := hB d q1 hd
    refine ⟨?_, by omega, ?_, ?_⟩
    · simp only [f_X10_middle_b28, f_X10_middle_b63]
      simp (disch := omega) only [jj_of, jj_add, jj_sub, jj_mul, jj_neg, jj_le, jj_lt, jj_eq, jj_nat, chk_true (jj_inb _ _ _), chk_true (jj_nz _ _ _), lt, if_true, if_false, reduceIte, hd2, hA _]
      by_cases hc : c k ≤ c d
      · have hc2 : ¬ c d < c k := by omega
        by_cases hd : c d = c k
        · simp (disch := omega) only [jj_of, jj_add, jj_sub, jj_mul, jj_neg, jj_le, jj_lt, jj_eq, jj_nat, chk_true (jj_inb _ _ _), chk_true (jj_nz _ _ _), lt, hc, hc2, hd, if_true, if_false, reduceIte, nn, decide_true, decide_false, Int.le_refl, Int.lt_irrefl]
          simp
        · simp [hc, hc2, hd, nn]
      · have hc2 : c d < c k := by omega
        have hd : ¬ c d = c k := by omega
        simp [hc, hc2, hd, nn]
    · rw [pre_up q1, ← q2]
    · rw [pre_up q1, ← q3]
theorem q_middle {S : St} {c : Int → Int} (hC : CC S 0 c) (hA : CA S c) (hB : CB c) {N : Nat} (hN : 20 < N) (x : Int32) : ∃ v, f_X9_middle N S x = some v ∧ f_X10_middle N S x = some v := by
  obtain ⟨z, rfl, b1, b2⟩ := jj_ex x
  unfold f_X9_middle f_X10_middle
  simp only [jj_of]
  rw [bnd_of (q_isIn2 b1 b2 (by decide) (by decide) (by decide) (by decide))]
  simp (disch := omega) only [jj_of, jj_add, jj_sub, jj_mul, jj_neg, jj_le, jj_lt, jj_eq, jj_nat, chk_true (jj_inb _ _ _), chk_true (jj_nz _ _ _), lt]
  by_cases q : 1 ≤ z ∧ z ≤ 12
  · obtain ⟨q1, q2⟩ := q
    have q3 : ¬ z < 1 := by omega
    have := two_rule (F := fun n (_ : Unit) k => f_X3_leastButOthers_b2 N 0 n (jj z) (jj k) S) (G := fun n (_ : Unit) k => f_X10_middle_b14 N n (jj z) (jj k) S) (P := fun k _ => 0 ≤ k) (Q := fun _ => True) (E := 12) ?_ ?_ 12 N N 0 () (by omega) (by omega) (by omega) (Int.le_refl 0)
    · obtain ⟨r, e1, e2, _⟩ := this
      refine ⟨r, ?_, ?_⟩
      · simp only [q2, q3, if_true, if_false, reduceIte]
        exact bnd_of e1 _
      · simp only [q1, q2, and_self, if_true, if_false, reduceIte]
        exact e2
    · intro n n' a h1
      refine ⟨jj (-1), ?_, ?_, trivial⟩
      · simp only [f_X3_leastButOthers_b2]; simp (disch := omega) only [jj_of, jj_add, jj_sub, jj_mul, jj_neg, jj_le, jj_lt, jj_eq, jj_nat, chk_true (jj_inb _ _ _), chk_true (jj_nz _ _ _), lt, if_true, if_false, reduceIte, Int.le_refl]
      · simp only [f_X10_middle_b14]; simp (disch := omega) only [jj_of, jj_add, jj_sub, jj_mul, jj_neg, jj_le, jj_lt, jj_eq, jj_nat, chk_true (jj_inb _ _ _), chk_true (jj_nz _ _ _), lt, if_true, if_false, reduceIte, Int.le_refl]
    · intro n n' a k hk h1 ih
      have hk2 : ¬ 12 ≤ k := by omega
      have hb := hB k h1 hk
      have ih2 := ih () (show 0 ≤ k + 1 by omega)
      simp only [f_X3_leastButOthers_b2, f_X10_middle_b14]
      simp (disch := omega) only [jj_of, jj_add, jj_sub, jj_mul, jj_neg, jj_le, jj_lt, jj_eq, jj_nat, chk_true (jj_inb _ _ _), chk_true (jj_nz _ _ _), lt, if_true, if_false, reduceIte, hk2, hC _]
      rw [bnd_of (q_cellsAbove hC hB hN (show -1 ≤ c k - 1 by omega) (by omega)), bnd_of (q_cellsAbove hC hB hN (show -1 ≤ c k by omega) (by omega)), middle_in hA hB hN q1 q2 h1 hk]
      have l1 := pre_le (fun i => nn_le (decide (c k - 1 < c i))) 12
      have l2 := pre_le (fun i => nn_le (decide (c k < c i))) 12
      have l3 := pre_le (fun i => nn_le (decide (c i < c k))) 12
      have l4 := pre_le (fun i => nn_le (decide (c i = c k))) 12
      have e1 := pre_two (f := fun i => nn (decide (c k - 1 < c i))) (g := fun i => nn (decide (c i < c k))) (v := 1) (by
        intro i
        by_cases q : c i < c k
        · have : ¬ c k - 1 < c i := by omega
          simp [nn, q, this]
        · have : c k - 1 < c i := by omega
          simp [nn, q, this]) 12
      have e2 := pre_two (f := fun i => nn (decide (c k < c i))) (g := fun i => nn (decide (c i < c k)) + nn (decide (c i = c k))) (v := 1) (by
        intro i
        by_cases q : c i < c k
        · have h1 : ¬ c k < c i := by omega
          have h2 : ¬ c i = c k := by omega
          simp [nn, q, h1, h2]
        · by_cases q2 : c i = c k
          · simp [nn, q2]
          · have h1 : c k < c i := by omega
            simp [nn, q, h1, q2]) 12
      have e3 : ∀ m : Nat, pre (fun i => nn (decide (c i < c k)) + nn (decide (c i = c k))) m = pre (fun i => nn (decide (c i < c k))) m + pre (fun i => nn (decide (c i = c k))) m := by
        intro m
        induction m with
        | zero => rfl
        | succ m ih => simp only [pre, ih]; omega
      rw [e3] at e2
      simp (disch := omega) only [jj_of, jj_add, jj_sub, jj_mul, jj_neg, jj_le, jj_lt, jj_eq, jj_nat, chk_true (jj_inb _ _ _), chk_true (jj_nz _ _ _), lt]
      by_cases r1 : z ≤ 12 - pre (fun i => nn (decide (c k - 1 < c i))) 12
      · have r2 : z ≤ pre (fun i => nn (decide (c i < c k))) 12 := by omega
        simp only [r1, r2, if_true, if_false, reduceIte]
        exact ih2
      · have r2 : ¬ z ≤ pre (fun i => nn (decide (c i < c k))) 12 := by omega
        simp only [r1, r2, if_true, if_false, reduceIte]
        by_cases r3 : 12 - pre (fun i => nn (decide (c k < c i))) 12 < z
        · have r4 : pre (fun i => nn (decide (c i < c k))) 12 + pre (fun i => nn (decide (c i = c k))) 12 < z := by omega
          simp only [r3, r4, if_true, if_false, reduceIte]
          exact ih2
        · have r4 : ¬ pre (fun i => nn (decide (c i < c k))) 12 + pre (fun i => nn (decide (c i = c k))) 12 < z := by omega
          simp only [r3, r4, if_true, if_false, reduceIte]
          exact ⟨_, rfl, rfl, trivial⟩
  · refine ⟨jj (-1), ?_, ?_⟩
    · by_cases q3 : z < 1
      · simp only [q3, if_true, if_false, reduceIte]
      · have q4 : ¬ z ≤ 12 := by omega
        simp only [q3, q4, if_true, if_false, reduceIte]
    · simp only [q, if_true, if_false, reduceIte]
