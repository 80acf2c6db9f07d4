/-! glaze, carried, level -/
def MN (c : Int → Int) (a b v : Int) : Prop := (∀ i, a ≤ i → i < b → v ≤ c i) ∧ ∃ i, a ≤ i ∧ i < b ∧ v = c i
theorem MN_one {c : Int → Int} {a b v w : Int} (h : MN c a b v) (h2 : MN c a b w) : v = w := by
  obtain ⟨h1, i, i1, i2, i3⟩ := h
  obtain ⟨g1, k, k1, k2, k3⟩ := h2
  have := h1 k k1 k2
  have := g1 i i1 i2
  omega
theorem MN_up {c : Int → Int} {a b v : Int} (h : MN c a b v ∨ (a = b ∧ c b ≤ v)) (hab : a ≤ b) : MN c a (b + 1) (if c b < v then c b else v) ∨ (a = b ∧ MN c a (b + 1) (c b)) := by
  rcases h with ⟨h1, i, i1, i2, i3⟩ | ⟨rfl, h⟩
  · left
    by_cases q : c b < v
    · rw [if_pos q]
      refine ⟨fun k k1 k2 => ?_, b, by omega, by omega, rfl⟩
      by_cases e : k = b
      · subst e; omega
      · have := h1 k k1 (by omega)
        omega
    · rw [if_neg q]
      refine ⟨fun k k1 k2 => ?_, i, i1, by omega, i3⟩
      by_cases e : k = b
      · subst e; omega
      · exact h1 k k1 (by omega)
  · right
    refine ⟨rfl, fun k k1 k2 => ?_, a, by omega, by omega, rfl⟩
    rw [show k = a by omega]
    exact Int.le_refl _
theorem MN_b {c : Int → Int} (hB : CB c) {a b v : Int} (h1 : 0 ≤ a) (h2 : b ≤ 12) (h : MN c a b v) : 0 ≤ v ∧ v ≤ 100000000 := by
  obtain ⟨_, i, i1, i2, i3⟩ := h
  have := hB i (by omega) (by omega)
  omega
theorem q_leastOf {S : St} {c : Int → Int} (hA : CA S c) (hB : CB c) {N : Nat} (hN : 20 < N) {a m : Int} (h1 : 0 ≤ a) (h2 : 0 < m) (h3 : a + m ≤ 12) : ∃ v, f_X10_leastOf N S (jj a) (jj m) = some (jj v) ∧ MN c a (a + m) v := by
  have := one_rule (F := fun n v k => f_X10_leastOf_b7 N n (jj a) (jj m) (jj v) (jj k) S) (P := fun k v => a ≤ k ∧ (MN c a k v ∨ (a = k ∧ v = 2147483647))) (Q := fun r => ∃ v, r = jj v ∧ MN c a (a + m) v) (E := a + m) ?_ ?_ m.toNat N a 2147483647 (by omega) (by omega) ⟨Int.le_refl a, Or.inr ⟨rfl, rfl⟩⟩
  · obtain ⟨r, e, v, rfl, h⟩ := this
    exact ⟨v, e, h⟩
  · intro n s ⟨q1, q2⟩
    rcases q2 with q2 | ⟨q2, _⟩
    · refine ⟨jj s, ?_, s, rfl, q2⟩
      simp only [f_X10_leastOf_b7]; simp (disch := omega) only [jj_of, jj_add, jj_sub, jj_mul, jj_neg, jj_le, jj_lt, jj_eq, jj_nat, chk_true (jj_inb _ _ _), chk_true (jj_nz _ _ _), lt, if_true, if_false, reduceIte, Int.le_refl]
    · omega
  · intro n s k hk ⟨q1, q2⟩ ih
    have hk2 : ¬ a + m ≤ k := by omega
    have hb := hB k (by omega) (by omega)
    have hs : 0 ≤ s ∧ s ≤ 2147483647 := by
      rcases q2 with q2 | ⟨_, q2⟩
      · have := MN_b hB h1 (by omega) q2
        omega
      · omega
    have up : MN c a (k + 1) (if c k < s then c k else s) := by
      rcases q2 with q2 | ⟨q2, q3⟩
      · rcases MN_up (Or.inl q2) q1 with u | ⟨u1, u2⟩
        · exact u
        · obtain ⟨_, i, i1, i2, _⟩ := q2
          omega
      · rw [if_pos (by omega)]
        refine ⟨fun i i1 i2 => ?_, k, by omega, by omega, rfl⟩
        rw [show i = k by omega]
        exact Int.le_refl _
    simp only [f_X10_leastOf_b7]
    simp (disch := omega) only [jj_of, jj_add, jj_sub, jj_mul, jj_neg, jj_le, jj_lt, jj_eq, jj_nat, chk_true (jj_inb _ _ _), chk_true (jj_nz _ _ _), lt, if_true, if_false, reduceIte, hk2, hA _]
    by_cases hc : s ≤ c k
    · have hc2 : ¬ c k < s := by omega
      simp only [hc, if_true, if_false, reduceIte]
      rw [if_neg hc2] at up
      exact ih s ⟨by omega, Or.inl up⟩
    · have hc2 : c k < s := by omega
      simp only [hc, if_true, if_false, reduceIte]
      rw [if_pos hc2] at up
      exact ih (c k) ⟨by omega, Or.inl up⟩
theorem mul_b {n v : Int} (h1 : 1 ≤ n) (h2 : n ≤ 12) (h3 : 0 ≤ v) (h4 : v ≤ 100000000) : 0 ≤ n * v ∧ n * v ≤ 1200000000 := by
  have := Int.mul_nonneg (show 0 ≤ n by omega) h3
  have := Int.mul_le_mul h2 h4 h3 (by decide)
  omega
theorem two_rule2 {σ β γ : Type} {F : Nat → σ → Int → Option β} {G : Nat → σ → Int → Option γ} {P : Int → σ → Prop} {Q : β → γ → Prop} {E : Int}
    (h0 : ∀ n n' a, P E a → ∃ r r', F (n + 1) a E = some r ∧ G (n' + 1) a E = some r' ∧ Q r r')
    (h1 : ∀ n n' a k, k < E → P k a → (∀ a', P (k + 1) a' → ∃ r r', F n a' (k + 1) = some r ∧ G n' a' (k + 1) = some r' ∧ Q r r') → ∃ r r', F (n + 1) a k = some r ∧ G (n' + 1) a k = some r' ∧ Q r r') :
    ∀ (m n n' : Nat) (k : Int) (a : σ), k + m = E → m < n → m < n' → P k a → ∃ r r', F n a k = some r ∧ G n' a k = some r' ∧ Q r r' := by
  intro m
  induction m with
  | zero =>
    intro n n' k a hk hn hn' hP
    obtain ⟨n, rfl⟩ : ∃ q, n = q + 1 := ⟨n - 1, by omega⟩
    obtain ⟨n', rfl⟩ : ∃ q, n' = q + 1 := ⟨n' - 1, by omega⟩
    have : k = E := by omega
    subst this
    exact h0 n n' a hP
  | succ m ih =>
    intro n n' k a hk hn hn' hP
    obtain ⟨n, rfl⟩ : ∃ q, n = q + 1 := ⟨n - 1, by omega⟩
    obtain ⟨n', rfl⟩ : ∃ q, n' = q + 1 := ⟨n' - 1, by omega⟩
    exact h1 n n' a k (by omega) hP (fun a' h => ih n n' (k + 1) a' (by omega) (by omega) (by omega) h)
theorem glaze_in {S : St} {c : Int → Int} (hC : CC S 0 c) (hA : CA S c) (hB : CB c) {N : Nat} (hN : 20 < N) {x : Int32} {Q : Int32 → Int32 → Prop} {k : Int} (k1 : 0 ≤ k) (k2 : k < 12) (recX : Int32 → Int32 → Int32 → Int32 → Int32 → St → Option Int32) (recM : Int32 → Int32 → Int32 → Int32 → Int32 → St → Option Int32)
    (hrec : ∀ (m : Int) (u v : Int32), 0 ≤ m → m ≤ 1200000000 → ∃ r r', recX x (jj m) u v (jj (k + 1)) S = some r ∧ recM x (jj m) u v (jj (k + 1)) S = some r' ∧ Q r r') :
    ∀ (mm n n' : Nat) (t : Int) (a : Int × Int × Int32 × Int32), t + mm = 12 → mm < n → mm < n' → (k ≤ t ∧ (MN c k t a.1 ∨ (k = t ∧ a.1 = c k)) ∧ 0 ≤ a.2.1 ∧ a.2.1 ≤ 1200000000) →
      ∃ r r', f_X3_glazed_b27 recX N 0 n x (jj a.2.1) a.2.2.1 a.2.2.2 (jj k) (jj a.1) (jj t) S = some r ∧ f_X10_glaze_b20 recM N n' x (jj a.2.1) a.2.2.1 a.2.2.2 (jj k) (jj (t - k + 1)) S = some r' ∧ Q r r' := by
  have hbk := hB k k1 k2
  refine two_rule2 (F := fun n (a : Int × Int × Int32 × Int32) t => f_X3_glazed_b27 recX N 0 n x (jj a.2.1) a.2.2.1 a.2.2.2 (jj k) (jj a.1) (jj t) S) (G := fun n (a : Int × Int × Int32 × Int32) t => f_X10_glaze_b20 recM N n x (jj a.2.1) a.2.2.1 a.2.2.2 (jj k) (jj (t - k + 1)) S) (P := fun t a => k ≤ t ∧ (MN c k t a.1 ∨ (k = t ∧ a.1 = c k)) ∧ 0 ≤ a.2.1 ∧ a.2.1 ≤ 1200000000) (Q := Q) (E := 12) ?_ ?_
  · intro n n' ⟨l, m, u, v⟩ ⟨h1, h2, h3, h4⟩
    simp only at h2 h3 h4
    have e : 12 < k + (12 - k + 1) := by omega
    simp only [f_X3_glazed_b27, f_X10_glaze_b20]
    simp (disch := omega) only [jj_of, jj_add, jj_sub, jj_mul, jj_neg, jj_le, jj_lt, jj_eq, jj_nat, chk_true (jj_inb _ _ _), chk_true (jj_nz _ _ _), lt, if_true, if_false, reduceIte, Int.le_refl, e]
    exact hrec m u v h3 h4
  · intro n n' ⟨l, m, u, v⟩ t ht ⟨h1, h2, h3, h4⟩ ih
    simp only at h2 h3 h4
    have hbt := hB t (by omega) ht
    have h12 : ¬ 12 ≤ t := by omega
    have e : ¬ 12 < k + (t - k + 1) := by omega
    have hl : 0 ≤ l ∧ l ≤ 100000000 := by
      rcases h2 with h2 | ⟨_, h2⟩
      · exact MN_b hB k1 (by omega) h2
      · omega
    obtain ⟨w, e1, e2⟩ := q_leastOf hA hB hN k1 (show 0 < t - k + 1 by omega) (by omega)
    rw [show k + (t - k + 1) = t + 1 by omega] at e2
    have hw : (if c t < l then c t else l) = w := by
      rcases h2 with h2 | ⟨rfl, h2⟩
      · rcases MN_up (Or.inl h2) h1 with g | ⟨g, _⟩
        · exact MN_one g e2
        · obtain ⟨_, i, i1, i2, _⟩ := h2
          omega
      · rw [if_neg (by omega)]
        subst h2
        refine MN_one ⟨fun i i1 i2 => ?_, k, by omega, by omega, rfl⟩ e2
        rw [show i = k by omega]
        exact Int.le_refl _
    have hwb := MN_b hB k1 (by omega) e2
    have hm := mul_b (show 1 ≤ t - k + 1 by omega) (by omega) hwb.1 hwb.2
    have hm2 : w * (t - k + 1) = (t - k + 1) * w := Int.mul_comm _ _
    simp only [f_X3_glazed_b27, f_X10_glaze_b20]
    have hw2 : (if jj (c t) < jj l then jj (c t) else jj l) = jj w := by
      rw [← hw]
      simp (disch := omega) only [jj_of, jj_add, jj_sub, jj_mul, jj_neg, jj_le, jj_lt, jj_eq, jj_nat, chk_true (jj_inb _ _ _), chk_true (jj_nz _ _ _), lt]
      by_cases q : c t < l
      · rw [if_pos q, if_pos q]
      · rw [if_neg q, if_neg q]
    simp (disch := omega) only [jj_of, jj_add, jj_sub, jj_mul, jj_neg, jj_le, jj_lt, jj_eq, jj_nat, chk_true (jj_inb _ _ _), chk_true (jj_nz _ _ _), lt, if_true, if_false, reduceIte, h12, e, hC _] at hw2 ⊢
    simp only [bnd_of e1, Int.zero_add]
    rw [hw2]
    simp (disch := omega) only [jj_of, jj_add, jj_sub, jj_mul, jj_neg, jj_le, jj_lt, jj_eq, jj_nat, chk_true (jj_inb _ _ _), chk_true (jj_nz _ _ _), lt, hm2]
    rw [show t - k + 1 + 1 = t + 1 - k + 1 by omega]
    by_cases hc : (t - k + 1) * w ≤ m
    · have hc2 : ¬ m < (t - k + 1) * w := by omega
      simp only [hc, hc2, if_true, if_false, reduceIte]
      exact ih (w, m, u, v) ⟨by omega, Or.inl e2, h3, h4⟩
    · have hc2 : m < (t - k + 1) * w := by omega
      simp only [hc, hc2, if_true, if_false, reduceIte]
      exact ih (w, (t - k + 1) * w, jj k, jj (t - k + 1)) ⟨by omega, Or.inl e2, hm.1, hm.2⟩
set_option maxRecDepth 100000 in
theorem glaze_outer {S : St} {c : Int → Int} (hC : CC S 0 c) (hA : CA S c) (hB : CB c) {N : Nat} (hN : 20 < N) {z : Int} (b1 : -2147483648 ≤ z) (b2 : z ≤ 2147483647) : ∀ (mm n n' : Nat) (k : Int) (a : Int × Int32 × Int32), k + mm = 12 → mm < n → mm < n' → (0 ≤ k ∧ 0 ≤ a.1 ∧ a.1 ≤ 1200000000) → ∃ r r', f_X3_glazed_b10 N 0 n (jj z) (jj a.1) a.2.1 a.2.2 (jj k) S = some r ∧ f_X10_glaze_b10 N n' (jj z) (jj a.1) a.2.1 a.2.2 (jj k) S = some r' ∧ (0 ≤ z ∧ z ≤ 2 → r' = r) ∧ (¬ (0 ≤ z ∧ z ≤ 2) → r' = jj (-1)) := by
  refine two_rule2 (F := fun n (a : Int × Int32 × Int32) k => f_X3_glazed_b10 N 0 n (jj z) (jj a.1) a.2.1 a.2.2 (jj k) S) (G := fun n (a : Int × Int32 × Int32) k => f_X10_glaze_b10 N n (jj z) (jj a.1) a.2.1 a.2.2 (jj k) S) (P := fun k a => 0 ≤ k ∧ 0 ≤ a.1 ∧ a.1 ≤ 1200000000) (Q := fun r r' => (0 ≤ z ∧ z ≤ 2 → r' = r) ∧ (¬ (0 ≤ z ∧ z ≤ 2) → r' = jj (-1))) (E := 12) ?_ ?_
  · intro n n' ⟨m, u, v⟩ ⟨h1, h2, h3⟩
    simp only [f_X3_glazed_b10, f_X10_glaze_b10]
    simp (disch := omega) only [jj_of, jj_add, jj_sub, jj_mul, jj_neg, jj_le, jj_lt, jj_eq, jj_nat, chk_true (jj_inb _ _ _), chk_true (jj_nz _ _ _), lt, if_true, if_false, reduceIte, Int.le_refl]
    by_cases q0 : z = 0
    · exact ⟨jj m, jj m, by rw [if_pos q0], by rw [if_pos q0], fun _ => rfl, fun h => by omega⟩
    · by_cases q1 : z = 1
      · exact ⟨u, u, by rw [if_neg q0, if_pos q1], by rw [if_neg q0, if_pos q1], fun _ => rfl, fun h => by omega⟩
      · by_cases q2 : z = 2
        · exact ⟨v, v, by rw [if_neg q0, if_neg q1], by rw [if_neg q0, if_neg q1, if_pos q2], fun _ => rfl, fun h => by omega⟩
        · exact ⟨v, jj (-1), by rw [if_neg q0, if_neg q1], by rw [if_neg q0, if_neg q1, if_neg q2], fun h => by omega, fun h => rfl⟩
  · intro n n' ⟨m, u, v⟩ k hk ⟨h1, h2, h3⟩ ih
    have h12 : ¬ 12 ≤ k := by omega
    simp only [f_X3_glazed_b10, f_X10_glaze_b10]
    simp (disch := omega) only [jj_of, jj_add, jj_sub, jj_mul, jj_neg, jj_le, jj_lt, jj_eq, jj_nat, chk_true (jj_inb _ _ _), chk_true (jj_nz _ _ _), lt, if_true, if_false, reduceIte, h12, hC _]
    have := glaze_in hC hA hB hN (x := jj z) h1 hk (f_X3_glazed_b10 N 0 n) (f_X10_glaze_b10 N n') (fun m u v m1 m2 => ih (m, u, v) ⟨by omega, m1, m2⟩) (12 - k).toNat N N k (c k, m, u, v) (by omega) (by omega) (by omega) ⟨Int.le_refl k, Or.inr ⟨rfl, rfl⟩, h2, h3⟩
    rw [show k - k + 1 = 1 by omega] at this
    exact this
theorem glaze_first {S : St} {c : Int → Int} (hC : CC S 0 c) (hA : CA S c) (hB : CB c) {N : Nat} (hN : 20 < N) {z : Int} (b1 : -2147483648 ≤ z) (b2 : z ≤ 2147483647) {k : Int} (hk : k = 0) : ∃ r r', f_X3_glazed_b10 N 0 N (jj z) (jj (-1)) (jj 0) (jj 0) (jj k) S = some r ∧ f_X10_glaze_b10 N N (jj z) (jj 0) (jj k) (jj 1) (jj k) S = some r' ∧ (0 ≤ z ∧ z ≤ 2 → r' = r) ∧ (¬ (0 ≤ z ∧ z ≤ 2) → r' = jj (-1)) := by
  obtain ⟨M, rfl⟩ : ∃ n', N = n' + 1 := ⟨N - 1, by omega⟩
  have k1 : 0 ≤ k := by omega
  have k2 : k < 12 := by omega
  have h00 := hB k k1 k2
  have h12 : ¬ (12 : Int) ≤ k := by omega
  obtain ⟨w, e1, e2⟩ := q_leastOf hA hB hN k1 (show (0 : Int) < 1 by decide) (show k + 1 ≤ 12 by omega)
  have ew : w = c k := MN_one e2 ⟨fun i i1 i2 => by rw [show i = k by omega]; exact Int.le_refl _, k, by omega, by omega, rfl⟩
  subst ew
  obtain ⟨r, r', s1, s2, s3⟩ := glaze_in hC hA hB hN (x := jj z) k1 k2 (f_X3_glazed_b10 (M + 1) 0 M) (f_X10_glaze_b10 (M + 1) M) (fun m u v m1 m2 => glaze_outer hC hA hB hN b1 b2 11 M M (k + 1) (m, u, v) (by omega) (by omega) (by omega) ⟨by omega, m1, m2⟩) 11 M M (k + 1) (c k, c k, jj k, jj 1) (by omega) (by omega) (by omega) ⟨by omega, Or.inl e2, by simp only; omega, by simp only; omega⟩
  refine ⟨r, r', ?_, ?_, s3⟩
  · rw [f_X3_glazed_b10]
    simp (disch := omega) only [jj_of, jj_add, jj_sub, jj_mul, jj_neg, jj_le, jj_lt, jj_eq, jj_nat, chk_true (jj_inb _ _ _), chk_true (jj_nz _ _ _), lt, if_true, if_false, reduceIte, h12, hC _]
    rw [f_X3_glazed_b27]
    have e5 : k - k + 1 = 1 := by omega
    simp (disch := omega) only [jj_of, jj_add, jj_sub, jj_mul, jj_neg, jj_le, jj_lt, jj_eq, jj_nat, chk_true (jj_inb _ _ _), chk_true (jj_nz _ _ _), lt, if_true, if_false, reduceIte, h12, hC _, Int.lt_irrefl, e5, Int.mul_one]
    rw [if_neg (show ¬ c k ≤ -1 from by omega)]
    exact s1
  · rw [f_X10_glaze_b10]
    simp (disch := omega) only [jj_of, jj_add, jj_sub, jj_mul, jj_neg, jj_le, jj_lt, jj_eq, jj_nat, chk_true (jj_inb _ _ _), chk_true (jj_nz _ _ _), lt, if_true, if_false, reduceIte, h12]
    rw [f_X10_glaze_b20]
    have e5 : ¬ (12 : Int) < k + 1 := by omega
    simp (disch := omega) only [jj_of, jj_add, jj_sub, jj_mul, jj_neg, jj_le, jj_lt, jj_eq, jj_nat, chk_true (jj_inb _ _ _), chk_true (jj_nz _ _ _), lt, if_true, if_false, reduceIte, e5]
    simp only [bnd_of e1, Int.one_mul]
    simp (disch := omega) only [jj_of, jj_add, jj_sub, jj_mul, jj_neg, jj_le, jj_lt, jj_eq, jj_nat, chk_true (jj_inb _ _ _), chk_true (jj_nz _ _ _), lt, if_true, if_false, reduceIte, Int.one_mul]
    rw [show k + 1 - k + 1 = 1 + 1 by omega] at s2
    by_cases q : 0 < c k
    · rw [if_pos q]
      exact s2
    · rw [if_neg q]
      rw [show c k = 0 by omega] at s2
      exact s2
theorem q_glaze {S : St} {c : Int → Int} (hC : CC S 0 c) (hA : CA S c) (hB : CB c) {N : Nat} (hN : 20 < N) (x : Int32) : ∃ v, f_X9_glaze N S x = some v ∧ f_X10_glaze N S x = some v := by
  obtain ⟨z, rfl, b1, b2⟩ := jj_ex x
  obtain ⟨r, r', e1, e2, e3, e4⟩ := glaze_first hC hA hB hN b1 b2 rfl
  have e2' : f_X10_glaze N S (jj z) = some r' := by
    unfold f_X10_glaze
    simp only [jj_of]
    exact e2
  rw [e2']
  unfold f_X9_glaze f_X3_glazed
  simp (disch := omega) only [jj_of, jj_add, jj_sub, jj_mul, jj_neg, jj_le, jj_lt, jj_eq, jj_nat, chk_true (jj_inb _ _ _), chk_true (jj_nz _ _ _), lt]
  by_cases q : 0 ≤ z ∧ z ≤ 2
  · have q1 : ¬ z < 0 := by omega
    have q2 : z ≤ 2 := by omega
    simp only [q1, q2, if_true, if_false, reduceIte]
    rw [e3 q]
    exact ⟨r, bnd_of e1 _, rfl⟩
  · refine ⟨jj (-1), ?_, by rw [e4 q]⟩
    by_cases q3 : z < 0
    · simp only [q3, if_true, if_false, reduceIte]
    · have q4 : ¬ z ≤ 2 := by omega
      simp only [q3, q4, if_true, if_false, reduceIte]
