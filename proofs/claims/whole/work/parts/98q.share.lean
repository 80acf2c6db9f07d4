/-! Splitting a row: exactly p parts, at most p parts. -/
def OKP (c : Int → Int) (V : Int) : Nat → Int → Prop
  | 0, i => i = 12
  | p + 1, i => ∃ j : Int, i < j ∧ j ≤ 12 ∧ pre c j.toNat - pre c i.toNat ≤ V ∧ OKP c V p j
def LEP (c : Int → Int) (V : Int) : Nat → Int → Prop
  | 0, i => i = 12
  | p + 1, i => i = 12 ∨ ∃ j : Int, i < j ∧ j ≤ 12 ∧ pre c j.toNat - pre c i.toNat ≤ V ∧ LEP c V p j
theorem pre_mn {c : Int → Int} (hB : CB c) {i j : Int} (h : 0 ≤ i) (h2 : i ≤ j) (h3 : j ≤ 12) : pre c i.toNat ≤ pre c j.toNat := by
  have := pre_mono (f := c) (fun i a b => (hB i a b).1) (j - i).toNat i h (by omega)
  rw [show i + ((j - i).toNat : Int) = j by omega] at this
  exact this
theorem lep_more {c : Int → Int} {V : Int} : ∀ (p : Nat) (i : Int), LEP c V p i → LEP c V (p + 1) i := by
  intro p
  induction p with
  | zero => intro i h; exact Or.inl h
  | succ p ih =>
    intro i h
    rcases h with h | ⟨j, a, b, d, e⟩
    · exact Or.inl h
    · exact Or.inr ⟨j, a, b, d, ih j e⟩
theorem lep_later {c : Int → Int} {V : Int} (hB : CB c) : ∀ (p : Nat) (i i' : Int), 0 ≤ i → i ≤ i' → i' ≤ 12 → LEP c V p i → LEP c V p i' := by
  intro p
  induction p with
  | zero =>
    intro i i' a b d h
    have h : i = 12 := h
    show i' = 12
    omega
  | succ p ih =>
    intro i i' a b d h
    rcases h with h | ⟨j, e, f, g, k⟩
    · exact Or.inl (by omega)
    · by_cases w : i' < j
      · exact Or.inr ⟨j, w, f, by have := pre_mn hB a b d; omega, k⟩
      · exact lep_more p i' (ih j i' (by omega) (by omega) d k)
theorem lep_cell {c : Int → Int} {V : Int} (hB : CB c) : ∀ (p : Nat) (i : Int), 0 ≤ i → LEP c V p i → ∀ k : Int, i ≤ k → k < 12 → c k ≤ V := by
  intro p
  induction p with
  | zero =>
    intro i a h k b d
    have h : i = 12 := h
    omega
  | succ p ih =>
    intro i a h k b d
    rcases h with h | ⟨j, e, f, g, m⟩
    · omega
    · by_cases w : j ≤ k
      · exact ih j (by omega) m k w d
      · have h1 := pre_mn hB a b (by omega)
        have h2 := pre_mn hB (show 0 ≤ k + 1 by omega) (show k + 1 ≤ j by omega) f
        have h3 := pre_up (f := c) (k := k) (by omega)
        omega
theorem okp_single {c : Int → Int} {V : Int} : ∀ (p : Nat), (p : Int) ≤ 12 → (∀ k : Int, 12 - p ≤ k → k < 12 → c k ≤ V) → OKP c V p (12 - p) := by
  intro p
  induction p with
  | zero => intro _ _; show (12 : Int) - ((0 : Nat) : Int) = 12; omega
  | succ p ih =>
    intro hp h
    have h3 := pre_up (f := c) (k := 12 - ((p + 1 : Nat) : Int)) (by omega)
    have h4 := h (12 - ((p + 1 : Nat) : Int)) (by omega) (by omega)
    refine ⟨12 - p, by omega, by omega, ?_, ih (by omega) (fun k a b => h k (by omega) b)⟩
    rw [show (12 : Int) - ((p + 1 : Nat) : Int) + 1 = 12 - p by omega] at h3
    omega
theorem okp_lep {c : Int → Int} {V : Int} (hB : CB c) : ∀ (p : Nat) (i : Int), 0 ≤ i → (OKP c V p i ↔ LEP c V p i ∧ i + p ≤ 12) := by
  intro p
  induction p with
  | zero =>
    intro i a
    show i = 12 ↔ i = 12 ∧ i + ((0 : Nat) : Int) ≤ 12
    omega
  | succ p ih =>
    intro i a
    constructor
    · rintro ⟨j, b, d, e, f⟩
      have := (ih j (by omega)).1 f
      exact ⟨Or.inr ⟨j, b, d, e, this.1⟩, by have := this.2; omega⟩
    · rintro ⟨h, g⟩
      have hc := lep_cell hB (p + 1) i a h
      rcases h with h | ⟨j, b, d, e, f⟩
      · omega
      · by_cases w : j + p ≤ 12
        · exact ⟨j, b, d, e, (ih j (by omega)).2 ⟨f, w⟩⟩
        · refine ⟨12 - p, by omega, by omega, ?_, okp_single p (by omega) (fun k x y => hc k (by omega) y)⟩
          have := pre_mn hB (show 0 ≤ 12 - (p : Int) by omega) (show 12 - (p : Int) ≤ j by omega) d
          omega
/-- the greedy step -/
theorem lep_far {c : Int → Int} {V : Int} (hB : CB c) {p : Nat} {i j : Int} (h0 : 0 ≤ i) (h1 : i < j) (h2 : j ≤ 12) (h3 : pre c j.toNat - pre c i.toNat ≤ V) (h4 : j = 12 ∨ V < pre c (j + 1).toNat - pre c i.toNat) : LEP c V (p + 1) i ↔ LEP c V p j := by
  constructor
  · intro h
    rcases h with h | ⟨m, b, d, e, f⟩
    · omega
    · by_cases w : m ≤ j
      · exact lep_later hB p m j (by omega) w h2 f
      · have := pre_mn hB (show 0 ≤ j + 1 by omega) (show j + 1 ≤ m by omega) d
        omega
  · intro h
    exact Or.inr ⟨j, h1, h2, h3, h⟩
theorem lep_stuck {c : Int → Int} {V : Int} (hB : CB c) {p : Nat} {i : Int} (h0 : 0 ≤ i) (h2 : i < 12) (h3 : V < c i) : ¬ LEP c V p i := fun h => by
  have := lep_cell hB p i h0 h i (by omega) h2
  omega
/-- the reference's greedy test -/
theorem r_greedy {S : St} {N : Nat} {c : Int → Int} {V p : Int} (hA : CA S c) (hB : CB c) (hP : PB c) (hN : 20 < N) (v0 : 0 ≤ V) (v1 : V ≤ 100000000) (p0 : 0 ≤ p) (p1 : p ≤ 12) : ∀ (m n : Nat) (i k : Int), 12 - i ≤ m → m < n → 0 ≤ i → i ≤ 12 → 0 ≤ k → k ≤ i → ∃ r, f_X10_isShared_b16 N n (jj p) (jj V) (jj k) (jj i) S = some (jj r) ∧ (r = 0 ∨ r = 1) ∧ (r = 1 ↔ k ≤ p ∧ LEP c V (p - k).toNat i) := by
  intro m
  induction m with
  | zero =>
    intro n i k hm hn i0 i1 k0 k1
    obtain ⟨n, rfl⟩ : ∃ n', n = n' + 1 := ⟨n - 1, by omega⟩
    have : i = 12 := by omega
    subst this
    simp only [f_X10_isShared_b16]
    rw [if_pos (show (12 : Int32) ≤ jj 12 by rw [jj_of]; exact Int32.le_refl _)]
    have he : LEP c V (p - k).toNat 12 := by
      cases (p - k).toNat with
      | zero => rfl
      | succ q => exact Or.inl rfl
    by_cases w : p < k
    · rw [if_pos (show jj p < jj k by rw [jj_lt (by omega) (by omega) (by omega) (by omega)]; exact w)]
      exact ⟨0, rfl, Or.inl rfl, by omega⟩
    · rw [if_neg (show ¬ jj p < jj k by rw [jj_lt (by omega) (by omega) (by omega) (by omega)]; exact w)]
      exact ⟨1, rfl, Or.inr rfl, fun _ => ⟨by omega, he⟩, fun _ => rfl⟩
  | succ m ih =>
    intro n i k hm hn i0 i1 k0 k1
    by_cases i12 : i = 12
    · exact ih n i k (by omega) (by omega) i0 i1 k0 k1
    obtain ⟨n, rfl⟩ : ∃ n', n = n' + 1 := ⟨n - 1, by omega⟩
    simp only [f_X10_isShared_b16]
    rw [if_neg (show ¬ (12 : Int32) ≤ jj i by rw [show (12 : Int32) = jj 12 from rfl, jj_le (by omega) (by omega) (by omega) (by omega)]; omega)]
    have fin : ∀ j : Int, i ≤ j → j ≤ 12 → pre c j.toNat - pre c i.toNat ≤ V → (j = 12 ∨ V < pre c (j + 1).toNat - pre c i.toNat) → wp (f_X10_isShared_b75 (f_X10_isShared_b16 N n) N (jj p) (jj V) (jj k) (jj j) (jj i) S) (fun x => ∃ r, x = jj r ∧ (r = 0 ∨ r = 1) ∧ (r = 1 ↔ k ≤ p ∧ LEP c V (p - k).toNat i)) := by
      intro j j0 j1 j2 j3
      simp only [f_X10_isShared_b75, lt]
      by_cases w : j = i
      · rw [if_pos (show jj j = jj i by rw [w])]
        have h3 := pre_up (f := c) (k := j) (by omega)
        refine wp_some ⟨0, rfl, Or.inl rfl, by omega, fun h => absurd h.2 (lep_stuck hB i0 (by omega) ?_)⟩
        rw [w] at h3 j3
        omega
      · rw [if_neg (show ¬ jj j = jj i by rw [jj_eq (by omega) (by omega) (by omega) (by omega)]; exact w), show jj k + (1 : Int32) = jj (k + 1) from jj_add k 1]
        obtain ⟨r, e, r01, h⟩ := ih n j (k + 1) (by omega) (by omega) (by omega) j1 (by omega) (by omega)
        refine wp_eq e ⟨r, rfl, r01, ?_⟩
        rw [h]
        by_cases z : k + 1 ≤ p
        · have hf := lep_far (p := (p - (k + 1)).toNat) hB i0 (show i < j by omega) j1 j2 j3
          rw [show (p - k).toNat = (p - (k + 1)).toNat + 1 by omega, hf]
          constructor
          · intro q; exact ⟨by omega, q.2⟩
          · intro q; exact ⟨z, q.2⟩
        · constructor
          · intro q; omega
          · intro q
            have : (p - k).toNat = 0 := by omega
            rw [this] at q
            have q2 : i = 12 := q.2
            omega
    have H := wp_up (F := fun n' (_ : Unit) j => f_X10_isShared_b30 (f_X10_isShared_b16 N n) N n' (jj p) (jj V) (jj k) (jj j) (jj (pre c j.toNat - pre c i.toNat)) (jj i) S) (P := fun j _ => i ≤ j ∧ pre c j.toNat - pre c i.toNat ≤ V) (Q := fun x => ∃ r, x = jj r ∧ (r = 0 ∨ r = 1) ∧ (r = 1 ↔ k ≤ p ∧ LEP c V (p - k).toNat i)) (E := 12) (by
      intro n' a ⟨j0, j1⟩
      simp only [f_X10_isShared_b30]
      rw [if_pos (show (12 : Int32) ≤ jj 12 by rw [jj_of]; exact Int32.le_refl _)]
      exact fin 12 j0 (by decide) j1 (Or.inl rfl)) (by
      intro n' a j hj ⟨j0, j1⟩ ih2
      have y1 := hA j (by omega) hj
      have b1 := hP j (by omega) (by omega)
      have b2 := hP (j + 1) (by omega) (by omega)
      have b3 := hP i (by omega) (by omega)
      have h3 := pre_up (f := c) (k := j) (by omega)
      have s1 : jj (pre c j.toNat - pre c i.toNat) + jj (c j) = jj (pre c (j + 1).toNat - pre c i.toNat) := by
        rw [jj_add, h3]
        refine congrArg jj ?_
        omega
      simp only [f_X10_isShared_b30, lt]
      rw [if_neg (show ¬ (12 : Int32) ≤ jj j by rw [show (12 : Int32) = jj 12 from rfl, jj_le (by omega) (by omega) (by omega) (by omega)]; omega), show (11 : Int32) + jj j = jj (11 + j) from jj_add 11 j, chk_true (jj_inb (by omega) (by omega) (by omega)), chk_true (jj_inb (by omega) (by omega) (by omega)), jj_nat (a := 11 + j) (by omega) (by omega), y1, s1]
      by_cases w : V < pre c (j + 1).toNat - pre c i.toNat
      · rw [if_pos (show jj V < jj (pre c (j + 1).toNat - pre c i.toNat) by rw [jj_lt (by omega) (by omega) (by omega) (by omega)]; exact w)]
        exact fin j j0 (by omega) j1 (Or.inr w)
      · rw [if_neg (show ¬ jj V < jj (pre c (j + 1).toNat - pre c i.toNat) by rw [jj_lt (by omega) (by omega) (by omega) (by omega)]; exact w), show jj j + (1 : Int32) = jj (j + 1) from jj_add j 1]
        exact ih2 () ⟨by omega, by omega⟩) (12 - i).toNat N i () (by omega) (by omega) ⟨by omega, by omega⟩
    obtain ⟨x, e, r, rfl, r01, h⟩ := H
    refine ⟨r, ?_, r01, h⟩
    have e : f_X10_isShared_b30 (f_X10_isShared_b16 N n) N N (jj p) (jj V) (jj k) (jj i) (jj (pre c i.toNat - pre c i.toNat)) (jj i) S = some (jj r) := e
    rw [Int.sub_self] at e
    exact e
theorem r_isShared {S : St} {N : Nat} {c : Int → Int} {V p i : Int} (hA : CA S c) (hB : CB c) (hP : PB c) (hN : 20 < N) (v0 : 0 ≤ V) (v1 : V ≤ 100000000) (p0 : 0 ≤ p) (p1 : p ≤ 12) (i0 : 0 ≤ i) (i1 : i ≤ 12) : ∃ r, f_X10_isShared N S (jj i) (jj p) (jj V) = some (jj r) ∧ (r = 0 ∨ r = 1) ∧ (r = 1 ↔ OKP c V p.toNat i) := by
  have ho := okp_lep (V := V) hB p.toNat i i0
  rw [show ((p.toNat : Nat) : Int) = p by omega] at ho
  unfold f_X10_isShared
  rw [show (12 : Int32) - jj i = jj (12 - i) from jj_sub 12 i]
  by_cases w : p ≤ 12 - i
  · rw [if_pos (show jj p ≤ jj (12 - i) by rw [jj_le (by omega) (by omega) (by omega) (by omega)]; exact w)]
    obtain ⟨r, e, r01, h⟩ := r_greedy (S := S) (N := N) (V := V) (p := p) hA hB hP hN v0 v1 p0 p1 12 N i 0 (by omega) (by omega) i0 i1 (by decide) i0
    refine ⟨r, e, r01, ?_⟩
    rw [h, ho, Int.sub_zero]
    constructor
    · intro q; exact ⟨q.2, by omega⟩
    · intro q; exact ⟨p0, q.1⟩
  · rw [if_neg (show ¬ jj p ≤ jj (12 - i) by rw [jj_le (by omega) (by omega) (by omega) (by omega)]; exact w)]
    refine ⟨0, rfl, Or.inl rfl, by omega, fun q => ?_⟩
    have := (ho.1 q).2
    omega
