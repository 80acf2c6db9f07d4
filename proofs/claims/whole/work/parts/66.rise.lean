/-! rise -/
/-- nothing but these fields may be another -/
def FR (fs : List Nat) (S S' : St) : Prop := (∀ f j i, ¬ f ∈ fs → gI S' f j i = gI S f j i) ∧ (∀ f j i, ¬ f ∈ fs → gL S' f j i = gL S f j i) ∧ S'.2.2 = S.2.2
theorem FR_refl (fs : List Nat) (S : St) : FR fs S S := ⟨fun _ _ _ _ => rfl, fun _ _ _ _ => rfl, rfl⟩
theorem FR_trans {fs : List Nat} {S S' S'' : St} (h : FR fs S S') (h2 : FR fs S' S'') : FR fs S S'' :=
  ⟨fun f j i q => (h2.1 f j i q).trans (h.1 f j i q), fun f j i q => (h2.2.1 f j i q).trans (h.2.1 f j i q), h2.2.2.trans h.2.2⟩
theorem FR_sub {fs gs : List Nat} {S S' : St} (hs : ∀ f, f ∈ fs → f ∈ gs) (h : FR fs S S') : FR gs S S' :=
  ⟨fun f j i q => h.1 f j i (fun r => q (hs f r)), fun f j i q => h.2.1 f j i (fun r => q (hs f r)), h.2.2⟩
theorem FR_sI {fs : List Nat} {S : St} {f j i : Nat} {v : Int32} (h : f ∈ fs) : FR fs S (sI S f j i v) :=
  ⟨fun f' j' i' q => by rw [gI_sI, if_neg]; rintro ⟨rfl, _⟩; exact q h, fun _ _ _ _ => rfl, rfl⟩
theorem FR_sIA {fs : List Nat} {S : St} {f j : Nat} {g : Nat → Int32} (h : f ∈ fs) : FR fs S (sIA S f j g) :=
  ⟨fun f' j' i' q => by rw [gI_sIA, if_neg]; rintro ⟨rfl, _⟩; exact q h, fun _ _ _ _ => rfl, rfl⟩
theorem FR_sL {fs : List Nat} {S : St} {f j i : Nat} {v : Int64} (h : f ∈ fs) : FR fs S (sL S f j i v) :=
  ⟨fun _ _ _ _ => rfl, fun f' j' i' q => by rw [gL_sL, if_neg]; rintro ⟨rfl, _⟩; exact q h, rfl⟩
theorem FR_sLA {fs : List Nat} {S : St} {f j : Nat} {g : Nat → Int64} (h : f ∈ fs) : FR fs S (sLA S f j g) :=
  ⟨fun _ _ _ _ => rfl, fun f' j' i' q => by rw [gL_sLA, if_neg]; rintro ⟨rfl, _⟩; exact q h, rfl⟩
theorem FR_CC {fs : List Nat} {S S' : St} {j : Nat} {c : Int → Int} (h : FR fs S S') (hf : ¬ 400 ∈ fs) (hC : CC S j c) : CC S' j c := fun i h1 h2 => (h.1 400 j _ hf).trans (hC i h1 h2)
theorem FR_CA {fs : List Nat} {S S' : St} {c : Int → Int} (h : FR fs S S') (hf : ¬ 1000 ∈ fs) (hA : CA S c) : CA S' c := fun i h1 h2 => (h.1 1000 0 _ hf).trans (hA i h1 h2)
def rv (S : St) (f : Nat) (k : Int) : Int := (gI S f 0 k.toNat).toInt
theorem rv_jj (S : St) (f : Nat) (k : Int) : gI S f 0 k.toNat = jj (rv S f k) := (jj_self _).symm
theorem rv_hit {S : St} {f : Nat} {k v : Int} (h : -2147483648 ≤ v) (h2 : v ≤ 2147483647) : rv (sI S f 0 k.toNat (jj v)) f k = v := by
  unfold rv
  rw [gI_sI, if_pos ⟨rfl, rfl, rfl⟩, jj_toInt h h2]
theorem rv_miss {S : St} {f : Nat} {k i : Int} {v : Int32} (h : 0 ≤ k) (h1 : 0 ≤ i) (h2 : i ≠ k) : rv (sI S f 0 k.toNat v) f i = rv S f i := by
  unfold rv
  rw [gI_sI, if_neg]
  rintro ⟨_, _, e⟩
  omega
def RT (c R : Int → Int) (k0 : Int) : Prop := ∀ k, k0 ≤ k → k < 12 → 1 ≤ R k ∧ R k ≤ 12 - k ∧ (R k = 1 ∨ ∃ d, k < d ∧ d < 12 ∧ c k < c d ∧ R k = R d + 1) ∧ ∀ d, k < d → d < 12 → c k < c d → R d + 1 ≤ R k
theorem RT_one {c R T : Int → Int} (h : RT c R 0) (h2 : RT c T 0) : ∀ (m : Nat) (k : Int), 0 ≤ k → k + m = 12 → ∀ i, k ≤ i → i < 12 → R i = T i := by
  intro m
  induction m with
  | zero => intro k h1 h2 i h3 h4; omega
  | succ m ih =>
    intro k hk hm i h3 h4
    have ih2 := ih (k + 1) (by omega) (by omega)
    by_cases e : i = k
    · subst e
      obtain ⟨a1, a2, a3, a4⟩ := h i hk h4
      obtain ⟨b1, b2, b3, b4⟩ := h2 i hk h4
      rcases a3 with a3 | ⟨d, d1, d2, d3, d4⟩
      · rcases b3 with b3 | ⟨e, e1, e2, e3, e4⟩
        · omega
        · have := a4 e e1 e2 e3
          have := ih2 e (by omega) e2
          omega
      · have := b4 d d1 d2 d3
        have q := ih2 d (by omega) d2
        rcases b3 with b3 | ⟨e, e1, e2, e3, e4⟩
        · omega
        · have := a4 e e1 e2 e3
          have := ih2 e (by omega) e2
          omega
    · exact ih2 i (by omega) h4
def RI (c R : Int → Int) (k d v : Int) : Prop := 1 ≤ v ∧ v ≤ 12 - k ∧ (v = 1 ∨ ∃ e, k < e ∧ e < d ∧ c k < c e ∧ v = R e + 1) ∧ ∀ e, k < e → e < d → c k < c e → R e + 1 ≤ v
theorem RI_skip {c R : Int → Int} {k d v : Int} (h : RI c R k d v) (hc : c d ≤ c k ∨ R d + 1 ≤ v) : RI c R k (d + 1) v := by
  obtain ⟨h1, h2, h3, h4⟩ := h
  refine ⟨h1, h2, ?_, fun e e1 e2 e3 => ?_⟩
  · rcases h3 with h3 | ⟨e, e1, e2, e3, e4⟩
    · exact Or.inl h3
    · exact Or.inr ⟨e, e1, by omega, e3, e4⟩
  · by_cases q : e = d
    · subst q; omega
    · exact h4 e e1 (by omega) e3
theorem RI_take {c R : Int → Int} {k d v : Int} (h : RI c R k d v) (hkd : k < d) (hR : 0 ≤ R d) (hR2 : R d ≤ 12 - d) (hc : c k < c d) (hv : v ≤ R d + 1) : RI c R k (d + 1) (R d + 1) := by
  obtain ⟨h1, h2, h3, h4⟩ := h
  refine ⟨by omega, by omega, Or.inr ⟨d, hkd, by omega, hc, rfl⟩, fun e e1 e2 e3 => ?_⟩
  by_cases q : e = d
  · subst q; omega
  · have := h4 e e1 (by omega) e3
    omega
theorem RT_down {c R T : Int → Int} {k : Int} (hT : RT c R (k + 1)) (hk : k < 12) (hi : RI c T k 12 (R k)) (he : ∀ i, k < i → i < 12 → R i = T i) : RT c R k := by
  intro i i1 i2
  by_cases q : i = k
  · subst q
    obtain ⟨h1, h2, h3, h4⟩ := hi
    refine ⟨h1, h2, ?_, fun d d1 d2 d3 => ?_⟩
    · rcases h3 with h3 | ⟨e, e1, e2, e3, e4⟩
      · exact Or.inl h3
      · exact Or.inr ⟨e, e1, e2, e3, by rw [he e e1 e2]; exact e4⟩
    · rw [he d d1 d2]
      exact h4 d d1 d2 d3
  · exact hT i (by omega) i2
theorem ex_loop {σ β : Type} {F : Nat → σ → Int → Option β} {out : σ → Option β} {P : Int → σ → Prop} {E : Int}
    (h0 : ∀ n a, P E a → F (n + 1) a E = out a)
    (h1 : ∀ n a k, k < E → P k a → ∃ a', P (k + 1) a' ∧ F (n + 1) a k = F n a' (k + 1)) :
    ∀ (m n : Nat) (k : Int) (a : σ), k + m = E → m < n → P k a → ∃ a', P E a' ∧ F n a k = out a' := by
  intro m
  induction m with
  | zero =>
    intro n k a hk hn hP
    obtain ⟨n, rfl⟩ : ∃ n', n = n' + 1 := ⟨n - 1, by omega⟩
    have : k = E := by omega
    subst this
    exact ⟨a, hP, h0 n a hP⟩
  | succ m ih =>
    intro n k a hk hn hP
    obtain ⟨n, rfl⟩ : ∃ n', n = n' + 1 := ⟨n - 1, by omega⟩
    obtain ⟨a', hP2, e⟩ := h1 n a k (by omega) hP
    rw [e]
    exact ih n (k + 1) a' (by omega) (by omega) hP2
theorem rise_inX {S : St} {c : Int → Int} (hC : CC S 0 c) (hB : CB c) {N : Nat} (hN : 20 < N) {k l : Int} (k1 : 0 ≤ k) (k2 : k < 12) (l1 : 0 ≤ l) (l2 : l ≤ 12) (S0 : St) (hf0 : FR [300] S S0) (hT : RT c (rv S0 300) (k + 1)) (x : Int32) (rec : Int32 → Int32 → Int32 → St → Option (Int32 × St)) (S1 : St) (hS1 : S1 = sI S0 300 0 k.toNat (jj 1)) :
    ∃ S2, FR [300] S S2 ∧ RT c (rv S2 300) k ∧ (∀ i, k < i → i < 12 → rv S2 300 i = rv S0 300 i) ∧ f_X3_climb_b25 rec N 0 N x (jj l) (jj k) (jj (k + 1)) S1 = rec x (jj (if l < rv S2 300 k then rv S2 300 k else l)) (jj (k - 1)) S2 := by
  have main := ex_loop (F := fun n S2 d => f_X3_climb_b25 rec N 0 n x (jj l) (jj k) (jj d) S2) (out := fun S2 => rec x (jj (if l < rv S2 300 k then rv S2 300 k else l)) (jj (k - 1)) S2) (P := fun d S2 => k < d ∧ FR [300] S S2 ∧ (∀ i, k < i → i < 12 → rv S2 300 i = rv S0 300 i) ∧ RI c (rv S0 300) k d (rv S2 300 k)) (E := 12) ?_ ?_ (11 - k).toNat N (k + 1) S1 (by omega) (by omega) ?_
  · obtain ⟨S2, ⟨_, q1, q2, q3⟩, e⟩ := main
    refine ⟨S2, q1, RT_down (T := rv S0 300) (fun i i1 i2 => ?_) k2 q3 q2, q2, e⟩
    obtain ⟨t1, t2, t3, t4⟩ := hT i i1 i2
    rw [q2 i (by omega) i2]
    refine ⟨t1, t2, ?_, fun d d1 d2 d3 => by rw [q2 d (by omega) d2]; exact t4 d d1 d2 d3⟩
    rcases t3 with t3 | ⟨d, d1, d2, d3, d4⟩
    · exact Or.inl t3
    · exact Or.inr ⟨d, d1, d2, d3, by rw [q2 d (by omega) d2]; exact d4⟩
  · intro n S2 ⟨q0, hf, q2, q3⟩
    obtain ⟨r1, r2, r3, r4⟩ := q3
    simp only [f_X3_climb_b25]
    simp (disch := omega) only [jj_of, jj_add, jj_sub, jj_mul, jj_neg, jj_le, jj_lt, jj_eq, jj_nat, chk_true (jj_inb _ _ _), chk_true (jj_nz _ _ _), lt, if_true, if_false, reduceIte, Int.le_refl, rv_jj]
    by_cases q : l < rv S2 300 k
    · have q2 : ¬ rv S2 300 k ≤ l := by omega
      simp (disch := omega) only [jj_of, jj_add, jj_sub, jj_mul, jj_neg, jj_le, jj_lt, jj_eq, jj_nat, chk_true (jj_inb _ _ _), chk_true (jj_nz _ _ _), lt, if_true, if_false, reduceIte, q]
      rfl
    · simp (disch := omega) only [jj_of, jj_add, jj_sub, jj_mul, jj_neg, jj_le, jj_lt, jj_eq, jj_nat, chk_true (jj_inb _ _ _), chk_true (jj_nz _ _ _), lt, if_true, if_false, reduceIte, q]
      rfl
  · intro n S2 d hd ⟨q0, hf, q2, q3⟩
    have hd2 : ¬ 12 ≤ d := by omega
    have hbd := hB d (by omega) hd
    have hbk := hB k k1 k2
    have hC := FR_CC hf (by decide) hC
    obtain ⟨t1, t2, t3, t4⟩ := hT d (by omega) hd
    obtain ⟨r1, r2, r3, r4⟩ := id q3
    have e2 := q2 d q0 hd
    simp only [f_X3_climb_b25]
    simp (disch := omega) only [jj_of, jj_add, jj_sub, jj_mul, jj_neg, jj_le, jj_lt, jj_eq, jj_nat, chk_true (jj_inb _ _ _), chk_true (jj_nz _ _ _), lt, if_true, if_false, reduceIte, hd2, hC _]
    by_cases hc : c d ≤ c k
    · simp only [hc, if_true, if_false, reduceIte]
      exact ⟨S2, ⟨by omega, hf, q2, RI_skip q3 (Or.inl hc)⟩, rfl⟩
    · simp only [hc, if_true, if_false, reduceIte, rv_jj]
      have hw : (if jj (rv S2 300 k) < jj (rv S2 300 d) + jj 1 then jj (rv S2 300 d) + jj 1 else jj (rv S2 300 k)) = jj (if rv S2 300 k < rv S2 300 d + 1 then rv S2 300 d + 1 else rv S2 300 k) := by
        simp (disch := omega) only [jj_of, jj_add, jj_sub, jj_mul, jj_neg, jj_le, jj_lt, jj_eq, jj_nat, chk_true (jj_inb _ _ _), chk_true (jj_nz _ _ _), lt]
        by_cases q : rv S2 300 k < rv S2 300 d + 1
        · simp only [q, if_true, if_false, reduceIte]
        · simp only [q, if_true, if_false, reduceIte]
      simp (disch := omega) only [jj_of, jj_add, jj_sub, jj_mul, jj_neg, jj_le, jj_lt, jj_eq, jj_nat, chk_true (jj_inb _ _ _), chk_true (jj_nz _ _ _), lt] at hw ⊢
      rw [hw]
      refine ⟨_, ⟨by omega, FR_trans hf (FR_sI (by decide)), fun i i1 i2 => ?_, ?_⟩, rfl⟩
      · rw [rv_miss k1 (by omega) (by omega)]; exact q2 i i1 i2
      · by_cases q : rv S2 300 k < rv S2 300 d + 1
        · rw [if_pos q, rv_hit (by omega) (by omega), e2]
          exact RI_take q3 q0 (by omega) (by omega) (by omega) (by omega)
        · rw [if_neg q, rv_hit (by omega) (by omega)]
          exact RI_skip q3 (Or.inr (by omega))
  · subst hS1
    refine ⟨by omega, FR_trans hf0 (FR_sI (by decide)), fun i i1 i2 => rv_miss k1 (by omega) (by omega), ?_⟩
    rw [rv_hit (by decide) (by decide)]
    exact ⟨by omega, by omega, Or.inl rfl, fun e e1 e2 => by omega⟩
theorem rise_tabX {S : St} {c : Int → Int} (hC : CC S 0 c) (hB : CB c) {N : Nat} (hN : 20 < N) (x : Int32) :
    ∃ s : St × Int, FR [300] S s.1 ∧ RT c (rv s.1 300) 0 ∧ (∃ i, 0 ≤ i ∧ i < 12 ∧ rv s.1 300 i = s.2) ∧ (∀ i, 0 ≤ i → i < 12 → rv s.1 300 i ≤ s.2) ∧ f_X3_climb_b6 N 0 N x (jj 0) (jj 11) S = (if x = jj (-1) then some (jj s.2, s.1) else if x < jj 0 then some (jj (-2), s.1) else if x < jj s.2 then bnd (f_X3_climbed N 0 s.1 (jj s.2) x) (fun q1 => some (q1, s.1)) else some (jj (-2), s.1)) := by
  have main := ex_loop (F := fun n (s : St × Int) t => f_X3_climb_b6 N 0 n x (jj s.2) (jj (11 - t)) s.1) (out := fun s => if x = jj (-1) then some (jj s.2, s.1) else if x < jj 0 then some (jj (-2), s.1) else if x < jj s.2 then bnd (f_X3_climbed N 0 s.1 (jj s.2) x) (fun q1 => some (q1, s.1)) else some (jj (-2), s.1)) (P := fun t s => 0 ≤ t ∧ FR [300] S s.1 ∧ RT c (rv s.1 300) (12 - t) ∧ 0 ≤ s.2 ∧ s.2 ≤ 12 ∧ (0 < t → ∃ i, 12 - t ≤ i ∧ i < 12 ∧ rv s.1 300 i = s.2) ∧ (∀ i, 12 - t ≤ i → i < 12 → rv s.1 300 i ≤ s.2) ∧ (t = 0 → s.2 = 0)) (E := 12) ?_ ?_ 12 N 0 (S, 0) (by omega) (by omega) ⟨Int.le_refl 0, FR_refl _ _, fun k h h2 => by omega, by simp, by simp, fun h => by omega, fun i h h2 => by omega, fun _ => rfl⟩
  · obtain ⟨s, ⟨_, q1, q2, _, _, q3, q4, _⟩, e⟩ := main
    obtain ⟨i, i1, i2, i3⟩ := q3 (by omega)
    exact ⟨s, q1, fun k h h2 => q2 k (by omega) h2, ⟨i, by omega, i2, i3⟩, fun k h h2 => q4 k (by omega) h2, e⟩
  · intro n ⟨S2, l⟩ ⟨t1, hf, q2, q3, q4, q5, q6, q7⟩
    simp only [f_X3_climb_b6]
    simp (disch := omega) only [jj_of, jj_neg, jj_lt, if_true, if_false, reduceIte, show (11 - 12 : Int) < 0 from by decide]
  · intro n ⟨S2, l⟩ t ht ⟨t1, hf, q2, q3, q4, q5, q6, q7⟩
    simp only at hf q2 q3 q4 q5 q6 q7
    have h0 : ¬ 11 - t < 0 := by omega
    obtain ⟨S3, r1, r2, r3, r4⟩ := rise_inX hC hB hN (show 0 ≤ 11 - t by omega) (show 11 - t < 12 by omega) q3 q4 S2 hf (by rw [show 11 - t + 1 = 12 - t by omega]; exact q2) x (f_X3_climb_b6 N 0 n) _ rfl
    obtain ⟨u1, u2, u3, u4⟩ := r2 (11 - t) (Int.le_refl _) (by omega)
    refine ⟨(S3, if l < rv S3 300 (11 - t) then rv S3 300 (11 - t) else l), ⟨by omega, r1, ?_, ?_, ?_, ?_, ?_, fun h => by omega⟩, ?_⟩
    · rw [show 12 - (t + 1) = 11 - t by omega]; exact r2
    · dsimp only
      by_cases q : l < rv S3 300 (11 - t)
      · rw [if_pos q]; omega
      · rw [if_neg q]; omega
    · dsimp only
      by_cases q : l < rv S3 300 (11 - t)
      · rw [if_pos q]; omega
      · rw [if_neg q]; omega
    · intro _
      dsimp only
      by_cases q : l < rv S3 300 (11 - t)
      · rw [if_pos q]
        exact ⟨11 - t, by omega, by omega, rfl⟩
      · rw [if_neg q]
        by_cases qt : 0 < t
        · obtain ⟨i, i1, i2, i3⟩ := q5 qt
          exact ⟨i, by omega, i2, by rw [r3 i (by omega) i2]; exact i3⟩
        · have := q7 (by omega)
          exact ⟨11 - t, by omega, by omega, by omega⟩
    · intro i i1 i2
      dsimp only
      have key : rv S3 300 i ≤ l ∨ i = 11 - t := by
        by_cases e : i = 11 - t
        · exact Or.inr e
        · left
          rw [r3 i (by omega) i2]
          exact q6 i (by omega) i2
      by_cases q : l < rv S3 300 (11 - t)
      · rw [if_pos q]
        rcases key with key | key
        · omega
        · rw [key]; omega
      · rw [if_neg q]
        rcases key with key | key
        · exact key
        · rw [key]; omega
    · simp only [f_X3_climb_b6]
      simp (disch := omega) only [jj_of, jj_add, jj_sub, jj_mul, jj_neg, jj_le, jj_lt, jj_eq, jj_nat, chk_true (jj_inb _ _ _), chk_true (jj_nz _ _ _), lt, h0, if_true, if_false, reduceIte]
      rw [show 11 - (t + 1) = 11 - t - 1 by omega]
      exact r4
theorem rise_inM {S : St} {c : Int → Int} (hA : CA S c) (hB : CB c) {N : Nat} (hN : 20 < N) {k l : Int} (k1 : 0 ≤ k) (k2 : k < 12) (l1 : 0 ≤ l) (l2 : l ≤ 12) (S0 : St) (hf0 : FR [1026] S S0) (hT : RT c (rv S0 1026) (k + 1)) (x : Int32) (rec : Int32 → Int32 → Int32 → St → Option (Int32 × St)) (S1 : St) (hS1 : S1 = sI S0 1026 0 k.toNat (jj 1)) :
    ∃ S2, FR [1026] S S2 ∧ RT c (rv S2 1026) k ∧ (∀ i, k < i → i < 12 → rv S2 1026 i = rv S0 1026 i) ∧ f_X10_rise_b21 rec N N x (jj l) (jj k) (jj (k + 1)) S1 = rec x (jj (if l < rv S2 1026 k then rv S2 1026 k else l)) (jj (k - 1)) S2 := by
  have main := ex_loop (F := fun n S2 d => f_X10_rise_b21 rec N n x (jj l) (jj k) (jj d) S2) (out := fun S2 => rec x (jj (if l < rv S2 1026 k then rv S2 1026 k else l)) (jj (k - 1)) S2) (P := fun d S2 => k < d ∧ FR [1026] S S2 ∧ (∀ i, k < i → i < 12 → rv S2 1026 i = rv S0 1026 i) ∧ RI c (rv S0 1026) k d (rv S2 1026 k)) (E := 12) ?_ ?_ (11 - k).toNat N (k + 1) S1 (by omega) (by omega) ?_
  · obtain ⟨S2, ⟨_, q1, q2, q3⟩, e⟩ := main
    refine ⟨S2, q1, RT_down (T := rv S0 1026) (fun i i1 i2 => ?_) k2 q3 q2, q2, e⟩
    obtain ⟨t1, t2, t3, t4⟩ := hT i i1 i2
    rw [q2 i (by omega) i2]
    refine ⟨t1, t2, ?_, fun d d1 d2 d3 => by rw [q2 d (by omega) d2]; exact t4 d d1 d2 d3⟩
    rcases t3 with t3 | ⟨d, d1, d2, d3, d4⟩
    · exact Or.inl t3
    · exact Or.inr ⟨d, d1, d2, d3, by rw [q2 d (by omega) d2]; exact d4⟩
  · intro n S2 ⟨q0, hf, q2, q3⟩
    obtain ⟨r1, r2, r3, r4⟩ := q3
    simp only [f_X10_rise_b21]
    simp (disch := omega) only [jj_of, jj_add, jj_sub, jj_mul, jj_neg, jj_le, jj_lt, jj_eq, jj_nat, chk_true (jj_inb _ _ _), chk_true (jj_nz _ _ _), lt, if_true, if_false, reduceIte, Int.le_refl, rv_jj]
    by_cases q : rv S2 1026 k ≤ l
    · have q2 : ¬ l < rv S2 1026 k := by omega
      simp (disch := omega) only [jj_of, jj_add, jj_sub, jj_mul, jj_neg, jj_le, jj_lt, jj_eq, jj_nat, chk_true (jj_inb _ _ _), chk_true (jj_nz _ _ _), lt, if_true, if_false, reduceIte, q, q2]
      rfl
    · have q2 : l < rv S2 1026 k := by omega
      simp (disch := omega) only [jj_of, jj_add, jj_sub, jj_mul, jj_neg, jj_le, jj_lt, jj_eq, jj_nat, chk_true (jj_inb _ _ _), chk_true (jj_nz _ _ _), lt, if_true, if_false, reduceIte, q, q2]
      rfl
  · intro n S2 d hd ⟨q0, hf, q2, q3⟩
    have hd2 : ¬ 12 ≤ d := by omega
    have hbd := hB d (by omega) hd
    have hbk := hB k k1 k2
    have hA := FR_CA hf (by decide) hA
    obtain ⟨t1, t2, t3, t4⟩ := hT d (by omega) hd
    obtain ⟨r1, r2, r3, r4⟩ := id q3
    have e2 := q2 d q0 hd
    simp only [f_X10_rise_b21]
    simp (disch := omega) only [jj_of, jj_add, jj_sub, jj_mul, jj_neg, jj_le, jj_lt, jj_eq, jj_nat, chk_true (jj_inb _ _ _), chk_true (jj_nz _ _ _), lt, if_true, if_false, reduceIte, hd2, hA _]
    by_cases hc : c d ≤ c k
    · simp only [hc, if_true, if_false, reduceIte]
      exact ⟨S2, ⟨by omega, hf, q2, RI_skip q3 (Or.inl hc)⟩, rfl⟩
    · simp only [hc, if_true, if_false, reduceIte, rv_jj]
      simp (disch := omega) only [jj_of, jj_add, jj_sub, jj_mul, jj_neg, jj_le, jj_lt, jj_eq, jj_nat, chk_true (jj_inb _ _ _), chk_true (jj_nz _ _ _), lt]
      by_cases q : rv S2 1026 d < rv S2 1026 k
      · simp only [q, if_true, if_false, reduceIte]
        exact ⟨S2, ⟨by omega, hf, q2, RI_skip q3 (Or.inr (by omega))⟩, rfl⟩
      · simp only [q, if_true, if_false, reduceIte]
        refine ⟨_, ⟨by omega, FR_trans hf (FR_sI (by decide)), fun i i1 i2 => ?_, ?_⟩, rfl⟩
        · rw [rv_miss k1 (by omega) (by omega)]; exact q2 i i1 i2
        · rw [rv_hit (by omega) (by omega), e2]
          exact RI_take q3 q0 (by omega) (by omega) (by omega) (by omega)
  · subst hS1
    refine ⟨by omega, FR_trans hf0 (FR_sI (by decide)), fun i i1 i2 => rv_miss k1 (by omega) (by omega), ?_⟩
    rw [rv_hit (by decide) (by decide)]
    exact ⟨by omega, by omega, Or.inl rfl, fun e e1 e2 => by omega⟩
theorem rise_tabM {S : St} {c : Int → Int} (hA : CA S c) (hB : CB c) {N : Nat} (hN : 20 < N) (x : Int32) :
    ∃ s : St × Int, FR [1026] S s.1 ∧ RT c (rv s.1 1026) 0 ∧ (∃ i, 0 ≤ i ∧ i < 12 ∧ rv s.1 1026 i = s.2) ∧ (∀ i, 0 ≤ i → i < 12 → rv s.1 1026 i ≤ s.2) ∧ f_X10_rise_b5 N N x (jj 0) (jj 11) S = (if x = jj (-1) then some (jj s.2, s.1) else bnd (f_X10_isIn s.1 x (jj 0) (jj s.2 - jj 1)) (fun q1 => if q1 = jj 0 then some (jj (-2), s.1) else f_X10_rise_b137 N N x (jj s.2) (jj 0) s.1)) := by
  have main := ex_loop (F := fun n (s : St × Int) t => f_X10_rise_b5 N n x (jj s.2) (jj (11 - t)) s.1) (out := fun s => if x = jj (-1) then some (jj s.2, s.1) else bnd (f_X10_isIn s.1 x (jj 0) (jj s.2 - jj 1)) (fun q1 => if q1 = jj 0 then some (jj (-2), s.1) else f_X10_rise_b137 N N x (jj s.2) (jj 0) s.1)) (P := fun t s => 0 ≤ t ∧ FR [1026] S s.1 ∧ RT c (rv s.1 1026) (12 - t) ∧ 0 ≤ s.2 ∧ s.2 ≤ 12 ∧ (0 < t → ∃ i, 12 - t ≤ i ∧ i < 12 ∧ rv s.1 1026 i = s.2) ∧ (∀ i, 12 - t ≤ i → i < 12 → rv s.1 1026 i ≤ s.2) ∧ (t = 0 → s.2 = 0)) (E := 12) ?_ ?_ 12 N 0 (S, 0) (by omega) (by omega) ⟨Int.le_refl 0, FR_refl _ _, fun k h h2 => by omega, by simp, by simp, fun h => by omega, fun i h h2 => by omega, fun _ => rfl⟩
  · obtain ⟨s, ⟨_, q1, q2, _, _, q3, q4, _⟩, e⟩ := main
    obtain ⟨i, i1, i2, i3⟩ := q3 (by omega)
    exact ⟨s, q1, fun k h h2 => q2 k (by omega) h2, ⟨i, by omega, i2, i3⟩, fun k h h2 => q4 k (by omega) h2, e⟩
  · intro n ⟨S2, l⟩ ⟨t1, hf, q2, q3, q4, q5, q6, q7⟩
    simp only [f_X10_rise_b5]
    simp (disch := omega) only [jj_of, jj_neg, jj_lt, if_true, if_false, reduceIte, show (11 - 12 : Int) < 0 from by decide]
  · intro n ⟨S2, l⟩ t ht ⟨t1, hf, q2, q3, q4, q5, q6, q7⟩
    simp only at hf q2 q3 q4 q5 q6 q7
    have h0 : ¬ 11 - t < 0 := by omega
    obtain ⟨S3, r1, r2, r3, r4⟩ := rise_inM hA hB hN (show 0 ≤ 11 - t by omega) (show 11 - t < 12 by omega) q3 q4 S2 hf (by rw [show 11 - t + 1 = 12 - t by omega]; exact q2) x (f_X10_rise_b5 N n) _ rfl
    obtain ⟨u1, u2, u3, u4⟩ := r2 (11 - t) (Int.le_refl _) (by omega)
    refine ⟨(S3, if l < rv S3 1026 (11 - t) then rv S3 1026 (11 - t) else l), ⟨by omega, r1, ?_, ?_, ?_, ?_, ?_, fun h => by omega⟩, ?_⟩
    · rw [show 12 - (t + 1) = 11 - t by omega]; exact r2
    · dsimp only
      by_cases q : l < rv S3 1026 (11 - t)
      · rw [if_pos q]; omega
      · rw [if_neg q]; omega
    · dsimp only
      by_cases q : l < rv S3 1026 (11 - t)
      · rw [if_pos q]; omega
      · rw [if_neg q]; omega
    · intro _
      dsimp only
      by_cases q : l < rv S3 1026 (11 - t)
      · rw [if_pos q]
        exact ⟨11 - t, by omega, by omega, rfl⟩
      · rw [if_neg q]
        by_cases qt : 0 < t
        · obtain ⟨i, i1, i2, i3⟩ := q5 qt
          exact ⟨i, by omega, i2, by rw [r3 i (by omega) i2]; exact i3⟩
        · have := q7 (by omega)
          exact ⟨11 - t, by omega, by omega, by omega⟩
    · intro i i1 i2
      dsimp only
      have key : rv S3 1026 i ≤ l ∨ i = 11 - t := by
        by_cases e : i = 11 - t
        · exact Or.inr e
        · left
          rw [r3 i (by omega) i2]
          exact q6 i (by omega) i2
      by_cases q : l < rv S3 1026 (11 - t)
      · rw [if_pos q]
        rcases key with key | key
        · omega
        · rw [key]; omega
      · rw [if_neg q]
        rcases key with key | key
        · exact key
        · rw [key]; omega
    · simp only [f_X10_rise_b5]
      simp (disch := omega) only [jj_of, jj_add, jj_sub, jj_mul, jj_neg, jj_le, jj_lt, jj_eq, jj_nat, chk_true (jj_inb _ _ _), chk_true (jj_nz _ _ _), lt, h0, if_true, if_false, reduceIte]
      rw [show 11 - (t + 1) = 11 - t - 1 by omega]
      exact r4
theorem rise_go {SX SM : St} {c R : Int → Int} (hC : CC SX 0 c) (hA : CA SM c) (hB : CB c) (hR : ∀ k, 0 ≤ k → k < 12 → gI SX 300 0 k.toNat = jj (R k)) (hR' : ∀ k, 0 ≤ k → k < 12 → gI SM 1026 0 k.toNat = jj (R k)) (hT : RT c R 0) {N : Nat} (hN : 20 < N) {most i : Int} (m1 : 1 ≤ most) (m2 : most ≤ 12) (i1 : 0 ≤ i) (i2 : i < most) :
    ∀ (m n n2 n3 : Nat) (p q k : Int), p + m = 12 → m < n → m < n2 → i - k < n3 → 1 ≤ k → k ≤ i → 0 ≤ q → q < p → (∃ d, p ≤ d ∧ d < 12 ∧ c q < c d ∧ R d = most - k) → ∃ v, f_X3_climbed_b9 N 0 n (jj most) (jj i) (jj (c q)) (jj (most - k)) (jj p) SX = some v ∧ f_X10_rise_b167 (f_X10_rise_b156 N n3) N n2 (jj i) (jj most) (jj q) (jj k) (jj p) SM = some (v, SM) := by
  intro m
  induction m with
  | zero => intro n n2 n3 p q k hp _ _ _ _ _ _ _ ⟨d, d1, d2, _⟩; omega
  | succ m ih =>
    intro n n2 n3 p q k hp hn hn2 hn3 k1 k2 q1 q2 ⟨d, d1, d2, d3, d4⟩
    obtain ⟨n, rfl⟩ : ∃ n', n = n' + 1 := ⟨n - 1, by omega⟩
    obtain ⟨n2, rfl⟩ : ∃ n', n2 = n' + 1 := ⟨n2 - 1, by omega⟩
    have h12 : ¬ 12 ≤ p := by omega
    have hbp := hB p (by omega) (by omega)
    have hbq := hB q (by omega) (by omega)
    obtain ⟨t1, t2, t3, t4⟩ := hT p (by omega) (by omega)
    have next : ¬ (R p = most - k ∧ c q < c p) → ∃ v, f_X3_climbed_b9 N 0 n (jj most) (jj i) (jj (c q)) (jj (most - k)) (jj (p + 1)) SX = some v ∧ f_X10_rise_b167 (f_X10_rise_b156 N n3) N n2 (jj i) (jj most) (jj q) (jj k) (jj (p + 1)) SM = some (v, SM) := by
      intro h
      refine ih n n2 n3 (p + 1) q k (by omega) (by omega) (by omega) hn3 k1 k2 q1 (by omega) ⟨d, ?_, d2, d3, d4⟩
      by_cases e : d = p
      · subst e; exact absurd ⟨d4, d3⟩ h
      · omega
    simp only [f_X3_climbed_b9, f_X10_rise_b167]
    simp (disch := omega) only [jj_of, jj_add, jj_sub, jj_mul, jj_neg, jj_le, jj_lt, jj_eq, jj_nat, chk_true (jj_inb _ _ _), chk_true (jj_nz _ _ _), lt, if_true, if_false, reduceIte, h12, hC _, hA _, hR _, hR' _]
    by_cases hr : R p = most - k
    · by_cases hc : c q < c p
      · have hc2 : ¬ c p ≤ c q := by omega
        simp (disch := omega) only [jj_of, jj_add, jj_sub, jj_mul, jj_neg, jj_le, jj_lt, jj_eq, jj_nat, chk_true (jj_inb _ _ _), chk_true (jj_nz _ _ _), lt, if_true, if_false, reduceIte, hr, hc, hc2]
        obtain ⟨n3, rfl⟩ : ∃ n', n3 = n' + 1 := ⟨n3 - 1, by omega⟩
        by_cases hi : k = i
        · have h1 : most - (most - k) = i := by omega
          have h2 : i < k + 1 := by omega
          simp only [f_X10_rise_b156]
          simp (disch := omega) only [jj_of, jj_add, jj_sub, jj_mul, jj_neg, jj_le, jj_lt, jj_eq, jj_nat, chk_true (jj_inb _ _ _), chk_true (jj_nz _ _ _), lt, if_true, if_false, reduceIte, h1, h2]
          exact ⟨_, rfl, rfl⟩
        · have h1 : ¬ most - (most - k) = i := by omega
          have h2 : ¬ i < k + 1 := by omega
          simp only [f_X10_rise_b156]
          simp (disch := omega) only [jj_of, jj_add, jj_sub, jj_mul, jj_neg, jj_le, jj_lt, jj_eq, jj_nat, chk_true (jj_inb _ _ _), chk_true (jj_nz _ _ _), lt, if_true, if_false, reduceIte, h1, h2]
          rw [show most - k + -1 = most - (k + 1) by omega]
          refine ih n N n3 (p + 1) p (k + 1) (by omega) (by omega) (by omega) (by omega) (by omega) (by omega) (by omega) (by omega) ?_
          rcases t3 with t3 | ⟨e, e1, e2, e3, e4⟩
          · omega
          · exact ⟨e, by omega, e2, e3, by omega⟩
      · have hc2 : c p ≤ c q := by omega
        simp (disch := omega) only [jj_of, jj_add, jj_sub, jj_mul, jj_neg, jj_le, jj_lt, jj_eq, jj_nat, chk_true (jj_inb _ _ _), chk_true (jj_nz _ _ _), lt, if_true, if_false, reduceIte, hr, hc, hc2]
        exact next (fun h => hc h.2)
    · simp (disch := omega) only [jj_of, jj_add, jj_sub, jj_mul, jj_neg, jj_le, jj_lt, jj_eq, jj_nat, chk_true (jj_inb _ _ _), chk_true (jj_nz _ _ _), lt, if_true, if_false, reduceIte, hr]
      exact next (fun h => hr h.1)
theorem rise_first {SX SM : St} {c R : Int → Int} (hC : CC SX 0 c) (hA : CA SM c) (hB : CB c) (hR : ∀ k, 0 ≤ k → k < 12 → gI SX 300 0 k.toNat = jj (R k)) (hR' : ∀ k, 0 ≤ k → k < 12 → gI SM 1026 0 k.toNat = jj (R k)) (hT : RT c R 0) {N : Nat} (hN : 20 < N) {most i : Int} (m1 : 1 ≤ most) (m2 : most ≤ 12) (i1 : 0 ≤ i) (i2 : i < most) :
    ∀ (m n n2 : Nat) (p : Int), p + m = 12 → m < n → m < n2 → 0 ≤ p → (∃ d, p ≤ d ∧ d < 12 ∧ R d = most) → ∃ v, f_X3_climbed_b9 N 0 n (jj most) (jj i) (jj (-1)) (jj most) (jj p) SX = some v ∧ f_X10_rise_b137 N n2 (jj i) (jj most) (jj p) SM = some (v, SM) := by
  intro m
  induction m with
  | zero => intro n n2 p hp _ _ _ ⟨d, d1, d2, _⟩; omega
  | succ m ih =>
    intro n n2 p hp hn hn2 q1 ⟨d, d1, d2, d4⟩
    obtain ⟨n, rfl⟩ : ∃ n', n = n' + 1 := ⟨n - 1, by omega⟩
    obtain ⟨n2, rfl⟩ : ∃ n', n2 = n' + 1 := ⟨n2 - 1, by omega⟩
    have h12 : ¬ 12 ≤ p := by omega
    have hbp := hB p (by omega) (by omega)
    obtain ⟨t1, t2, t3, t4⟩ := hT p (by omega) (by omega)
    simp only [f_X3_climbed_b9, f_X10_rise_b137]
    simp (disch := omega) only [jj_of, jj_add, jj_sub, jj_mul, jj_neg, jj_le, jj_lt, jj_eq, jj_nat, chk_true (jj_inb _ _ _), chk_true (jj_nz _ _ _), lt, if_true, if_false, reduceIte, h12, hC _, hA _, hR _, hR' _]
    by_cases hr : R p = most
    · have hc2 : ¬ c p ≤ -1 := by omega
      simp (disch := omega) only [jj_of, jj_add, jj_sub, jj_mul, jj_neg, jj_le, jj_lt, jj_eq, jj_nat, chk_true (jj_inb _ _ _), chk_true (jj_nz _ _ _), lt, if_true, if_false, reduceIte, hr, hc2]
      obtain ⟨N', rfl⟩ : ∃ n', N = n' + 1 := ⟨N - 1, by omega⟩
      by_cases hi : i = 0
      · have h1 : most - most = i := by omega
        have h2 : i < 1 := by omega
        simp only [f_X10_rise_b156]
        simp (disch := omega) only [jj_of, jj_add, jj_sub, jj_mul, jj_neg, jj_le, jj_lt, jj_eq, jj_nat, chk_true (jj_inb _ _ _), chk_true (jj_nz _ _ _), lt, if_true, if_false, reduceIte, h1, h2]
        exact ⟨_, rfl, rfl⟩
      · have h1 : ¬ most - most = i := by omega
        have h2 : ¬ i < 1 := by omega
        rw [f_X10_rise_b156]
        simp (disch := omega) only [jj_of, jj_add, jj_sub, jj_mul, jj_neg, jj_le, jj_lt, jj_eq, jj_nat, chk_true (jj_inb _ _ _), chk_true (jj_nz _ _ _), lt, if_true, if_false, reduceIte, h1, h2]
        rw [show most + -1 = most - 1 by omega]
        refine rise_go hC hA hB hR hR' hT hN m1 m2 i1 i2 m n (N' + 1) N' (p + 1) p 1 (by omega) (by omega) (by omega) (by omega) (by omega) (by omega) (by omega) (by omega) ?_
        rcases t3 with t3 | ⟨e, e1, e2, e3, e4⟩
        · omega
        · exact ⟨e, by omega, e2, e3, by omega⟩
    · simp (disch := omega) only [jj_of, jj_add, jj_sub, jj_mul, jj_neg, jj_le, jj_lt, jj_eq, jj_nat, chk_true (jj_inb _ _ _), chk_true (jj_nz _ _ _), lt, if_true, if_false, reduceIte, hr]
      refine ih n n2 (p + 1) (by omega) (by omega) (by omega) (by omega) ⟨d, ?_, d2, d4⟩
      by_cases e : d = p
      · subst e; exact absurd d4 hr
      · omega
theorem q_rise {S : St} {c : Int → Int} (hC : CC S 0 c) (hA : CA S c) (hB : CB c) {N : Nat} (hN : 20 < N) (x : Int32) : ∃ v S1 S2, f_X9_rise N S x = some (v, S1) ∧ FR [300] S S1 ∧ f_X10_rise N S1 x = some (v, S2) ∧ FR [1026] S1 S2 := by
  obtain ⟨z, rfl, b1, b2⟩ := jj_ex x
  obtain ⟨⟨S1, l⟩, f1, t1, m1, m1', e1⟩ := rise_tabX hC hB hN (jj z)
  simp only at f1 t1 m1 m1' e1
  have hA1 := FR_CA f1 (by decide) hA
  have hC1 := FR_CC f1 (by decide) hC
  obtain ⟨⟨S2, l2⟩, f2, t2, m2, m2', e2⟩ := rise_tabM hA1 hB hN (jj z)
  simp only at f2 t2 m2 m2' e2
  have hA2 := FR_CA f2 (by decide) hA1
  have tt := RT_one t1 t2 12 0 (by omega) (by omega)
  obtain ⟨i, i1, i2, i3⟩ := m1
  obtain ⟨k, k1, k2, k3⟩ := m2
  have q1 := m1' k k1 k2
  have q2 := m2' i i1 i2
  have q3 := tt i i1 i2
  have q4 := tt k k1 k2
  have el : l2 = l := by omega
  subst el
  obtain ⟨u1, u2, _, _⟩ := t1 i i1 i2
  have e1' : f_X9_rise N S (jj z) = bnd (f_X3_climb_b6 N 0 N (jj z) (jj 0) (jj 11) S) (fun q1 => some (q1.1, q1.2)) := rfl
  have e2' : f_X10_rise N S1 (jj z) = f_X10_rise_b5 N N (jj z) (jj 0) (jj 11) S1 := rfl
  suffices h : ∃ v, bnd (f_X3_climb_b6 N 0 N (jj z) (jj 0) (jj 11) S) (fun q1 => some (q1.1, q1.2)) = some (v, S1) ∧ f_X10_rise_b5 N N (jj z) (jj 0) (jj 11) S1 = some (v, S2) by
    obtain ⟨v, h1, h2⟩ := h
    exact ⟨v, S1, S2, h1, f1, h2, f2⟩
  rw [e1, e2]
  simp (disch := omega) only [jj_of, jj_add, jj_sub, jj_mul, jj_neg, jj_le, jj_lt, jj_eq, jj_nat, chk_true (jj_inb _ _ _), chk_true (jj_nz _ _ _), lt]
  by_cases h1 : z = -1
  · simp only [h1, if_true, if_false, reduceIte]
    exact ⟨_, rfl, rfl⟩
  · rw [bnd_of (q_isIn2 b1 b2 (by decide) (by decide) (show -2147483648 ≤ l2 - 1 by omega) (by omega))]
    by_cases h2 : 0 ≤ z ∧ z ≤ l2 - 1
    · have h3 : ¬ z < 0 := by omega
      have h4 : z < l2 := by omega
      simp (disch := omega) only [jj_of, jj_add, jj_sub, jj_mul, jj_neg, jj_le, jj_lt, jj_eq, jj_nat, chk_true (jj_inb _ _ _), chk_true (jj_nz _ _ _), lt, h1, h2, h3, h4, if_true, if_false, reduceIte, show ((1 : Int) = 0) = False from eq_false (by decide), and_self]
      have hR : ∀ k, 0 ≤ k → k < 12 → gI S1 300 0 k.toNat = jj (rv S1 300 k) := fun k _ _ => rv_jj S1 300 k
      have hR' : ∀ k, 0 ≤ k → k < 12 → gI S2 1026 0 k.toNat = jj (rv S1 300 k) := fun k h h' => by rw [rv_jj S2 1026 k, tt k h h']
      obtain ⟨v, g1, g2⟩ := rise_first hC1 hA2 hB hR hR' t1 hN (show 1 ≤ l2 by omega) (show l2 ≤ 12 by omega) h2.1 h4 12 N N 0 (by omega) (by omega) (by omega) (by omega) ⟨i, i1, i2, i3⟩
      refine ⟨v, ?_, g2⟩
      unfold f_X3_climbed
      simp only [jj_of, jj_neg]
      rw [bnd_of g1]
      rfl
    · simp (disch := omega) only [jj_of, jj_add, jj_sub, jj_mul, jj_neg, jj_le, jj_lt, jj_eq, jj_nat, chk_true (jj_inb _ _ _), chk_true (jj_nz _ _ _), lt, h1, h2, if_true, if_false, reduceIte]
      by_cases h3 : z < 0
      · simp only [h3, if_true, if_false, reduceIte]
        exact ⟨_, rfl, rfl⟩
      · have h4 : ¬ z < l2 := by omega
        simp only [h3, h4, if_true, if_false, reduceIte]
        exact ⟨_, rfl, rfl⟩
