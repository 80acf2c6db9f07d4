/-! which: the class's count against the reference's. -/
theorem itr_last {σ : Type} {s : Int → σ → σ} (m : Nat) (k : Int) (a : σ) : itr s k (m + 1) a = s (k + m) (itr s k m a) := by
  rw [itr_add]
  rfl
theorem fsw_split {P : Int → Prop} {g : Int → Int} (k : Int) : ∀ (m : Nat) (a b : Int), itr (fsw P g) k m (a, b) = (a + (itr (fsw P g) k m (0, -1)).1, if b = -1 then (itr (fsw P g) k m (0, -1)).2 else b) := by
  intro m
  induction m with
  | zero =>
    intro a b
    show (a, b) = (a + 0, if b = -1 then -1 else b)
    by_cases q : b = -1
    · rw [if_pos q, q, Int.add_zero]
    · rw [if_neg q, Int.add_zero]
  | succ m ih =>
    intro a b
    rw [itr_last, itr_last, ih a b]
    generalize itr (fsw P g) k m (0, -1) = s
    by_cases p : P (k + m)
    · rw [fsw_yes p, fsw_yes p]
      simp only
      by_cases q : b = -1
      · rw [if_pos q, if_pos q, Int.add_assoc]
      · rw [if_neg q, if_neg q, if_neg q, Int.add_assoc]
    · rw [fsw_no p, fsw_no p]
theorem fsw_b {P : Int → Prop} {g : Int → Int} {k a b : Int} (m : Nat) (hg : ∀ w, k ≤ w → w < k + m → -1 ≤ g w ∧ g w < 24) (b0 : -1 ≤ b) (b1 : b < 24) : a ≤ (itr (fsw P g) k m (a, b)).1 ∧ (itr (fsw P g) k m (a, b)).1 ≤ a + m ∧ -1 ≤ (itr (fsw P g) k m (a, b)).2 ∧ (itr (fsw P g) k m (a, b)).2 < 24 := by
  have := itr_inv (s := fsw P g) (P := fun i s => a ≤ s.1 ∧ s.1 ≤ a + (i - k) ∧ -1 ≤ s.2 ∧ s.2 < 24) m k (a, b) ⟨Int.le_refl _, by show a ≤ a + (k - k); omega, b0, b1⟩ (fun i s q q2 hp => by
    obtain ⟨p1, p2, p3, p4⟩ := hp
    by_cases p : P i
    · rw [fsw_yes p]
      have := hg i q q2
      refine ⟨by show a ≤ s.1 + 1; omega, by show s.1 + 1 ≤ a + (i + 1 - k); omega, ?_, ?_⟩
      · show -1 ≤ (if s.2 = -1 then g i else s.2)
        split <;> omega
      · show (if s.2 = -1 then g i else s.2) < 24
        split <;> omega
    · rw [fsw_no p]
      exact ⟨p1, by omega, p3, p4⟩)
  obtain ⟨p1, p2, p3, p4⟩ := this
  exact ⟨p1, by omega, p3, p4⟩
theorem itr_shift {σ : Type} {s : Int → σ → σ} (d : Int) : ∀ (m : Nat) (k : Int) (a : σ), itr s (k + d) m a = itr (fun i x => s (i + d) x) k m a := by
  intro m
  induction m with
  | zero => intro k a; rfl
  | succ m ih =>
    intro k a
    show itr s (k + d + 1) m (s (k + d) a) = itr (fun i x => s (i + d) x) (k + 1) m (s (k + d) a)
    rw [← ih, show k + d + 1 = k + 1 + d by omega]
theorem itr_24 {σ : Type} {s : Int → σ → σ} : ∀ (m : Nat) (a : σ), itr s 0 (24 * m) a = itr (fun w x => itr s (24 * w) 24 x) 0 m a := by
  intro m
  induction m with
  | zero => intro a; rfl
  | succ m ih =>
    intro a
    rw [show 24 * (m + 1) = 24 * m + 24 by omega, itr_add, ih, itr_last (s := fun w x => itr s (24 * w) 24 x), show (0 : Int) + ((24 * m : Nat) : Int) = 24 * (0 + (m : Int)) by omega]
noncomputable def blw (em et : Sem) (h : Int) (I A : Int → Int) (w : Int) (s : Int × Int) : Int × Int := itr (fsw (fun v => 0 < I (11 + w / 2) ∧ P2W em et h (ST0 em et I h w) A v) (fun _ => w)) 0 24 s
theorem MD_1 {em et : Sem} {h : Int} {A B : Int → Int} {w : Int} : MD em et h A B 1 w ↔ P2W em et h (IMG A B) A w := by
  have e : RUN em et h 1 (IMG A B) w = if 0 < IMG A B (11 + w / 2) then some (ST0 em et (IMG A B) h w) else none := by
    show (if 0 < IMG A B (11 + (w / 24 ^ 0) / 2) then some (ST0 em et (IMG A B) h (w / 24 ^ 0)) else none) = _
    rw [show w / 24 ^ 0 = w from Int.ediv_one w]
  unfold MD P2W
  rw [e]
  by_cases q : 0 < IMG A B (11 + w / 2)
  · rw [if_pos q]
    constructor
    · rintro ⟨X, e1, l⟩
      rw [Option.some.inj e1]
      exact ⟨q, l⟩
    · rintro ⟨_, l⟩
      exact ⟨_, rfl, l⟩
  · rw [if_neg q]
    constructor
    · rintro ⟨X, e1, l⟩
      exact absurd e1 (by simp)
    · rintro ⟨q2, l⟩
      exact absurd q2 q
theorem MD_2 {em et : Sem} {h : Int} {A B : Int → Int} {c : Int} : MD em et h A B 2 c ↔ (0 < IMG A B (11 + (c / 24) / 2) ∧ P2W em et h (ST0 em et (IMG A B) h (c / 24)) A (c % 24)) := by
  have e : RUN em et h 2 (IMG A B) c = if 0 < IMG A B (11 + (c / 24) / 2) then (if 0 < ST0 em et (IMG A B) h (c / 24) (11 + (c % 24) / 2) then some (ST0 em et (ST0 em et (IMG A B) h (c / 24)) h (c % 24)) else none) else none := by
    show (if 0 < IMG A B (11 + (c / 24 ^ 1) / 2) then (if 0 < ST0 em et (IMG A B) h (c / 24 ^ 1) (11 + ((c % 24 ^ 1) / 24 ^ 0) / 2) then some (ST0 em et (ST0 em et (IMG A B) h (c / 24 ^ 1)) h ((c % 24 ^ 1) / 24 ^ 0)) else none) else none) = _
    rw [show (24 : Int) ^ 1 = 24 from rfl, show (c % 24) / 24 ^ 0 = c % 24 from Int.ediv_one _]
  unfold MD P2W
  rw [e]
  by_cases q : 0 < IMG A B (11 + (c / 24) / 2)
  · rw [if_pos q]
    by_cases q2 : 0 < ST0 em et (IMG A B) h (c / 24) (11 + (c % 24) / 2)
    · rw [if_pos q2]
      constructor
      · rintro ⟨X, e1, l⟩
        rw [Option.some.inj e1]
        exact ⟨q, q2, l⟩
      · rintro ⟨_, _, l⟩
        exact ⟨_, rfl, l⟩
    · rw [if_neg q2]
      constructor
      · rintro ⟨X, e1, l⟩
        exact absurd e1 (by simp)
      · rintro ⟨_, q3, l⟩
        exact absurd q3 q2
  · rw [if_neg q]
    constructor
    · rintro ⟨X, e1, l⟩
      exact absurd e1 (by simp)
    · rintro ⟨q2, l⟩
      exact absurd q2 q
theorem fsw_congr {P Q : Int → Prop} {g f : Int → Int} {w : Int} {s : Int × Int} (h : P w ↔ Q w) (e : g w = f w) : fsw P g w s = fsw Q f w s := by
  by_cases p : P w
  · rw [fsw_yes p, fsw_yes (h.1 p), e]
  · rw [fsw_no p, fsw_no (fun q => p (h.2 q))]
noncomputable def wya (em et : Sem) (h : Int) (I A : Int → Int) (m : Nat) : Int × Int := itr (fsw (P2W em et h I A) (fun w => w)) 0 m (0, -1)
noncomputable def wyb (em et : Sem) (h : Int) (I A : Int → Int) (m : Nat) : Int × Int := itr (blw em et h I A) 0 m (0, -1)
theorem whA_wya {em et : Sem} {h : Int} {A B : Int → Int} : whA em et h A B = wya em et h (IMG A B) A 24 := itr_congr 24 0 (0, -1) (fun i x _ _ => fsw_congr MD_1 rfl)
theorem whR_wyb {em et : Sem} {h : Int} {A B : Int → Int} : whR em et h A B = ((wya em et h (IMG A B) A 24).1 + (wyb em et h (IMG A B) A 24).1, if (wya em et h (IMG A B) A 24).2 = -1 then (wyb em et h (IMG A B) A 24).2 else (wya em et h (IMG A B) A 24).2) := by
  have e : itr (fsw (MD em et h A B 2) (fun w => w / 24)) 0 576 (0, -1) = wyb em et h (IMG A B) A 24 := by
    have := itr_24 (s := fsw (MD em et h A B 2) (fun w => w / 24)) 24 (0, -1)
    rw [show (24 * 24 : Nat) = 576 from rfl] at this
    rw [this]
    refine itr_congr 24 0 (0, -1) (fun w x w0 w1 => ?_)
    have := itr_shift (s := fsw (MD em et h A B 2) (fun w => w / 24)) (24 * w) 24 0 x
    rw [Int.zero_add] at this
    rw [this]
    refine itr_congr 24 0 x (fun v y v0 v1 => ?_)
    have d1 : (v + 24 * w) / 24 = w := by omega
    have d2 : (v + 24 * w) % 24 = v := by omega
    have m := @MD_2 em et h A B (v + 24 * w)
    rw [d1, d2] at m
    by_cases p : MD em et h A B 2 (v + 24 * w)
    · rw [fsw_yes p, fsw_yes (m.1 p), d1]
    · rw [fsw_no p, fsw_no (fun q => p (m.2 q))]
  unfold whR
  rw [whA_wya]
  generalize hw : wya em et h (IMG A B) A 24 = s
  obtain ⟨a, b⟩ := s
  rw [fsw_split, e]
theorem wya_b {em et : Sem} {h : Int} {I A : Int → Int} (m : Nat) (hm : m ≤ 24) : 0 ≤ (wya em et h I A m).1 ∧ (wya em et h I A m).1 ≤ m ∧ -1 ≤ (wya em et h I A m).2 ∧ (wya em et h I A m).2 < 24 := by
  have := fsw_b (P := P2W em et h I A) (g := fun w => w) (k := 0) (a := 0) (b := -1) m (fun w a b => by omega) (by decide) (by decide)
  unfold wya
  omega
theorem wyb_b {em et : Sem} {h : Int} {I A : Int → Int} (m : Nat) (hm : m ≤ 24) : 0 ≤ (wyb em et h I A m).1 ∧ (wyb em et h I A m).1 ≤ 24 * m ∧ -1 ≤ (wyb em et h I A m).2 ∧ (wyb em et h I A m).2 < 24 := by
  have := itr_inv (s := blw em et h I A) (P := fun i s => 0 ≤ s.1 ∧ s.1 ≤ 24 * i ∧ -1 ≤ s.2 ∧ s.2 < 24) m 0 (0, -1) ⟨by decide, by decide, by decide, by decide⟩ (fun i s q q2 hp => by
    obtain ⟨a, b⟩ := s
    obtain ⟨p1, p2, p3, p4⟩ := hp
    simp only at p1 p2 p3 p4
    have := fsw_b (P := fun v => 0 < I (11 + i / 2) ∧ P2W em et h (ST0 em et I h i) A v) (g := fun _ => i) (k := 0) (a := a) (b := b) 24 (fun w _ _ => by omega) p3 p4
    show 0 ≤ (itr (fsw (fun v => 0 < I (11 + i / 2) ∧ P2W em et h (ST0 em et I h i) A v) (fun _ => i)) 0 24 (a, b)).1 ∧ _
    unfold blw
    omega)
  unfold wyb
  omega
