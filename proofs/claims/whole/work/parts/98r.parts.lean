/-! The class's table of parts. -/
def PTC (c : Int → Int) (S1 : St) (l i : Int) : Prop := ∃ w : Int, gI S1 301 0 (l * 13 + i).toNat = jj w ∧ 0 ≤ w ∧ w ≤ 100000000 ∧ ∀ V : Int, 0 ≤ V → V ≤ 100000000 → (w ≤ V ↔ OKP c V l.toNat i)
def PT (c : Int → Int) (S S1 : St) (P Q : Int) : Prop := FX (fun f _ => f = 301) S S1 ∧ ∀ l i : Int, 1 ≤ l → (l < P ∨ l = P ∧ i < Q) → 0 ≤ i → i + l ≤ 12 → PTC c S1 l i
theorem PT_set {c : Int → Int} {S S1 : St} {P Q w : Int} (h : PT c S S1 P Q) (h0 : 1 ≤ P) (q0 : 0 ≤ Q) (q1 : Q + P ≤ 12) (w0 : 0 ≤ w) (w1 : w ≤ 100000000) (hw : ∀ V : Int, 0 ≤ V → V ≤ 100000000 → (w ≤ V ↔ OKP c V P.toNat Q)) : PT c S (sI S1 301 0 (P * 13 + Q).toNat (jj w)) P (Q + 1) := by
  refine ⟨FX_sI h.1 rfl, fun l i a b d e => ?_⟩
  unfold PTC
  rw [gI_sI]
  by_cases z : l = P ∧ i = Q
  · obtain ⟨z1, z2⟩ := z
    subst z1
    subst z2
    exact ⟨w, if_pos ⟨rfl, rfl, rfl⟩, w0, w1, hw⟩
  · rw [if_neg (fun x => z (by have := x.2.2; omega))]
    exact h.2 l i a (by omega) d e
theorem okp_all {c : Int → Int} {V : Int} (hB : CB c) (h : OKP c V 1 0) : ∀ (k : Nat) (i : Int), 0 ≤ i → i + ((k + 1 : Nat) : Int) ≤ 12 → OKP c V (k + 1) i := by
  intro k
  induction k with
  | zero =>
    intro i a b
    exact (okp_lep hB 1 i a).2 ⟨lep_later hB 1 0 i (by decide) a (by omega) ((okp_lep hB 1 0 (by decide)).1 h).1, by omega⟩
  | succ k ih =>
    intro i a b
    exact (okp_lep hB (k + 1 + 1) i a).2 ⟨lep_more (k + 1) i ((okp_lep hB (k + 1) i a).1 (ih i a (by omega))).1, b⟩
theorem x_part67 {S S1 : St} {N : Nat} {c : Int → Int} {rec32 : Int32 → Int32 → St → Option St} {rec40 : Int32 → Int32 → Int32 → St → Option St} {Q : St → Prop} {m p i : Int} (hC : CC S 0 c) (hB : CB c) (hP : PB c) (hN : 20 < N) (p0 : 2 ≤ p) (p1 : p ≤ 6) (i0 : 0 ≤ i) (i1 : i + p ≤ 12) (h : PT c S S1 p i) (hr : ∀ S2, PT c S S2 p (i + 1) → wp (rec40 (jj m) (jj p) (jj (i + 1)) S2) Q) : wp (f_X3_fillParts_b67 rec32 rec40 N 0 N (jj m) (jj p) (jj i) (gI S1 301 0 13) 0 (jj (i + 1)) S1) Q := by
  obtain ⟨T, eT, t0, t1, hT0⟩ := h.2 1 0 (by decide) (Or.inl (by omega)) (by decide) (by decide)
  have hT : ∀ V : Int, 0 ≤ V → V ≤ 100000000 → (T ≤ V ↔ OKP c V 1 0) := hT0
  have H := wp_up (F := fun n (b : Int) j => f_X3_fillParts_b67 rec32 rec40 N 0 n (jj m) (jj p) (jj i) (jj b) (jj (pre c (j - 1).toNat - pre c i.toNat)) (jj j) S1) (P := fun j b => i + 1 ≤ j ∧ 0 ≤ b ∧ b ≤ 100000000 ∧ ∀ V : Int, 0 ≤ V → V ≤ 100000000 → (b ≤ V ↔ OKP c V 1 0 ∨ ∃ j', i < j' ∧ j' < j ∧ pre c j'.toNat - pre c i.toNat ≤ V ∧ OKP c V (p - 1).toNat j')) (Q := Q) (E := 14 - p) (by
    intro n b ⟨j0, b0, b1, hb⟩
    simp only [f_X3_fillParts_b67, lt]
    have hw : ∀ V : Int, 0 ≤ V → V ≤ 100000000 → (b ≤ V ↔ OKP c V p.toNat i) := by
      intro V v0 v1
      rw [hb V v0 v1, show p.toNat = (p - 1).toNat + 1 by omega]
      constructor
      · rintro (q | ⟨j', x, y, z, t⟩)
        · exact okp_all hB q (p - 1).toNat i i0 (by omega)
        · exact ⟨j', x, by omega, z, t⟩
      · rintro ⟨j', x, y, z, t⟩
        have := ((okp_lep (V := V) hB (p - 1).toNat j' (by omega)).1 t).2
        exact Or.inr ⟨j', x, by omega, z, t⟩
    rw [jj_add, show jj (14 - p + p) - (1 : Int32) = jj 13 from by rw [show 14 - p + p = 14 by omega]; rfl, if_pos (show (12 : Int32) < jj 13 by decide), show jj p * (13 : Int32) = jj (p * 13) from jj_mul p 13, jj_add, chk_true (jj_inb (by omega) (by omega) (by omega)), jj_nat (a := p * 13 + i) (by omega) (by omega), show jj i + (1 : Int32) = jj (i + 1) from jj_add i 1]
    exact hr _ (PT_set h (by omega) i0 i1 b0 b1 hw)) (by
    intro n b j hj ⟨j0, b0, b1, hb⟩ ih
    have x1 := (h.1.1 400 0 (j - 1).toNat (by decide)).trans (hC (j - 1) (by omega) (by omega))
    obtain ⟨w, e, w0, w1, hv⟩ := h.2 (p - 1) j (by omega) (by omega) (by omega) (by omega)
    have h3 := pre_up (f := c) (k := j - 1) (by omega)
    rw [show j - 1 + 1 = j by omega] at h3
    have g1 := hP j (by omega) (by omega)
    have g2 := hP i (by omega) (by omega)
    have g3 := pre_mn hB i0 (show i ≤ j by omega) (by omega)
    simp only [f_X3_fillParts_b67, lt]
    rw [jj_add, show jj (j + p) - (1 : Int32) = jj (j + p - 1) from jj_sub _ 1, if_neg (show ¬ (12 : Int32) < jj (j + p - 1) by rw [show (12 : Int32) = jj 12 from rfl, jj_lt (by omega) (by omega) (by omega) (by omega)]; omega), show jj j - (1 : Int32) = jj (j - 1) from jj_sub j 1, show jj p - (1 : Int32) = jj (p - 1) from jj_sub p 1, show jj (p - 1) * (13 : Int32) = jj ((p - 1) * 13) from jj_mul (p - 1) 13, jj_add ((p - 1) * 13) j, chk_true (jj_inb (by omega) (by omega) (by omega)), chk_true (jj_inb (by omega) (by omega) (by omega)), jj_nat (a := j - 1) (by omega) (by omega), jj_nat (a := (p - 1) * 13 + j) (by omega) (by omega), x1, e, jj_add, show pre c (j - 1).toNat - pre c i.toNat + c (j - 1) = pre c (j + 1 - 1).toNat - pre c i.toNat from by rw [show j + 1 - 1 = j by omega]; omega, show jj j + (1 : Int32) = jj (j + 1) from jj_add j 1]
    have hj1 : j + 1 - 1 = j := by omega
    have lx : (jj (pre c (j + 1 - 1).toNat - pre c i.toNat) < jj w) = (pre c (j + 1 - 1).toNat - pre c i.toNat < w) := by
      rw [hj1, jj_lt (by omega) (by omega) (by omega) (by omega)]
    have step : ∀ u : Int, (∀ V : Int, u ≤ V ↔ pre c j.toNat - pre c i.toNat ≤ V ∧ w ≤ V) → 0 ≤ u → u ≤ 100000000 → wp (f_X3_fillParts_b67 rec32 rec40 N 0 n (jj m) (jj p) (jj i) (if jj u < jj b then jj u else jj b) (jj (pre c (j + 1 - 1).toNat - pre c i.toNat)) (jj (j + 1)) S1) Q := by
      intro u hu u0 u1
      have key : ∀ z : Int, (∀ V : Int, z ≤ V ↔ u ≤ V ∨ b ≤ V) → 0 ≤ z → z ≤ 100000000 → wp (f_X3_fillParts_b67 rec32 rec40 N 0 n (jj m) (jj p) (jj i) (jj z) (jj (pre c (j + 1 - 1).toNat - pre c i.toNat)) (jj (j + 1)) S1) Q := by
        intro z hz z0 z1
        refine ih z ⟨by omega, z0, z1, fun V v0 v1 => ?_⟩
        rw [hz V, hu V, hb V v0 v1, hv V v0 v1]
        constructor
        · rintro (⟨a, d⟩ | q | ⟨j', a, d, f, g⟩)
          · exact Or.inr ⟨j, by omega, by omega, a, d⟩
          · exact Or.inl q
          · exact Or.inr ⟨j', a, by omega, f, g⟩
        · rintro (q | ⟨j', a, d, f, g⟩)
          · exact Or.inr (Or.inl q)
          · by_cases y : j' = j
            · subst y
              exact Or.inl ⟨f, g⟩
            · exact Or.inr (Or.inr ⟨j', a, by omega, f, g⟩)
      by_cases y : u < b
      · rw [if_pos (show jj u < jj b by rw [jj_lt (by omega) (by omega) (by omega) (by omega)]; exact y)]
        exact key u (fun V => by omega) u0 u1
      · rw [if_neg (show ¬ jj u < jj b by rw [jj_lt (by omega) (by omega) (by omega) (by omega)]; exact y)]
        exact key b (fun V => by omega) b0 b1
    by_cases y : pre c (j + 1 - 1).toNat - pre c i.toNat < w
    · rw [if_pos (lx.mpr y)]
      rw [hj1] at y
      exact step w (fun V => by omega) w0 w1
    · rw [if_neg (fun t => y (lx.mp t))]
      rw [hj1] at y
      have := step (pre c j.toNat - pre c i.toNat) (fun V => by omega) (by omega) (by omega)
      rw [hj1] at this ⊢
      exact this) (14 - p - (i + 1)).toNat N (i + 1) T (by omega) (by omega) ⟨by omega, t0, t1, fun V v0 v1 => (hT V v0 v1).trans ⟨Or.inl, fun q => q.elim id (fun ⟨j', a, d, _⟩ => absurd d (by omega))⟩⟩
  have H : wp (f_X3_fillParts_b67 rec32 rec40 N 0 N (jj m) (jj p) (jj i) (jj T) (jj (pre c (i + 1 - 1).toNat - pre c i.toNat)) (jj (i + 1)) S1) Q := H
  rw [show i + 1 - 1 = i by omega, Int.sub_self] at H
  rw [show gI S1 301 0 13 = jj T from eT]
  exact H
theorem x_fillParts {S : St} {N : Nat} {c : Int → Int} {m : Int} (hC : CC S 0 c) (hB : CB c) (hP : PB c) (hN : 20 < N) (m0 : 1 ≤ m) (m1 : m ≤ 6) : ∃ S1, f_X3_fillParts N 0 S (jj m) = some S1 ∧ PT c S S1 (m + 1) 0 := by
  have H : wp (f_X3_fillParts N 0 S (jj m)) (fun S1 => PT c S S1 (m + 1) 0) := by
    refine wp_up (F := fun n (S1 : St) i => f_X3_fillParts_b2 N 0 n (jj m) (jj i) S1) (P := fun i S1 => 0 ≤ i ∧ PT c S S1 1 i) (E := 12) ?_ ?_ 12 N 0 S (by decide) (by omega) ⟨by decide, FX_refl _ _, fun l i a b d e => by omega⟩
    · intro n S1 ⟨i0, h⟩
      simp only [f_X3_fillParts_b2]
      rw [if_pos (show (12 : Int32) ≤ jj 12 by rw [jj_of]; exact Int32.le_refl _)]
      refine wp_up (F := fun n (S1 : St) p => f_X3_fillParts_b32 N 0 n (jj m) (jj p) S1) (P := fun p S1 => 2 ≤ p ∧ PT c S S1 p 0) (E := if m < 2 then 2 else m + 1) ?_ ?_ ((if m < 2 then 2 else m + 1) - 2).toNat N 2 S1 (by split <;> omega) (by split <;> omega) ⟨by decide, h.1, fun l i a b d e => h.2 l i a (by omega) d e⟩
      · intro n S1 ⟨p0, h⟩
        simp only [f_X3_fillParts_b32]
        by_cases w : m < 2
        · rw [if_pos w] at h ⊢
          rw [if_pos (show jj m < jj 2 by rw [jj_lt (by omega) (by omega) (by omega) (by omega)]; exact w)]
          have : m = 1 := by omega
          subst this
          exact wp_some h
        · rw [if_neg w] at h ⊢
          rw [if_pos (show jj m < jj (m + 1) by rw [jj_lt (by omega) (by omega) (by omega) (by omega)]; omega)]
          exact wp_some h
      · intro n S1 p hp ⟨p0, h⟩ ih
        have pm : p ≤ m := by
          by_cases w : m < 2
          · rw [if_pos w] at hp; omega
          · rw [if_neg w] at hp; omega
        simp only [f_X3_fillParts_b32]
        rw [if_neg (show ¬ jj m < jj p by rw [jj_lt (by omega) (by omega) (by omega) (by omega)]; omega)]
        refine wp_up (F := fun n' (S1 : St) i => f_X3_fillParts_b40 (f_X3_fillParts_b32 N 0 n) N 0 n' (jj m) (jj p) (jj i) S1) (P := fun i S1 => 0 ≤ i ∧ PT c S S1 p i) (E := 13 - p) ?_ ?_ (13 - p).toNat N 0 S1 (by omega) (by omega) ⟨by decide, h⟩
        · intro n' S2 ⟨i0, h2⟩
          simp only [f_X3_fillParts_b40, lt]
          rw [jj_add, show 13 - p + p = 13 by omega, if_pos (show (12 : Int32) < jj 13 by decide), show jj p + (1 : Int32) = jj (p + 1) from jj_add p 1]
          exact ih S2 ⟨by omega, h2.1, fun l i a b d e => h2.2 l i a (by omega) d e⟩
        · intro n' S2 i hi ⟨i0, h2⟩ ih2
          simp only [f_X3_fillParts_b40, lt]
          rw [jj_add, if_neg (show ¬ (12 : Int32) < jj (i + p) by rw [show (12 : Int32) = jj 12 from rfl, jj_lt (by omega) (by omega) (by omega) (by omega)]; omega), show jj i + (1 : Int32) = jj (i + 1) from jj_add i 1]
          exact x_part67 hC hB hP hN p0 (by omega) i0 (by omega) h2 (fun S3 h3 => ih2 S3 ⟨by omega, h3⟩)
    · intro n S1 i hi ⟨i0, h⟩ ih
      have c1 : CC S1 0 c := fun i a b => (h.1.1 400 0 _ (by decide)).trans (hC i a b)
      have e1 := q_sum c1 hN (a := i) (b := 12) i0 (by omega) (by decide)
      have g1 := hP i i0 (by omega)
      have g2 := hP 12 (by decide) (by decide)
      have g3 := pre_mn hB i0 (show i ≤ 12 by omega) (by decide)
      simp only [f_X3_fillParts_b2]
      rw [if_neg (show ¬ (12 : Int32) ≤ jj i by rw [show (12 : Int32) = jj 12 from rfl, jj_le (by omega) (by omega) (by omega) (by omega)]; omega), show (12 : Int32) = jj 12 from rfl, bnd_of e1, show (13 : Int32) + jj i = jj (1 * 13 + i) from jj_add 13 i, chk_true (jj_inb (by omega) (by omega) (by omega)), jj_nat (a := 1 * 13 + i) (by omega) (by omega)]
      simp only [lt]
      rw [show jj i + (1 : Int32) = jj (i + 1) from jj_add i 1]
      refine ih _ ⟨by omega, PT_set h (by decide) i0 (by omega) (by omega) (by omega) (fun V v0 v1 => ⟨fun t => ⟨12, by omega, by omega, t, rfl⟩, fun ⟨j, a, b, d, e⟩ => ?_⟩)⟩
      have e : j = 12 := e
      rw [e] at d
      exact d
  obtain ⟨S1, e, h⟩ := H
  exact ⟨S1, e, h⟩
