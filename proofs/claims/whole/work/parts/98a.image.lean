/-! CALLS: image, back. -/
def WDP (w : Nat) (f j : Nat) : Prop := (400 ≤ f ∧ f ≤ 408 ∧ 31 * w ≤ j ∧ j ≤ 31 * w + 30) ∨ (802 ≤ f ∧ f ≤ 811 ∧ j = w)
/-- sheet j of S' is as sheet k of S -/
def CPY (S S' : St) (j k : Nat) : Prop := (∀ r hm b, SHT S k r hm b → SHT S' j r hm b) ∧ gI S' 403 j 0 = gI S 403 k 0
theorem x_b88 {S : St} {N w u : Nat} (hN : 4000 < N) (hwu : w ≠ u) (hR : ∀ t, t < 4 → gR S 807 u t = 0 ∨ ∃ q, gT S (gR S 807 u t) = some q) : ∃ S', f_X8_becomes_b88 N w u N (jj 0) S = some S' ∧ (∀ t, t < 4 → gR S' 807 w t = gR S 807 u t) ∧ gI S' 808 w 0 = gI S 808 u 0 ∧ gI S' 809 w 0 = gI S 809 u 0 ∧ (∀ i, gI S' 810 w i = gI S 810 u i) ∧ gI S' 811 w 0 = gI S 811 u 0 ∧ FX (fun f j => 807 ≤ f ∧ f ≤ 811 ∧ j = w) S S' := by
  have huw : u ≠ w := fun e => hwu e.symm
  refine wp_up (F := fun n S1 k => f_X8_becomes_b88 N w u n (jj k) S1) (P := fun k S1 => 0 ≤ k ∧ FX (fun f j => f = 807 ∧ j = w) S S1 ∧ ∀ t : Nat, (t : Int) < k → gR S1 807 w t = gR S 807 u t) (E := 4) ?_ ?_ 4 N 0 S (by decide) (by omega) ⟨by decide, FX_refl _ _, fun t h => by omega⟩
  · intro n S1 ⟨k0, F1, h⟩
    have r : ∀ f i, gI S1 f u i = gI S f u i := fun f i => F1.1 f u i (by omega)
    simp only [f_X8_becomes_b88]
    simp (disch := omega) only [jj_of, jj_add, jj_sub, jj_mul, jj_neg, jj_le, jj_lt, jj_eq, jj_nat, chk_true (jj_inb _ _ _), chk_true (jj_nz _ _ _), lt, if_true, if_false, reduceIte, Int.le_refl]
    refine wp_some ⟨fun t ht => ?_, ?_, ?_, fun i => ?_, ?_, FX_sI (FX_sIA (FX_sI (FX_sI (FX_sub F1 (fun f j q => by omega)) (by omega)) (by omega)) (by omega)) (by omega)⟩
    · rw [gR_sI, gR_sIA, gR_sI, gR_sI]; exact h t (by omega)
    · simp [gI_sI, gI_sIA, r]
    · simp [gI_sI, gI_sIA, r, huw]
    · simp [gI_sI, gI_sIA, r, huw]
    · simp [gI_sI, gI_sIA, r, huw]
  · intro n S1 k hk ⟨k0, F1, h⟩ ih
    have hk2 : ¬ 4 ≤ k := by omega
    have ru : ∀ t, gR S1 807 u t = gR S 807 u t := fun t => F1.2.2.1 807 u t (by omega)
    simp only [f_X8_becomes_b88]
    simp (disch := omega) only [jj_of, jj_add, jj_sub, jj_mul, jj_neg, jj_le, jj_lt, jj_eq, jj_nat, chk_true (jj_inb _ _ _), chk_true (jj_nz _ _ _), lt, if_true, if_false, reduceIte, hk2, ru]
    rcases hR k.toNat (by omega) with w0 | ⟨q, w0⟩
    · rw [if_pos w0]
      refine ih _ ⟨by omega, FX_sR F1 (by omega), fun t ht => ?_⟩
      rw [gR_sR]
      by_cases z : t = k.toNat
      · rw [if_pos ⟨rfl, rfl, z⟩, z, w0]
      · rw [if_neg (fun y => z y.2.2)]; exact h t (by omega)
    · have nz : ¬ gR S 807 u k.toNat = 0 := fun e => by rw [e] at w0; simp [gT] at w0
      rw [if_neg nz, FX_gT F1, bnd_of w0]
      refine ih _ ⟨by omega, FX_sR F1 (by omega), fun t ht => ?_⟩
      rw [gR_sR]
      by_cases z : t = k.toNat
      · rw [if_pos ⟨rfl, rfl, z⟩, z]
      · rw [if_neg (fun y => z y.2.2)]; exact h t (by omega)
theorem becomes_CPY {S : St} {j k : Nat} (hjk : j ≠ k) : ∃ S', f_X4_becomes j k S = some S' ∧ CPY S S' j k ∧ FX (SHP j) S S' := by
  obtain ⟨S1, e1, a0, a1, a2, a3, a4, a5, a6, a7, a8, a9⟩ := q_becomes S hjk
  refine ⟨S1, e1, ⟨fun r hm b h => ?_, a3⟩, a9⟩
  obtain ⟨⟨h1, h2, h3, h4⟩, h5, h6, h7, wr, h8, h9, h10, h11, h12⟩ := h
  exact ⟨⟨fun c q q2 => (a0 _).trans (h1 c q q2), by rw [a4]; exact h2, a5.trans h3, a7.trans h4⟩, a6.trans h5, a8.trans h6, fun t q q2 => (a1 _).trans (h7 t q q2), wr, a3.trans h8, h9, h10, h11, fun i q q2 => (a2 _).trans (h12 i q q2)⟩
theorem CPY_FX {P : Nat → Nat → Prop} {S S1 S2 : St} {j k : Nat} (h : CPY S S1 j k) (hF : FX P S1 S2) (p : ∀ f, 400 ≤ f → f ≤ 408 → ¬ P f j) : CPY S S2 j k := ⟨fun r hm b q => FX_SHT hF p (h.1 r hm b q), (hF.1 403 j 0 (p _ (by omega) (by omega))).trans h.2⟩
theorem CPY_FXl {P : Nat → Nat → Prop} {S0 S S1 : St} {j k : Nat} (h : CPY S S1 j k) (hF : FX P S0 S) (p : ∀ f, 400 ≤ f → f ≤ 408 → ¬ P f k) : CPY S0 S1 j k := ⟨fun r hm b q => h.1 r hm b (FX_SHT hF p q), h.2.trans (hF.1 403 k 0 (p _ (by omega) (by omega)))⟩
theorem x_becomes {S : St} {N w u : Nat} (hN : 4000 < N) (hwu : w ≠ u) (hw : w < 2) (hu : u < 2) (hR : ∀ t, t < 4 → gR S 807 u t = 0 ∨ ∃ q, gT S (gR S 807 u t) = some q) : ∃ S', f_X8_becomes N w u S = some S' ∧ CPY S S' (31 * w) (31 * u) ∧ (∀ i : Nat, i < 30 → CPY S S' (31 * w + 1 + i) (31 * u + 1 + i)) ∧ gI S' 802 w 0 = gI S 802 u 0 ∧ gI S' 803 w 0 = gI S 803 u 0 ∧ (∀ i, gI S' 804 w i = gI S 804 u i) ∧ gI S' 805 w 0 = gI S 805 u 0 ∧ gI S' 806 w 0 = gI S 806 u 0 ∧ (∀ t, t < 4 → gR S' 807 w t = gR S 807 u t) ∧ gI S' 808 w 0 = gI S 808 u 0 ∧ gI S' 809 w 0 = gI S 809 u 0 ∧ (∀ i, gI S' 810 w i = gI S 810 u i) ∧ gI S' 811 w 0 = gI S 811 u 0 ∧ FX (WDP w) S S' := by
  have huw : u ≠ w := fun e => hwu e.symm
  obtain ⟨S0, e0, C0, F0⟩ := becomes_CPY (S := S) (j := 31 * w) (k := 31 * u) (by omega)
  unfold f_X8_becomes
  rw [bnd_of e0]
  refine wp_up (F := fun n S1 k => f_X8_becomes_b13 N w u n (jj k) S1) (P := fun k S1 => 0 ≤ k ∧ FX (fun f j => 400 ≤ f ∧ f ≤ 408 ∧ 31 * w ≤ j ∧ j ≤ 31 * w + 30) S S1 ∧ CPY S S1 (31 * w) (31 * u) ∧ ∀ i : Nat, (i : Int) < k → CPY S S1 (31 * w + 1 + i) (31 * u + 1 + i)) (E := 30) ?_ ?_ 30 N 0 S0 (by decide) (by omega) ⟨by decide, FX_sub F0 (fun f j q => by unfold SHP at q; omega), C0, fun i h => by omega⟩
  · intro n S1 ⟨k0, F1, c0, h⟩
    have r : ∀ f i, 802 ≤ f → gI S1 f u i = gI S f u i := fun f i q => F1.1 f u i (by omega)
    have rR : ∀ t, gR S1 807 u t = gR S 807 u t := fun t => F1.2.2.1 807 u t (by omega)
    simp only [f_X8_becomes_b13]
    simp (disch := omega) only [jj_of, jj_add, jj_sub, jj_mul, jj_neg, jj_le, jj_lt, jj_eq, jj_nat, chk_true (jj_inb _ _ _), chk_true (jj_nz _ _ _), lt, if_true, if_false, reduceIte, Int.le_refl]
    have F2 : FX (fun f j => 802 ≤ f ∧ f ≤ 806 ∧ j = w) S1 (sI (sI (sIA (sI (sI S1 802 w 0 (gI S1 802 u 0)) 803 w 0 (gI (sI S1 802 w 0 (gI S1 802 u 0)) 803 u 0)) 804 w (fun i => gI (sI (sI S1 802 w 0 (gI S1 802 u 0)) 803 w 0 (gI (sI S1 802 w 0 (gI S1 802 u 0)) 803 u 0)) 804 u i)) 805 w 0 (gI (sIA (sI (sI S1 802 w 0 (gI S1 802 u 0)) 803 w 0 (gI (sI S1 802 w 0 (gI S1 802 u 0)) 803 u 0)) 804 w (fun i => gI (sI (sI S1 802 w 0 (gI S1 802 u 0)) 803 w 0 (gI (sI S1 802 w 0 (gI S1 802 u 0)) 803 u 0)) 804 u i)) 805 u 0)) 806 w 0 (gI (sI (sIA (sI (sI S1 802 w 0 (gI S1 802 u 0)) 803 w 0 (gI (sI S1 802 w 0 (gI S1 802 u 0)) 803 u 0)) 804 w (fun i => gI (sI (sI S1 802 w 0 (gI S1 802 u 0)) 803 w 0 (gI (sI S1 802 w 0 (gI S1 802 u 0)) 803 u 0)) 804 u i)) 805 w 0 (gI (sIA (sI (sI S1 802 w 0 (gI S1 802 u 0)) 803 w 0 (gI (sI S1 802 w 0 (gI S1 802 u 0)) 803 u 0)) 804 w (fun i => gI (sI (sI S1 802 w 0 (gI S1 802 u 0)) 803 w 0 (gI (sI S1 802 w 0 (gI S1 802 u 0)) 803 u 0)) 804 u i)) 805 u 0)) 806 u 0)) := FX_sI (FX_sI (FX_sIA (FX_sI (FX_sI (FX_refl _ _) (by omega)) (by omega)) (by omega)) (by omega)) (by omega)
    have d2 : ∀ X : St, X = (sI (sI (sIA (sI (sI S1 802 w 0 (gI S1 802 u 0)) 803 w 0 (gI (sI S1 802 w 0 (gI S1 802 u 0)) 803 u 0)) 804 w (fun i => gI (sI (sI S1 802 w 0 (gI S1 802 u 0)) 803 w 0 (gI (sI S1 802 w 0 (gI S1 802 u 0)) 803 u 0)) 804 u i)) 805 w 0 (gI (sIA (sI (sI S1 802 w 0 (gI S1 802 u 0)) 803 w 0 (gI (sI S1 802 w 0 (gI S1 802 u 0)) 803 u 0)) 804 w (fun i => gI (sI (sI S1 802 w 0 (gI S1 802 u 0)) 803 w 0 (gI (sI S1 802 w 0 (gI S1 802 u 0)) 803 u 0)) 804 u i)) 805 u 0)) 806 w 0 (gI (sI (sIA (sI (sI S1 802 w 0 (gI S1 802 u 0)) 803 w 0 (gI (sI S1 802 w 0 (gI S1 802 u 0)) 803 u 0)) 804 w (fun i => gI (sI (sI S1 802 w 0 (gI S1 802 u 0)) 803 w 0 (gI (sI S1 802 w 0 (gI S1 802 u 0)) 803 u 0)) 804 u i)) 805 w 0 (gI (sIA (sI (sI S1 802 w 0 (gI S1 802 u 0)) 803 w 0 (gI (sI S1 802 w 0 (gI S1 802 u 0)) 803 u 0)) 804 w (fun i => gI (sI (sI S1 802 w 0 (gI S1 802 u 0)) 803 w 0 (gI (sI S1 802 w 0 (gI S1 802 u 0)) 803 u 0)) 804 u i)) 805 u 0)) 806 u 0)) → gI X 802 w 0 = gI S 802 u 0 ∧ gI X 803 w 0 = gI S 803 u 0 ∧ (∀ i, gI X 804 w i = gI S 804 u i) ∧ gI X 805 w 0 = gI S 805 u 0 ∧ gI X 806 w 0 = gI S 806 u 0 := by
      intro X hX
      rw [hX]
      refine ⟨?_, ?_, fun i => ?_, ?_, ?_⟩
      all_goals simp [gI_sI, gI_sIA, huw, r]
    have d3 := d2 _ rfl
    clear d2
    generalize (sI (sI (sIA (sI (sI S1 802 w 0 (gI S1 802 u 0)) 803 w 0 (gI (sI S1 802 w 0 (gI S1 802 u 0)) 803 u 0)) 804 w (fun i => gI (sI (sI S1 802 w 0 (gI S1 802 u 0)) 803 w 0 (gI (sI S1 802 w 0 (gI S1 802 u 0)) 803 u 0)) 804 u i)) 805 w 0 (gI (sIA (sI (sI S1 802 w 0 (gI S1 802 u 0)) 803 w 0 (gI (sI S1 802 w 0 (gI S1 802 u 0)) 803 u 0)) 804 w (fun i => gI (sI (sI S1 802 w 0 (gI S1 802 u 0)) 803 w 0 (gI (sI S1 802 w 0 (gI S1 802 u 0)) 803 u 0)) 804 u i)) 805 u 0)) 806 w 0 (gI (sI (sIA (sI (sI S1 802 w 0 (gI S1 802 u 0)) 803 w 0 (gI (sI S1 802 w 0 (gI S1 802 u 0)) 803 u 0)) 804 w (fun i => gI (sI (sI S1 802 w 0 (gI S1 802 u 0)) 803 w 0 (gI (sI S1 802 w 0 (gI S1 802 u 0)) 803 u 0)) 804 u i)) 805 w 0 (gI (sIA (sI (sI S1 802 w 0 (gI S1 802 u 0)) 803 w 0 (gI (sI S1 802 w 0 (gI S1 802 u 0)) 803 u 0)) 804 w (fun i => gI (sI (sI S1 802 w 0 (gI S1 802 u 0)) 803 w 0 (gI (sI S1 802 w 0 (gI S1 802 u 0)) 803 u 0)) 804 u i)) 805 u 0)) 806 u 0)) = S2 at F2 d3 ⊢
    obtain ⟨d4, d5, d6, d7, d8⟩ := d3
    obtain ⟨S3, e3, g7, g8, g9, g10, g11, F3⟩ := x_b88 (S := S2) hN hwu (fun t ht => by
      rw [F2.2.2.1 807 u t (by omega), rR t]
      rcases hR t ht with z | ⟨q, z⟩
      · exact Or.inl z
      · exact Or.inr ⟨q, by rw [FX_gT F2, FX_gT F1]; exact z⟩)
    refine ⟨S3, e3, CPY_FX (CPY_FX c0 F2 (fun f a b => by omega)) F3 (fun f a b => by omega), fun i hi => CPY_FX (CPY_FX (h i (by omega)) F2 (fun f a b => by omega)) F3 (fun f a b => by omega), (F3.1 802 w 0 (by omega)).trans d4, (F3.1 803 w 0 (by omega)).trans d5, fun i => (F3.1 804 w i (by omega)).trans (d6 i), (F3.1 805 w 0 (by omega)).trans d7, (F3.1 806 w 0 (by omega)).trans d8, fun t ht => ?_, ?_, ?_, fun i => ?_, ?_, FX_trans (FX_sub F1 (fun f j q => by unfold WDP; omega)) (FX_trans (FX_sub F2 (fun f j q => by unfold WDP; omega)) (FX_sub F3 (fun f j q => by unfold WDP; omega)))⟩
    · rw [g7 t ht, F2.2.2.1 807 u t (by omega), rR t]
    · rw [g8, F2.1 808 u 0 (by omega), r 808 0 (by omega)]
    · rw [g9, F2.1 809 u 0 (by omega), r 809 0 (by omega)]
    · rw [g10, F2.1 810 u i (by omega), r 810 i (by omega)]
    · rw [g11, F2.1 811 u 0 (by omega), r 811 0 (by omega)]
  · intro n S1 k hk ⟨k0, F1, c0, h⟩ ih
    have hk2 : ¬ 30 ≤ k := by omega
    obtain ⟨S2, e2, C2, F2⟩ := becomes_CPY (S := S1) (j := 31 * w + 1 + k.toNat) (k := 31 * u + 1 + k.toNat) (by omega)
    simp only [f_X8_becomes_b13]
    simp (disch := omega) only [jj_of, jj_add, jj_sub, jj_mul, jj_neg, jj_le, jj_lt, jj_eq, jj_nat, chk_true (jj_inb _ _ _), chk_true (jj_nz _ _ _), lt, if_true, if_false, reduceIte, hk2]
    rw [bnd_of e2]
    refine ih S2 ⟨by omega, FX_trans F1 (FX_sub F2 (fun f j q => by unfold SHP at q; omega)), CPY_FX c0 F2 (fun f a b => by unfold SHP; omega), fun i hi => ?_⟩
    by_cases z : i = k.toNat
    · rw [z]
      exact CPY_FXl C2 F1 (fun f a b => by omega)
    · exact CPY_FX (h i (by omega)) F2 (fun f a b => by unfold SHP; omega)
theorem becomes_WLD {S S' : St} {w u : Nat} {A : Int → Int} (hW : WLD S u A) (c0 : CPY S S' (31 * w) (31 * u)) (c1 : ∀ i : Nat, i < 30 → CPY S S' (31 * w + 1 + i) (31 * u + 1 + i)) (g2 : gI S' 802 w 0 = gI S 802 u 0) (g3 : gI S' 803 w 0 = gI S 803 u 0) (g4 : ∀ i, gI S' 804 w i = gI S 804 u i) (g5 : gI S' 805 w 0 = gI S 805 u 0) (g6 : gI S' 806 w 0 = gI S 806 u 0) (g8 : gI S' 808 w 0 = gI S 808 u 0) (g9 : gI S' 809 w 0 = gI S 809 u 0) (g10 : ∀ i, gI S' 810 w i = gI S 810 u i) (g11 : gI S' 811 w 0 = gI S 811 u 0) : WLD S' w A := by
  obtain ⟨⟨p1, p2, p3, p4, p5, p6, p7⟩, hX, h4, ns, n0, n1, hns, hst⟩ := hW
  refine ⟨⟨g5.trans p1, g6.trans p2, g8.trans p3, g9.trans p4, g11.trans p5, fun k a b => (g4 _).trans (p6 k a b), fun k a b => (g10 _).trans (p7 k a b)⟩, SHT_SHX (c0.1 _ _ _ (SHX_SHT hX)), g3.trans h4, ns, n0, n1, g2.trans hns, fun k a b => (c1 _ (by omega)).1 _ _ _ (hst k a b)⟩
theorem r_copy_ai {S : St} {N : Nat} {A : Int → Int} (hN : 4000 < N) (hA : AR 1000 S A) : ∃ S', f_X10_copy_ai N S = some S' ∧ AR 1001 S' A ∧ FX (fun f _ => f = 1001) S S' := by
  refine wp_up (F := fun n S1 k => f_X10_copy_ai_b2 N n (jj k) S1) (P := fun k S1 => 0 ≤ k ∧ FX (fun f _ => f = 1001) S S1 ∧ ∀ i : Int, 0 ≤ i → i < k → gI S1 1001 0 i.toNat = jj (A i)) (E := 3015) ?_ ?_ 3015 N 0 S (by omega) (by omega) ⟨by omega, FX_refl _ _, fun i a b => by omega⟩
  · intro n S1 ⟨k0, F1, h⟩
    rw [f_X10_copy_ai_b2]
    rw [if_pos (show (3015 : Int32) ≤ jj 3015 by rw [jj_of]; exact Int32.le_refl _)]
    exact wp_some ⟨h, F1⟩
  · intro n S1 k hk ⟨k0, F1, h⟩ ih
    have hk2 : ¬ 3015 ≤ k := by omega
    have e := (F1.1 1000 0 _ (by omega)).trans (hA k k0 hk)
    simp only [f_X10_copy_ai_b2]
    simp (disch := omega) only [jj_of, jj_add, jj_sub, jj_mul, jj_neg, jj_le, jj_lt, jj_eq, jj_nat, chk_true (jj_inb _ _ _), chk_true (jj_nz _ _ _), lt, if_true, if_false, reduceIte, hk2, e]
    refine ih _ ⟨by omega, FX_sI F1 rfl, fun i a b => ?_⟩
    rw [gI_sI]
    by_cases w : i = k
    · rw [if_pos ⟨rfl, rfl, by rw [w]⟩, w]
    · rw [if_neg (fun z => w (by have := z.2.2; omega))]; exact h i a (by omega)
theorem r_copy_ia {S : St} {N : Nat} {B : Int → Int} (hN : 4000 < N) (hB : AR 1001 S B) : ∃ S', f_X10_copy_ia N S = some S' ∧ AR 1000 S' B ∧ FX (fun f _ => f = 1000) S S' := by
  refine wp_up (F := fun n S1 k => f_X10_copy_ia_b2 N n (jj k) S1) (P := fun k S1 => 0 ≤ k ∧ FX (fun f _ => f = 1000) S S1 ∧ ∀ i : Int, 0 ≤ i → i < k → gI S1 1000 0 i.toNat = jj (B i)) (E := 3015) ?_ ?_ 3015 N 0 S (by omega) (by omega) ⟨by omega, FX_refl _ _, fun i a b => by omega⟩
  · intro n S1 ⟨k0, F1, h⟩
    rw [f_X10_copy_ia_b2]
    rw [if_pos (show (3015 : Int32) ≤ jj 3015 by rw [jj_of]; exact Int32.le_refl _)]
    exact wp_some ⟨h, F1⟩
  · intro n S1 k hk ⟨k0, F1, h⟩ ih
    have hk2 : ¬ 3015 ≤ k := by omega
    have e := (F1.1 1001 0 _ (by omega)).trans (hB k k0 hk)
    simp only [f_X10_copy_ia_b2]
    simp (disch := omega) only [jj_of, jj_add, jj_sub, jj_mul, jj_neg, jj_le, jj_lt, jj_eq, jj_nat, chk_true (jj_inb _ _ _), chk_true (jj_nz _ _ _), lt, if_true, if_false, reduceIte, hk2, e]
    refine ih _ ⟨by omega, FX_sI F1 rfl, fun i a b => ?_⟩
    rw [gI_sI]
    by_cases w : i = k
    · rw [if_pos ⟨rfl, rfl, by rw [w]⟩, w]
    · rw [if_neg (fun z => w (by have := z.2.2; omega))]; exact h i a (by omega)
