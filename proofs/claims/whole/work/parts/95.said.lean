/-! CALLS: said, apart, whose. -/
def AGH (A B : Int → Int) : Prop := ∀ i : Int, i ≠ 5 → i < 51 ∨ 75 ≤ i → B i = A i
theorem NUM_AGH {A B : Int → Int} {M : Int} (hM : NUM A M) (h : AGH A B) (b5 : 0 ≤ B 5) (b5' : B 5 ≤ 8) (hs : ∀ k : Int, 0 ≤ k → k < B 5 → 0 ≤ B (51 + 3 * k) ∧ B (51 + 3 * k) < A 0 ∧ 0 ≤ B (52 + 3 * k) ∧ B (52 + 3 * k) < 12 ∧ 0 ≤ B (53 + 3 * k) ∧ B (53 + 3 * k) ≤ 9999) : NUM B M := by
  obtain ⟨o, c2, c2', c3, c3', c4, c4', c5, c5', hT, hS, hRk⟩ := id hM
  have t6 := o.2.1.2.1
  have x0 := h 0 (by decide) (by decide)
  have x1 := h 1 (by decide) (by decide)
  have x2 := h 2 (by decide) (by decide)
  have x3 := h 3 (by decide) (by decide)
  have x4 := h 4 (by decide) (by decide)
  refine ⟨OKS_ext o (fun i a b c => (h i (by omega) (by omega)).symm) (fun i a b => (h i (by omega) (by omega)).symm), by rw [x2]; exact c2, by rw [x2]; exact c2', by rw [x3]; exact c3, by rw [x2, x3]; exact c3', by rw [x4]; exact c4, by rw [x4]; exact c4', b5, b5', fun t a b => ?_, fun k a b => ?_, fun k a b => ?_⟩
  · rw [x1] at b
    rw [h _ (by omega) (by omega)]; exact hT t a b
  · rw [x0]; exact hs k a b
  · rw [x4] at b
    obtain ⟨s1, s2, s3, s4⟩ := hRk k a b
    rw [x1, h (75 + 96 * k) (by omega) (by omega)]
    refine ⟨OKR_ext s1 (fun i c d => (h _ (by omega) (by omega)).symm) (fun i c d => (h _ (by omega) (by omega)).symm), s2, s3, fun t c d => ?_⟩
    rw [h _ (by omega) (by omega)]; exact s4 t c d
theorem WLD_AGH {P : Nat → Nat → Prop} {S S1 : St} {A B : Int → Int} {M : Int} (hM : NUM A M) (hW : WLD S 0 A) (h : AGH A B) (hF : FX P S S1) (p : ∀ f, 802 ≤ f → f ≤ 809 → ¬ P f 0) (p2 : ∀ f j, 400 ≤ f → f ≤ 408 → j ≤ 30 → ¬ P f j) (h5 : gI S1 811 0 0 = jj (B 5)) (h7 : ∀ k : Int, 0 ≤ k → k < 3 * B 5 → gI S1 810 0 k.toNat = jj (B (51 + k))) : WLD S1 0 B := by
  obtain ⟨⟨p1, p2', p3, p4, p5, p6, p7⟩, hX, hP⟩ := hW
  have a0 := hM.1.2.2.1.2.1
  have a4 := hM.2.2.2.2.2.2.1
  have x0 := h 0 (by decide) (by decide)
  refine ⟨⟨by rw [x0]; exact (hF.1 805 0 0 (p _ (by omega) (by omega))).trans p1, by rw [h 1 (by decide) (by decide)]; exact (hF.1 806 0 0 (p _ (by omega) (by omega))).trans p2', by rw [h 2 (by decide) (by decide)]; exact (hF.1 808 0 0 (p _ (by omega) (by omega))).trans p3, by rw [h 3 (by decide) (by decide)]; exact (hF.1 809 0 0 (p _ (by omega) (by omega))).trans p4, h5, fun k a b => ?_, h7⟩, SHX_ext (SHX_FX hF (fun f a b => p2 f _ a b (by omega)) hX) (h 1 (by decide) (by decide)).symm (fun i a b => (h i (by omega) (by omega)).symm) (fun i a b => (h i (by omega) (by omega)).symm), ?_⟩
  · rw [x0] at b
    rw [h _ (by omega) (by omega)]
    exact (hF.1 804 0 _ (p _ (by omega) (by omega))).trans (p6 k a b)
  · obtain ⟨h4, ns, n0, n1, h2, h3⟩ := STPS_FX hF (fun f a b => p f a (by omega)) (fun f j a b c d => p2 f j a b (by omega)) hP
    have x4 := h 4 (by decide) (by decide)
    refine ⟨by rw [x4]; exact h4, ns, n0, n1, h2, fun k a b => ?_⟩
    rw [x4] at b ⊢
    refine SHT_ext (h3 k a b) (fun i c d => (h _ (by omega) (by omega)).symm) (fun t c d => ?_) (fun i c d => (h _ (by omega) (by omega)).symm)
    unfold rhm
    rw [h 1 (by decide) (by decide), h (75 + 96 * k) (by omega) (by omega), h (105 + 96 * k + t) (by omega) (by omega), h (41 + t) (by omega) (by omega)]
def SDF (A : Int → Int) (h c m : Int) : Int → Int := UP (UP (UP (UP A (51 + 3 * A 5) h) (51 + 3 * A 5 + 1) c) (51 + 3 * A 5 + 2) m) 5 (A 5 + 1)
theorem k_said {S : St} {T : Int} (t0 : 0 ≤ T) (t1 : T < 512) (hI : INV T S) (x y w : Int32) : TWO (fun S => f_X9_said S x y w) (fun S => f_X10_said S x y w) T S := by
  obtain ⟨A, B, hI⟩ := hI
  obtain ⟨em, et, hX, hR⟩ := INVA_get hI
  obtain ⟨h, rfl, b1, b2⟩ := jj_ex x
  obtain ⟨c, rfl, b3, b4⟩ := jj_ex y
  obtain ⟨m, rfl, b5, b6⟩ := jj_ex w
  have hM := hX.2.1
  have a0 := hM.1.2.2.1.1
  have a4 := hM.1.2.2.1.2.1
  have a5 := hM.2.2.2.2.2.2.2.1
  have a5' := hM.2.2.2.2.2.2.2.2.1
  have hS := hM.2.2.2.2.2.2.2.2.2.2.1
  have g5 := hX.1.1.2.2.2.2.1
  have e5 : gI S 1000 0 5 = jj (A 5) := hR.1 5 (by decide) (by decide)
  show ∃ v S1 S2, f_X9_said S (jj h) (jj c) (jj m) = some (v, S1) ∧ f_X10_said S1 (jj h) (jj c) (jj m) = some (v, S2) ∧ INV (T + 1) S2
  by_cases q : h = -1
  · have F1 : FX (fun f j => f = 811 ∧ j = 0) S (sI S 811 0 0 (jj 0)) := FX_sI (FX_refl _ _) ⟨rfl, rfl⟩
    have A1 : AR 1000 (sI S 811 0 0 (jj 0)) A := FX_AR F1 (by omega) hR.1
    have F2 : FX (fun f _ => f = 1000) (sI S 811 0 0 (jj 0)) (sI (sI S 811 0 0 (jj 0)) 1000 0 5 (jj 0)) := FX_sI (FX_refl _ _) rfl
    have ag : AGH A (UP A 5 0) := fun i p _ => UP_ne p
    refine ⟨jj 0, sI S 811 0 0 (jj 0), sI (sI S 811 0 0 (jj 0)) 1000 0 5 (jj 0), ?_, ?_, ?_⟩
    · unfold f_X9_said
      rw [q, show (-1 : Int32) = jj (-1) from rfl, if_pos rfl]
      rfl
    · unfold f_X10_said
      rw [q, show (-1 : Int32) = jj (-1) from rfl, if_pos rfl]
      rfl
    · exact INVA_next hI t0 t1 (FX_trans (FX_sub F1 (fun f j q => by unfold NPR PRT; omega)) (FX_sub F2 (fun f j q => by unfold NPR PRT; omega))) (AR_set A1 (k := 5) (by decide)) (WLD_FXR F2 (fun f j a => by omega) (WLD_AGH hM hX.1 ag F1 (fun f a b => by omega) (fun f j a b c => by omega) (by rw [gI_sI, if_pos ⟨rfl, rfl, rfl⟩, UP_hit]) (fun k a b => by rw [UP_hit] at b; omega))) (NUM_mono (NUM_AGH hM ag (by rw [UP_hit]; decide) (by rw [UP_hit]; decide) (fun k a b => by rw [UP_hit] at b; omega)) (by unfold MT; omega) (by unfold MT; omega)) (WRT_mono (WRT_FX F2 (fun j => by omega) (WRT_FX F1 (fun j => by omega) hX.2.2.1)) (by unfold WT; omega)) (by rw [F2.1 1023 0 0 (by omega), F1.1 1023 0 0 (by omega)]; exact hR.2.2) (UP_ne (by decide))
  · by_cases ok : ((0 ≤ h ∧ h < A 0) ∧ (0 ≤ c ∧ c ≤ 11) ∧ (0 ≤ m ∧ m ≤ 9999)) ∧ A 5 < 8
    · obtain ⟨⟨q1, q2, q3⟩, q4⟩ := ok
      have ag : AGH A (SDF A h c m) := fun i p r => by unfold SDF; rw [UP_ne p, UP_ne (by omega), UP_ne (by omega), UP_ne (by omega)]
      have s5 : SDF A h c m 5 = A 5 + 1 := UP_hit
      have s1 : SDF A h c m (51 + 3 * A 5) = h := by unfold SDF; rw [UP_ne (by omega), UP_ne (by omega), UP_ne (by omega), UP_hit]
      have s2 : SDF A h c m (51 + 3 * A 5 + 1) = c := by unfold SDF; rw [UP_ne (by omega), UP_ne (by omega), UP_hit]
      have s3 : SDF A h c m (51 + 3 * A 5 + 2) = m := by unfold SDF; rw [UP_ne (by omega), UP_hit]
      have so : ∀ k, 0 ≤ k → k < 3 * A 5 → SDF A h c m (51 + k) = A (51 + k) := fun k p r => by unfold SDF; rw [UP_ne (by omega), UP_ne (by omega), UP_ne (by omega), UP_ne (by omega)]
      have F1 : FX (fun f j => (f = 810 ∨ f = 811) ∧ j = 0) S (sI (sI (sI (sI S 810 0 (3 * A 5).toNat (jj h)) 810 0 (3 * A 5 + 1).toNat (jj c)) 810 0 (3 * A 5 + 2).toNat (jj m)) 811 0 0 (jj (A 5 + 1))) := FX_sI (FX_sI (FX_sI (FX_sI (FX_refl _ _) (by omega)) (by omega)) (by omega)) (by omega)
      have r811 : gI (sI (sI (sI (sI S 810 0 (3 * A 5).toNat (jj h)) 810 0 (3 * A 5 + 1).toNat (jj c)) 810 0 (3 * A 5 + 2).toNat (jj m)) 811 0 0 (jj (A 5 + 1))) 811 0 0 = jj (A 5 + 1) := by rw [gI_sI, if_pos ⟨rfl, rfl, rfl⟩]
      have r810 : ∀ k : Int, 0 ≤ k → k < 3 * (A 5 + 1) → gI (sI (sI (sI (sI S 810 0 (3 * A 5).toNat (jj h)) 810 0 (3 * A 5 + 1).toNat (jj c)) 810 0 (3 * A 5 + 2).toNat (jj m)) 811 0 0 (jj (A 5 + 1))) 810 0 k.toNat = jj (SDF A h c m (51 + k)) := by
        intro k k0 k1
        rw [gI_sI, if_neg (by omega), gI_sI]
        by_cases w2 : k = 3 * A 5 + 2
        · rw [if_pos ⟨rfl, rfl, by rw [w2]⟩, w2, show 51 + (3 * A 5 + 2) = 51 + 3 * A 5 + 2 by omega, s3]
        · rw [if_neg (by omega), gI_sI]
          by_cases w1 : k = 3 * A 5 + 1
          · rw [if_pos ⟨rfl, rfl, by rw [w1]⟩, w1, show 51 + (3 * A 5 + 1) = 51 + 3 * A 5 + 1 by omega, s2]
          · rw [if_neg (by omega), gI_sI]
            by_cases w0 : k = 3 * A 5
            · rw [if_pos ⟨rfl, rfl, by rw [w0]⟩, w0, s1]
            · rw [if_neg (by omega), so k k0 (by omega)]
              exact hX.1.1.2.2.2.2.2.2 k k0 (by omega)
      have ex : f_X9_said S (jj h) (jj c) (jj m) = some (jj (A 5 + 1), sI (sI (sI (sI S 810 0 (3 * A 5).toNat (jj h)) 810 0 (3 * A 5 + 1).toNat (jj c)) 810 0 (3 * A 5 + 2).toNat (jj m)) 811 0 0 (jj (A 5 + 1))) := by
        unfold f_X9_said f_X9_said_b46 f_X8_tellSaid
        rw [show (-1 : Int32) = jj (-1) from rfl, if_neg (show ¬ jj h = jj (-1) by rw [jj_eq b1 b2 (by decide) (by decide)]; exact q), bnd_of (x_isHand hX.1.1.1 a0 a4 b1 b2), if_pos q1, if_neg (by decide), bnd_of (q_isCell b3 b4), if_pos q2, if_neg (by decide), g5]
        simp (disch := omega) only [jj_of, jj_add, jj_sub, jj_mul, jj_neg, jj_le, jj_lt, jj_eq, jj_nat, chk_true (jj_inb _ _ _), chk_true (jj_nz _ _ _), lt]
        rw [if_neg (show ¬ m < 0 by omega), if_neg (show ¬ 9999 < m by omega), if_neg (show ¬ (1 : Int) = 0 by decide), if_pos q4]
        rw [if_pos (show 3 * A 5 + 2 < 24 by omega)]
        have r5 : gI (sI (sI (sI S 810 0 (3 * A 5).toNat (jj h)) 810 0 (3 * A 5 + 1).toNat (jj c)) 810 0 (3 * A 5 + 2).toNat (jj m)) 811 0 0 = jj (A 5) := by rw [gI_sI, if_neg (by omega), gI_sI, if_neg (by omega), gI_sI, if_neg (by omega)]; exact g5
        rw [r5, jj_add, bnd_of rfl, r811]
      generalize sI (sI (sI (sI S 810 0 (3 * A 5).toNat (jj h)) 810 0 (3 * A 5 + 1).toNat (jj c)) 810 0 (3 * A 5 + 2).toNat (jj m)) 811 0 0 (jj (A 5 + 1)) = S1 at F1 r811 r810 ex
      refine ⟨jj (A 5 + 1), S1, ?_⟩
      have A1 : AR 1000 S1 A := FX_AR F1 (by omega) hR.1
      have e5 : gI S1 1000 0 5 = jj (A 5) := A1 5 (by decide) (by decide)
      have B1 := AR_set A1 (k := 51 + 3 * A 5) (v := h) (by omega)
      have B2 := AR_set B1 (k := 51 + 3 * A 5 + 1) (v := c) (by omega)
      have B3 := AR_set B2 (k := 51 + 3 * A 5 + 2) (v := m) (by omega)
      have B4 : AR 1000 (sI (sI (sI (sI S1 1000 0 (51 + 3 * A 5).toNat (jj h)) 1000 0 (51 + 3 * A 5 + 1).toNat (jj c)) 1000 0 (51 + 3 * A 5 + 2).toNat (jj m)) 1000 0 5 (jj (A 5 + 1))) (SDF A h c m) := AR_set B3 (k := 5) (v := A 5 + 1) (by decide)
      have F2 : FX (fun f _ => f = 1000) S1 (sI (sI (sI (sI S1 1000 0 (51 + 3 * A 5).toNat (jj h)) 1000 0 (51 + 3 * A 5 + 1).toNat (jj c)) 1000 0 (51 + 3 * A 5 + 2).toNat (jj m)) 1000 0 5 (jj (A 5 + 1))) := FX_sI (FX_sI (FX_sI (FX_sI (FX_refl _ _) rfl) rfl) rfl) rfl
      have er : f_X10_said S1 (jj h) (jj c) (jj m) = some (jj (A 5 + 1), sI (sI (sI (sI S1 1000 0 (51 + 3 * A 5).toNat (jj h)) 1000 0 (51 + 3 * A 5 + 1).toNat (jj c)) 1000 0 (51 + 3 * A 5 + 2).toNat (jj m)) 1000 0 5 (jj (A 5 + 1))) := by
        unfold f_X10_said
        rw [show (-1 : Int32) = jj (-1) from rfl, if_neg (show ¬ jj h = jj (-1) by rw [jj_eq b1 b2 (by decide) (by decide)]; exact q), bnd_of (r_isHand A1 a0 a4 b1 b2), if_pos q1, if_neg (by decide), bnd_of (q_isCellM b3 b4), if_pos q2, if_neg (by decide), e5]
        simp only [jj_of]
        rw [bnd_of (q_isIn2 b5 b6 (by decide) (by decide) (by decide) (by decide)), if_pos q3, if_neg (by decide)]
        simp (disch := omega) only [jj_of, jj_add, jj_sub, jj_mul, jj_neg, jj_le, jj_lt, jj_eq, jj_nat, chk_true (jj_inb _ _ _), chk_true (jj_nz _ _ _), lt]
        rw [if_neg (show ¬ A 5 = 8 by omega)]
        have r5 : gI (sI (sI (sI S1 1000 0 (51 + 3 * A 5).toNat (jj h)) 1000 0 (51 + 3 * A 5 + 1).toNat (jj c)) 1000 0 (51 + 3 * A 5 + 2).toNat (jj m)) 1000 0 5 = jj (A 5) := (B3 5 (by decide) (by decide)).trans (by rw [UP_ne (by omega), UP_ne (by omega), UP_ne (by omega)])
        rw [r5, jj_add, gI_sI, if_pos ⟨rfl, rfl, rfl⟩]
      refine ⟨_, ex, er, INVA_next hI t0 t1 (FX_trans (FX_sub F1 (fun f j q => by unfold NPR PRT; omega)) (FX_sub F2 (fun f j q => by unfold NPR PRT; omega))) B4 (WLD_FXR F2 (fun f j a => by omega) (WLD_AGH hM hX.1 ag F1 (fun f a b => by omega) (fun f j a b c => by omega) (by rw [s5]; exact r811) (fun k a b => by rw [s5] at b; exact r810 k a b))) (NUM_mono (NUM_AGH hM ag (by rw [s5]; omega) (by rw [s5]; omega) (fun k a b => ?_)) (by unfold MT; omega) (by unfold MT; omega)) (WRT_mono (WRT_FX F2 (fun j => by omega) (WRT_FX F1 (fun j => by omega) hX.2.2.1)) (by unfold WT; omega)) (by rw [F2.1 1023 0 0 (by omega), F1.1 1023 0 0 (by omega)]; exact hR.2.2) (ag 2 (by decide) (by decide))⟩
      rw [s5] at b
      rw [show 52 + 3 * k = 51 + 3 * k + 1 by omega, show 53 + 3 * k = 51 + 3 * k + 2 by omega]
      by_cases w0 : k = A 5
      · rw [w0, s1, s2, s3]; omega
      · have u1 := so (3 * k) (by omega) (by omega)
        have u2 := so (3 * k + 1) (by omega) (by omega)
        have u3 := so (3 * k + 2) (by omega) (by omega)
        rw [show 51 + 3 * k + 1 = 51 + (3 * k + 1) by omega, show 51 + 3 * k + 2 = 51 + (3 * k + 2) by omega, u1, u2, u3]
        have := hS k a (by omega)
        rw [show 51 + (3 * k + 1) = 52 + 3 * k by omega, show 51 + (3 * k + 2) = 53 + 3 * k by omega]
        exact this
    · refine ⟨jj (-2), S, S, ?_, ?_, INV_same hI t0 t1⟩
      · unfold f_X9_said f_X9_said_b45 f_X9_said_b46
        rw [show (-1 : Int32) = jj (-1) from rfl, if_neg (show ¬ jj h = jj (-1) by rw [jj_eq b1 b2 (by decide) (by decide)]; exact q), bnd_of (x_isHand hX.1.1.1 a0 a4 b1 b2), bnd_of (q_isCell b3 b4), g5]
        simp (disch := omega) only [jj_of, jj_add, jj_sub, jj_mul, jj_neg, jj_le, jj_lt, jj_eq, jj_nat, chk_true (jj_inb _ _ _), chk_true (jj_nz _ _ _), lt]
        simp only [if_true]
        by_cases q1 : 0 ≤ h ∧ h < A 0
        · rw [if_pos q1, if_neg (show ¬ jj 1 = jj 0 by decide)]
          by_cases q2 : 0 ≤ c ∧ c ≤ 11
          · rw [if_pos q2, if_neg (show ¬ jj 1 = jj 0 by decide)]
            by_cases q3 : m < 0
            · rw [if_pos q3]
            · rw [if_neg q3]
              by_cases q4 : 9999 < m
              · rw [if_pos q4]
              · rw [if_neg q4, if_neg (show ¬ (1 : Int) = 0 by decide), if_neg (show ¬ A 5 < 8 from fun z => ok ⟨⟨q1, q2, by omega⟩, z⟩)]
          · rw [if_neg q2, if_pos rfl]
        · rw [if_neg q1, if_pos rfl]
      · unfold f_X10_said
        rw [show (-1 : Int32) = jj (-1) from rfl, if_neg (show ¬ jj h = jj (-1) by rw [jj_eq b1 b2 (by decide) (by decide)]; exact q), bnd_of (r_isHand hR.1 a0 a4 b1 b2), bnd_of (q_isCellM b3 b4), e5]
        simp only [jj_of]
        rw [bnd_of (q_isIn2 b5 b6 (by decide) (by decide) (by decide) (by decide))]
        by_cases q1 : 0 ≤ h ∧ h < A 0
        · rw [if_pos q1, if_neg (by decide)]
          by_cases q2 : 0 ≤ c ∧ c ≤ 11
          · rw [if_pos q2, if_neg (by decide)]
            by_cases q3 : 0 ≤ m ∧ m ≤ 9999
            · rw [if_pos q3, if_neg (by decide)]
              simp (disch := omega) only [jj_of, jj_add, jj_sub, jj_mul, jj_neg, jj_le, jj_lt, jj_eq, jj_nat, chk_true (jj_inb _ _ _), chk_true (jj_nz _ _ _), lt]
              rw [if_pos (show A 5 = 8 by have : ¬ A 5 < 8 := fun z => ok ⟨⟨q1, q2, q3⟩, z⟩; omega)]
            · rw [if_neg q3, if_pos rfl]
              rfl
          · rw [if_neg q2, if_pos rfl]
            rfl
        · rw [if_neg q1, if_pos rfl]
          rfl
