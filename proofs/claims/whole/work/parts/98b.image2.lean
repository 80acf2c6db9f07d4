/-! CALLS: image, back: the whole. -/
theorem WRT_becomes {S S' : St} {w u : Nat} {W : Int} (hw : w < 2) (hu : u < 2) (c0 : CPY S S' (31 * w) (31 * u)) (c1 : ∀ i : Nat, i < 30 → CPY S S' (31 * w + 1 + i) (31 * u + 1 + i)) (F : FX (WDP w) S S') (h : WRT S W) : WRT S' W := by
  intro j hj
  by_cases q : 31 * w ≤ j ∧ j ≤ 31 * w + 30
  · by_cases q0 : j = 31 * w
    · obtain ⟨wr, a, b, c⟩ := h (31 * u) (by omega)
      exact ⟨wr, by rw [q0, c0.2]; exact a, b, c⟩
    · obtain ⟨wr, a, b, c⟩ := h (31 * u + 1 + (j - 31 * w - 1)) (by omega)
      have := (c1 (j - 31 * w - 1) (by omega)).2
      rw [show 31 * w + 1 + (j - 31 * w - 1) = j by omega] at this
      exact ⟨wr, this.trans a, b, c⟩
  · obtain ⟨wr, a, b, c⟩ := h j hj
    exact ⟨wr, (F.1 403 j 0 (by unfold WDP; omega)).trans a, b, c⟩
theorem k_image {S : St} {N : Nat} {T : Int} (hN : 4000 < N) (t0 : 0 ≤ T) (t1 : T < 512) (hI : INV T S) : TWO (fun S => f_X9_image N S) (fun S => f_X10_image N S) T S := by
  obtain ⟨A, B, hI⟩ := hI
  obtain ⟨i1, i2, i3, i4, i5, i6, i7, i8, i9, i10, i11⟩ := id hI
  obtain ⟨⟨EM, ET, hE⟩, x2, x3, x4, x5, x6⟩ := id i11
  have a2 := i5.2.1
  have a2' := i5.2.2.1
  obtain ⟨S1, e1, c0, c1, g2, g3, g4, g5, g6, g7, g8, g9, g10, g11, F1⟩ := x_becomes (S := S) (w := 1) (u := 0) hN (by decide) (by decide) (by decide) (fun t ht => by
    rcases x5 0 t (by decide) ht with z | ⟨z, -⟩
    · exact Or.inl z
    · exact Or.inr z)
  have W1 := becomes_WLD i3 c0 c1 g2 g3 g4 g5 g6 g8 g9 g10 g11
  have A1 : AR 1000 S1 A := FX_AR F1 (by unfold WDP; omega) i1
  obtain ⟨S2, e2, B2, F2⟩ := r_copy_ai hN A1
  have W0 : WLD S1 0 A := WLD_step i5 i3 F1 (fun f a b => by unfold WDP; omega) (fun f j a b c d => by unfold WDP; omega) (SHX_FX F1 (fun f a b => by unfold WDP; omega) i3.2.1) (fun _ _ _ _ => rfl)
  have FF : FX (fun f j => WDP 1 f j ∨ f = 1001) S S2 := FX_trans (FX_sub F1 (fun f j q => Or.inl q)) (FX_sub F2 (fun f j q => Or.inr q))
  have A2 : AR 1000 S2 A := FX_AR F2 (by omega) A1
  have W02 : WLD S2 0 A := WLD_FXR F2 (fun f j a => by omega) W0
  refine ⟨jj (A 6), S1, S2, ?_, ?_, A, A, A2, B2, W02, WLD_FX1 F2 (fun f a b => by omega) (fun f j a b c d => by omega) W1, NUM_mono i5 (by unfold MT; omega) (by unfold MT; omega), NUM_mono i5 (by unfold MT; omega) (by unfold MT; omega), WRT_mono (WRT_FX F2 (fun j => by omega) (WRT_becomes (by decide) (by decide) c0 c1 F1 i7)) (by unfold WT; omega), (FF.1 1023 0 0 (by unfold WDP; omega)).trans i8, TPE_FX FF (by unfold WDP; omega) (by unfold WDP; omega) (by unfold WDP; omega) (by unfold WDP; omega) i9, FLT_FX FF (by unfold WDP; omega) (by unfold WDP; omega) (by unfold WDP; omega) (by unfold WDP; omega) (by unfold WDP; omega) i10, ?_⟩
  · show f_X9_image N S = _
    unfold f_X9_image
    rw [bnd_of e1, W0.2.1.1.2.2.2]
  · show f_X10_image N S1 = _
    unfold f_X10_image
    rw [bnd_of e2, show gI S2 1000 0 6 = jj (A 6) from A2 6 (by decide) (by decide)]
  · have r0 : ∀ t, gR S2 807 0 t = gR S 807 0 t := fun t => FF.2.2.1 807 0 t (by unfold WDP; omega)
    have r1 : ∀ t, t < 4 → gR S2 807 1 t = gR S 807 0 t := fun t ht => (F2.2.2.1 807 1 t (by omega)).trans (g7 t ht)
    have zD : ∀ n, gD S2 n = gD S n := fun n => by unfold gD; rw [FF.2.2.2]
    have zZ : gZ S2 = gZ S := by unfold gZ; rw [FF.2.2.2]
    refine ⟨⟨EM, ET, fun L a b => ⟨CLWL_FX FF (by unfold WDP; omega) (by unfold WDP; omega) (hE L a b).1, RLW_of (hE L a b).2 (fun k => FF.1 1002 0 k (by unfold WDP; omega))⟩⟩, fun L a b => ⟨CLS_FX FF (by unfold WDP; omega) (by unfold WDP; omega) (x2 L a b).1, by rw [r0]; exact (x2 L a b).2⟩, Int.le_refl _, fun L a b => by rw [r1 _ (by omega), r0], fun w t hw ht => ?_, fun n hn => by rw [zD]; rw [zZ] at hn; exact x6 n hn⟩
    have : gR S2 807 w t = gR S 807 0 t := by
      have : w = 0 ∨ w = 1 := by omega
      rcases this with rfl | rfl
      · exact r0 t
      · exact r1 t ht
    rw [this, zZ]
    rcases x5 0 t (by decide) ht with z | ⟨⟨q, z⟩, z2⟩
    · exact Or.inl z
    · exact Or.inr ⟨⟨q, by rw [FX_gT FF]; exact z⟩, z2⟩
theorem k_back {S : St} {N : Nat} {T : Int} (hN : 4000 < N) (t0 : 0 ≤ T) (t1 : T < 512) (hI : INV T S) : TWO (fun S => f_X9_back N S) (fun S => f_X10_back N S) T S := by
  obtain ⟨A, B, hI⟩ := hI
  obtain ⟨i1, i2, i3, i4, i5, i6, i7, i8, i9, i10, i11⟩ := id hI
  obtain ⟨⟨EM, ET, hE⟩, x2, x3, x4, x5, x6⟩ := id i11
  have a2 := i6.2.1
  have a2' := i6.2.2.1
  obtain ⟨S1, e1, c0, c1, g2, g3, g4, g5, g6, g7, g8, g9, g10, g11, F1⟩ := x_becomes (S := S) (w := 0) (u := 1) hN (by decide) (by decide) (by decide) (fun t ht => by
    rcases x5 1 t (by decide) ht with z | ⟨z, -⟩
    · exact Or.inl z
    · exact Or.inr z)
  have W0 := becomes_WLD i4 c0 c1 g2 g3 g4 g5 g6 g8 g9 g10 g11
  have B1 : AR 1001 S1 B := FX_AR F1 (by unfold WDP; omega) i2
  obtain ⟨S2, e2, A2, F2⟩ := r_copy_ia hN B1
  have W1 : WLD S1 1 B := WLD_FX1 F1 (fun f a b => by unfold WDP; omega) (fun f j a b c d => by unfold WDP; omega) i4
  have FF : FX (fun f j => WDP 0 f j ∨ f = 1000) S S2 := FX_trans (FX_sub F1 (fun f j q => Or.inl q)) (FX_sub F2 (fun f j q => Or.inr q))
  have W02 : WLD S2 0 B := WLD_FXR F2 (fun f j a => by omega) W0
  refine ⟨jj (B 6), S1, S2, ?_, ?_, B, B, A2, FX_AR F2 (by omega) B1, W02, WLD_FX1 F2 (fun f a b => by omega) (fun f j a b c d => by omega) W1, NUM_mono i6 (by unfold MT; omega) (by unfold MT; omega), NUM_mono i6 (by unfold MT; omega) (by unfold MT; omega), WRT_mono (WRT_FX F2 (fun j => by omega) (WRT_becomes (by decide) (by decide) c0 c1 F1 i7)) (by unfold WT; omega), (FF.1 1023 0 0 (by unfold WDP; omega)).trans i8, TPE_FX FF (by unfold WDP; omega) (by unfold WDP; omega) (by unfold WDP; omega) (by unfold WDP; omega) i9, FLT_FX FF (by unfold WDP; omega) (by unfold WDP; omega) (by unfold WDP; omega) (by unfold WDP; omega) (by unfold WDP; omega) i10, ?_⟩
  · show f_X9_back N S = _
    unfold f_X9_back
    rw [bnd_of e1, W0.2.1.1.2.2.2]
  · show f_X10_back N S1 = _
    unfold f_X10_back
    rw [bnd_of e2, show gI S2 1000 0 6 = jj (B 6) from A2 6 (by decide) (by decide)]
  · have r1 : ∀ t, gR S2 807 1 t = gR S 807 1 t := fun t => FF.2.2.1 807 1 t (by unfold WDP; omega)
    have r0 : ∀ t, t < 4 → gR S2 807 0 t = gR S 807 1 t := fun t ht => (F2.2.2.1 807 0 t (by omega)).trans (g7 t ht)
    have r00 : ∀ L : Int, 0 ≤ L → L < B 2 → gR S2 807 0 L.toNat = gR S 807 0 L.toNat := fun L a b => (r0 _ (by omega)).trans (x4 L a b)
    have zD : ∀ n, gD S2 n = gD S n := fun n => by unfold gD; rw [FF.2.2.2]
    have zZ : gZ S2 = gZ S := by unfold gZ; rw [FF.2.2.2]
    have q8 : gI S2 808 0 0 = jj (B 2) := W02.1.2.2.1
    have q8' : gI S 808 0 0 = jj (A 2) := i3.1.2.2.1
    have a2'' := i5.2.2.1
    refine ⟨⟨EM, ET, fun L a b => ?_⟩, fun L a b => ?_, Int.le_refl _, fun L a b => by rw [r1, r0 _ (by omega)], fun w t hw ht => ?_, fun n hn => by rw [zD]; rw [zZ] at hn; exact x6 n hn⟩
    · obtain ⟨⟨⟨lw, h1, h2⟩, lwt, h3, h4⟩, h5⟩ := hE L a (by omega)
      refine ⟨⟨⟨lw, ?_, FX_EVX FF h2⟩, lwt, ?_, FX_EVX FF h4⟩, RLW_of h5 (fun k => FF.1 1002 0 k (by unfold WDP; omega))⟩
      · rw [← h1]
        unfold f_X8_movesOf
        rw [q8, q8']
        simp (disch := omega) only [jj_of, jj_add, jj_sub, jj_mul, jj_neg, jj_le, jj_lt, jj_eq, jj_nat, chk_true (jj_inb _ _ _), chk_true (jj_nz _ _ _), lt]
        by_cases z : L < 0
        · rw [if_pos z, if_pos z]
        · rw [if_neg z, if_neg z, if_pos b, if_pos (show L < A 2 by omega), r00 L (by omega) b, FX_gT FF]
      · rw [← h3]
        unfold f_X8_tearsOf
        rw [q8, q8']
        simp (disch := omega) only [jj_of, jj_add, jj_sub, jj_mul, jj_neg, jj_le, jj_lt, jj_eq, jj_nat, chk_true (jj_inb _ _ _), chk_true (jj_nz _ _ _), lt]
        by_cases z : L < 0
        · rw [if_pos z, if_pos z]
        · rw [if_neg z, if_neg z, if_pos b, if_pos (show L < A 2 by omega), r00 L (by omega) b, FX_gT FF]
    · obtain ⟨⟨q, n, fc, h1, h2, h3, h4, h5⟩, h6⟩ := x2 L a (by omega)
      have p2 : ∀ i, gI S2 1002 0 i = gI S 1002 0 i := fun i => FF.1 1002 0 i (by unfold WDP; omega)
      refine ⟨⟨q, n, fc, by rw [r00 L a b, FX_gT FF]; exact h1, (FX_gA FF _).trans h2, h3, (p2 _).trans h4, fun k c d => ?_⟩, by rw [r00 L a b]; exact h6⟩
      obtain ⟨kd, x, y, y1, y2, y3, y4, y5, y6, y7, y8, y9, y10⟩ := h5 k c d
      exact ⟨kd, x, y, y1, y2, y3, y4, y5, y6, y7, (p2 _).trans y8, ⟨fun z w => ⟨(y9.1 z w).1, (p2 _).trans (y9.1 z w).2⟩, fun z => ⟨(y9.2 z).1, (p2 _).trans (y9.2 z).2⟩⟩, y10⟩
    · have : gR S2 807 w t = gR S 807 1 t := by
        have : w = 0 ∨ w = 1 := by omega
        rcases this with rfl | rfl
        · exact r0 t ht
        · exact r1 t
      rw [this, zZ]
      rcases x5 1 t (by decide) ht with z | ⟨⟨q, z⟩, z2⟩
      · exact Or.inl z
      · exact Or.inr ⟨⟨q, by rw [FX_gT FF]; exact z⟩, z2⟩
