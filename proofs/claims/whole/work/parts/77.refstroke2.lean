/-! A STROKE of the reference: the whole. -/
theorem TWN_lo {A : Int → Int} {c to i : Int} (h : i < 35) : TWN A c to i = A i := if_neg (fun w => by omega)
def STF (f : Nat) (_ : Nat) : Prop := f = 1000 ∨ (1020 ≤ f ∧ f ≤ 1022) ∨ f = 1024
/-- a stroke with the book, if it is written -/
def STW (wf : Int) (em et : Sem) (A : Int → Int) (h c rt : Int) : Int → Int := if wf = 0 then STR em et (sgA A) A h c rt else WRB (STR em et (sgA A) A h c rt) ((A 6 * 4 + h) * 24 + (2 * c + rt)) (mvv em A (sgA A) h c rt)
def tsum (A : Int → Int) : Int := pre (fun i => A (23 + i)) 12
theorem r_stroke185 {S : St} {N : Nat} (hN : 4000 < N) {A : Int → Int} (hA : AR 1000 S A) {h c rt m wf : Int} (hr : rt = 0 ∨ rt = 1) (hf : wf = 0 ∨ wf = 1) (n0 : 0 ≤ A 10) (n1 : A 10 ≤ 30) (hw : gI S 1023 0 0 = jj wf) : ∃ S', f_X10_strokeNow_b185 N (jj h) (jj c) (jj rt) (jj m) S = some (jj m, S') ∧ AR 1000 S' (if wf = 0 then A else WRB A ((A 6 * 4 + h) * 24 + (2 * c + rt)) m) ∧ FX (fun f _ => f = 1000) S S' := by
  have key : ∃ S', f_X10_write N S (jj h) (jj (2 * c + rt)) (jj m) = some S' ∧ AR 1000 S' (if wf = 0 then A else WRB A ((A 6 * 4 + h) * 24 + (2 * c + rt)) m) ∧ FX (fun f _ => f = 1000) S S' := by
    rcases hf with rfl | rfl
    · refine ⟨S, ?_, by rw [if_pos rfl]; exact hA, FX_refl _ _⟩
      unfold f_X10_write
      rw [hw]
      exact if_pos rfl
    · rw [if_neg (by decide)]
      exact r_write hN hA n0 n1 hw
  obtain ⟨S', e, h1, h2⟩ := key
  refine ⟨S', ?_, h1, h2⟩
  unfold f_X10_strokeNow_b185 f_X10_strokeNow_b199
  rcases hr with rfl | rfl
  · simp (disch := omega) only [jj_of, jj_add, jj_sub, jj_mul, jj_neg, jj_le, jj_lt, jj_eq, jj_nat, chk_true (jj_inb _ _ _), chk_true (jj_nz _ _ _), lt, if_true, if_false, reduceIte]
    rw [bnd_of e]
  · have q0 : ¬ (1 : Int) = 0 := by decide
    simp (disch := omega) only [jj_of, jj_add, jj_sub, jj_mul, jj_neg, jj_le, jj_lt, jj_eq, jj_nat, chk_true (jj_inb _ _ _), chk_true (jj_nz _ _ _), lt, if_true, if_false, reduceIte, q0]
    rw [bnd_of e]
theorem r_towns {S : St} {N : Nat} (hN : 4000 < N) {A : Int → Int} (hA : AR 1000 S A) {h c rt m to al : Int} (t0 : 0 ≤ A 1) (t1 : A 1 ≤ 6) (b1 : -2147483648 ≤ to) (b2 : to ≤ 2147483647) (c0 : 0 ≤ c) (c1 : c < 12) (hal : al = 0 ∨ al = 1) (hB : ∀ i : Int, 35 ≤ i → i < 35 + A 1 → -2147483648 ≤ A i ∧ A i ≤ 2147483647) : ∃ S', f_X10_strokeNow_b48 N N (jj h) (jj c) (jj rt) (jj m) (jj to) (jj al) (jj 0) S = f_X10_strokeNow_b96 N (jj h) (jj c) (jj rt) (jj m) (jj to) S' ∧ AR 1000 S' (if al = 1 then TWN A c to else A) ∧ FX (fun f _ => f = 1000) S S' := by
  have e1 : gI S 1000 0 1 = jj (A 1) := hA 1 (by decide) (by decide)
  by_cases q0 : 0 < A 1 ∧ al = 1
  · obtain ⟨q0, rfl⟩ := q0
    rw [if_pos rfl]
    have := ex_loop (F := fun n S1 k => f_X10_strokeNow_b48 N n (jj h) (jj c) (jj rt) (jj m) (jj to) (jj 1) (jj k) S1) (out := fun S' => f_X10_strokeNow_b96 N (jj h) (jj c) (jj rt) (jj m) (jj to) S') (P := fun k S1 => 0 ≤ k ∧ FX (fun f _ => f = 1000) S S1 ∧ AR 1000 S1 (fun i => if 35 ≤ i ∧ i < 35 + k ∧ i < 41 ∧ A i = c then to else A i)) (E := A 1) ?_ ?_ (A 1).toNat N 0 S (by omega) (by omega) ⟨Int.le_refl _, FX_refl _ _, AR_ext hA (fun k a b => by rw [if_neg (by omega)])⟩
    · obtain ⟨S', ⟨-, h2, h3⟩, e⟩ := this
      exact ⟨S', e, h3, h2⟩
    · intro n S1 ⟨k0, F1, A1⟩
      have e1 : gI S1 1000 0 1 = jj (A 1) := (A1 1 (by decide) (by decide)).trans (by dsimp only; rw [if_neg (by omega)])
      simp only [f_X10_strokeNow_b48]
      rw [e1]
      simp (disch := omega) only [jj_of, jj_add, jj_sub, jj_mul, jj_neg, jj_le, jj_lt, jj_eq, jj_nat, chk_true (jj_inb _ _ _), chk_true (jj_nz _ _ _), lt, if_true, if_false, reduceIte, Int.le_refl]
    · intro n S1 k hk ⟨k0, F1, A1⟩
      have hk2 : ¬ A 1 ≤ k := by omega
      have q1 : ¬ (1 : Int) = 0 := by decide
      have hb := hB (35 + k) (by omega) (by omega)
      have e1 : gI S1 1000 0 1 = jj (A 1) := (A1 1 (by decide) (by decide)).trans (by dsimp only; rw [if_neg (by omega)])
      have e35 : gI S1 1000 0 (35 + k).toNat = jj (A (35 + k)) := (A1 (35 + k) (by omega) (by omega)).trans (by dsimp only; rw [if_neg (by omega)])
      simp only [f_X10_strokeNow_b48]
      rw [e1]
      simp (disch := omega) only [jj_of, jj_add, jj_sub, jj_mul, jj_neg, jj_le, jj_lt, jj_eq, jj_nat, chk_true (jj_inb _ _ _), chk_true (jj_nz _ _ _), lt, if_true, if_false, reduceIte, hk2, q1, e35]
      by_cases w : A (35 + k) = c
      · rw [if_pos w]
        refine ⟨_, ⟨by omega, FX_sI F1 rfl, AR_ext (AR_set A1 (by omega)) (fun i a b => ?_)⟩, rfl⟩
        rw [UP_at]
        by_cases w2 : i = 35 + k
        · rw [if_pos w2, if_pos ⟨by omega, by omega, by omega, by rw [w2]; exact w⟩]
        · rw [if_neg w2]
          by_cases w3 : 35 ≤ i ∧ i < 35 + k ∧ i < 41 ∧ A i = c
          · rw [if_pos w3, if_pos ⟨by omega, by omega, by omega, w3.2.2.2⟩]
          · rw [if_neg w3, if_neg (fun w4 => w3 ⟨w4.1, by omega, w4.2.2⟩)]
      · rw [if_neg w]
        refine ⟨_, ⟨by omega, F1, AR_ext A1 (fun i a b => ?_)⟩, rfl⟩
        by_cases w3 : 35 ≤ i ∧ i < 35 + k ∧ i < 41 ∧ A i = c
        · rw [if_pos w3, if_pos ⟨by omega, by omega, by omega, w3.2.2.2⟩]
        · rw [if_neg w3, if_neg (fun w4 => by
            by_cases w5 : i = 35 + k
            · rw [w5] at w4; exact w w4.2.2.2
            · exact w3 ⟨w4.1, by omega, w4.2.2⟩)]
  · refine ⟨S, ?_, ?_, FX_refl _ _⟩
    · obtain ⟨n, rfl⟩ : ∃ n', N = n' + 1 := ⟨N - 1, by omega⟩
      simp only [f_X10_strokeNow_b48]
      rw [e1]
      simp (disch := omega) only [jj_of, jj_add, jj_sub, jj_mul, jj_neg, jj_le, jj_lt, jj_eq, jj_nat, chk_true (jj_inb _ _ _), chk_true (jj_nz _ _ _), lt]
      by_cases w : A 1 ≤ 0
      · rw [if_pos w]
      · have : al = 0 := by omega
        rw [if_neg w, if_pos this]
    · by_cases w : al = 1
      · rw [if_pos w]
        exact AR_ext hA (fun i a b => by unfold TWN; rw [if_neg (by omega)])
      · rw [if_neg w]
        exact hA
theorem r_stroke {S : St} {N : Nat} {A : Int → Int} {em et : Sem} {h c rt wf tc : Int} (hN : 4000 < N) (hA : AR 1000 S A) (hE : RLW S (A 3) em et) (hs : 0 ≤ A (47 + h) ∧ A (47 + h) ≤ 9) (h0 : 0 ≤ h ∧ h < 4) (h1 : 0 ≤ c) (h2 : c < 12) (hr : rt = 0 ∨ rt = 1) (hR : RB A) (hM : pre (fun i => A (11 + i)) 12 + A 9 ≤ 100000000) (t0 : 0 ≤ A 1) (t1 : A 1 ≤ 6) (hB : ∀ i : Int, 35 ≤ i → i < 35 + A 1 → -2147483648 ≤ A i ∧ A i ≤ 2147483647) (n0 : 0 ≤ A 10) (n1 : A 10 ≤ 30) (hf : wf = 0 ∨ wf = 1) (hw : gI S 1023 0 0 = jj wf) (ht : gI S 1024 0 0 = jj tc) : ∃ S', f_X10_strokeNow N S (jj h) (jj c) (jj rt) = some (jj (mvv em A (sgA A) h c rt), S') ∧ AR 1000 S' (STW wf em et A h c rt) ∧ FX STF S S' ∧ gI S' 1024 0 0 = jj (tc + (tsum (STR em et (sgA A) A h c rt) - tsum A)) := by
  obtain ⟨S1, e1, F1⟩ := r_moves hN hA hE.1 hs h0 h1 h2 hr hR
  have hm := mvv_b (em := em) (sg := sgA A) (h := h) (rt := rt) hR h1 h2
  have hb := bsd_b h1 h2 hr
  have hd := dst_b h1 h2 hr
  have q1 := hR.1 c h1 h2
  have A1 := FX_AR F1 (f := 1000) (by omega) hA
  have R2 := ST2_RB (em := em) (sg := sgA A) (h := h) hR hM h1 h2 hr
  have e3 : gI S 1000 0 3 = jj (A 3) := hA 3 (by decide) (by decide)
  have at2 := @ST2_at em (sgA A) A h c rt
  unfold f_X10_strokeNow
  rw [e3, bnd_of e1]
  simp only
  rw [bnd_of (r_beside h1 h2 hr)]
  generalize hmm : mvv em A (sgA A) h c rt = m at *
  have e11 := A1 (11 + c) (by omega) (by omega)
  simp (disch := omega) only [jj_of, jj_add, jj_sub, jj_mul, jj_neg, jj_le, jj_lt, jj_eq, jj_nat, chk_true (jj_inb _ _ _), chk_true (jj_nz _ _ _), lt, e11]
  have two : (if 2 * m ≤ A (11 + c) then f_X10_strokeNow_b48 N N (jj h) (jj c) (jj rt) (jj m) (jj (bsd c rt)) (jj 0) (jj 0) S1 else f_X10_strokeNow_b48 N N (jj h) (jj c) (jj rt) (jj m) (jj (bsd c rt)) (jj 1) (jj 0) S1) = f_X10_strokeNow_b48 N N (jj h) (jj c) (jj rt) (jj m) (jj (bsd c rt)) (jj (if A (11 + c) < 2 * m then 1 else 0)) (jj 0) S1 := by
    by_cases q : 2 * m ≤ A (11 + c)
    · rw [if_pos q, if_neg (by omega)]
    · rw [if_neg q, if_pos (by omega)]
  rw [two]
  obtain ⟨S2, e2, A2, F2⟩ := r_towns (h := h) (rt := rt) (m := m) (to := bsd c rt) (al := if A (11 + c) < 2 * m then 1 else 0) hN A1 t0 t1 (by omega) (by omega) h1 h2 (by split; exact Or.inr rfl; exact Or.inl rfl) hB
  rw [e2]
  have A2 : AR 1000 S2 (if A (11 + c) < 2 * m then TWN A c (bsd c rt) else A) := by
    by_cases q : A (11 + c) < 2 * m
    · simp only [q, if_true] at A2 ⊢; exact A2
    · simp only [q, if_false] at A2 ⊢; exact A2
  have lo : ∀ i, i < 35 → (if A (11 + c) < 2 * m then TWN A c (bsd c rt) else A) i = A i := by
    intro i hi
    by_cases q : A (11 + c) < 2 * m
    · rw [if_pos q, TWN_lo hi]
    · rw [if_neg q]
  have e11 := A2 (11 + c) (by omega) (by omega)
  rw [lo _ (by omega)] at e11
  unfold f_X10_strokeNow_b96
  simp (disch := omega) only [jj_of, jj_add, jj_sub, jj_mul, jj_neg, jj_le, jj_lt, jj_eq, jj_nat, chk_true (jj_inb _ _ _), chk_true (jj_nz _ _ _), lt, e11]
  have A3 := AR_set A2 (k := 11 + c) (v := A (11 + c) - m) (by omega)
  have F3 : FX (fun f _ => f = 1000) S2 (sI S2 1000 0 (11 + c).toNat (jj (A (11 + c) - m))) := FX_sI (FX_refl _ _) rfl
  generalize sI S2 1000 0 (11 + c).toNat (jj (A (11 + c) - m)) = S3 at A3 F3 ⊢
  have dd : (if bsd c rt = -1 then f_X10_strokeNow_b130 N (jj h) (jj c) (jj rt) (jj m) (jj 9) S3 else f_X10_strokeNow_b130 N (jj h) (jj c) (jj rt) (jj m) (jj (11 + bsd c rt)) S3) = f_X10_strokeNow_b130 N (jj h) (jj c) (jj rt) (jj m) (jj (dst c rt)) S3 := by
    unfold dst
    by_cases q : bsd c rt = -1
    · rw [if_pos q, if_pos q]
    · rw [if_neg q, if_neg q]
  rw [dd]
  have ed := A3 (dst c rt) (by omega) (by omega)
  rw [UP_ne (by omega), lo _ (by omega)] at ed
  unfold f_X10_strokeNow_b130
  simp (disch := omega) only [jj_of, jj_add, jj_sub, jj_mul, jj_neg, jj_le, jj_lt, jj_eq, jj_nat, chk_true (jj_inb _ _ _), chk_true (jj_nz _ _ _), lt, ed]
  have A4 : AR 1000 (sI S3 1000 0 (dst c rt).toNat (jj (A (dst c rt) + m))) (ST2 em (sgA A) A h c rt) := by
    have := AR_set A3 (k := dst c rt) (v := A (dst c rt) + m) (by omega)
    unfold ST2
    rw [hmm]
    exact this
  have F4 : FX STF S (sI S3 1000 0 (dst c rt).toNat (jj (A (dst c rt) + m))) := FX_sI (FX_trans (FX_sub F1 (fun f _ q => by unfold STF; omega)) (FX_trans (FX_sub F2 (fun f _ q => by unfold STF; omega)) (FX_sub F3 (fun f _ q => by unfold STF; omega)))) (by unfold STF; omega)
  have w4 : gI (sI S3 1000 0 (dst c rt).toNat (jj (A (dst c rt) + m))) 1023 0 0 = jj wf := (F4.1 1023 0 0 (by unfold STF; omega)).trans hw
  have t4 : gI (sI S3 1000 0 (dst c rt).toNat (jj (A (dst c rt) + m))) 1024 0 0 = jj tc := by
    rw [gI_sI, if_neg (by omega), F3.1 1024 0 0 (by omega), F2.1 1024 0 0 (by omega), F1.1 1024 0 0 (by omega)]
    exact ht
  generalize sI S3 1000 0 (dst c rt).toNat (jj (A (dst c rt) + m)) = S4 at A4 F4 w4 t4 ⊢
  have e23 : gI S4 1000 0 (23 + c).toNat = jj (A (23 + c)) := (A4 (23 + c) (by omega) (by omega)).trans (by rw [at2 _ (by omega), if_neg (by omega), if_neg (by omega)])
  have e11 : gI S4 1000 0 (11 + c).toNat = jj (A (11 + c) - m) := (A4 (11 + c) (by omega) (by omega)).trans (by rw [at2 _ (by omega), if_neg (by omega), if_pos rfl])
  have q23 := hR.2.1 c h1 h2
  simp (disch := omega) only [jj_of, jj_add, jj_sub, jj_mul, jj_neg, jj_le, jj_lt, jj_eq, jj_nat, chk_true (jj_inb _ _ _), chk_true (jj_nz _ _ _), lt, e23, e11]
  -- the end
  have fin : ∀ (S5 : St) (A5 : Int → Int), A5 6 = A 6 → A5 10 = A 10 → AR 1000 S5 A5 → FX STF S S5 → gI S5 1023 0 0 = jj wf → A5 = STR em et (sgA A) A h c rt → gI S5 1024 0 0 = jj (tc + (tsum A5 - tsum A)) → ∃ S', f_X10_strokeNow_b185 N (jj h) (jj c) (jj rt) (jj m) S5 = some (jj m, S') ∧ AR 1000 S' (STW wf em et A h c rt) ∧ FX STF S S' ∧ gI S' 1024 0 0 = jj (tc + (tsum (STR em et (sgA A) A h c rt) - tsum A)) := by
    intro S5 A5 x6 x10 hA5 hF5 hw5 hS ht5
    obtain ⟨S', e, g1, g2⟩ := r_stroke185 (h := h) (c := c) (m := m) hN hA5 hr hf (by omega) (by omega) hw5
    refine ⟨S', e, ?_, FX_trans hF5 (FX_sub g2 (fun f _ q => by unfold STF; omega)), ?_⟩
    · unfold STW
      rw [hmm, ← hS]
      rw [x6] at g1
      exact g1
    · rw [g2.1 1024 0 0 (by omega), ht5, hS]
  have x6 : ST2 em (sgA A) A h c rt 6 = A 6 := by rw [at2 _ (by omega), if_neg (by omega), if_neg (by omega)]
  have x10 : ST2 em (sgA A) A h c rt 10 = A 10 := by rw [at2 _ (by omega), if_neg (by omega), if_neg (by omega)]
  have x3 : ST2 em (sgA A) A h c rt 3 = A 3 := by rw [at2 _ (by omega), if_neg (by omega), if_neg (by omega)]
  have ts2 : tsum (ST2 em (sgA A) A h c rt) = tsum A := pre_ext 12 (fun i a b => by rw [at2 _ (by omega), if_neg (by omega), if_neg (by omega)])
  by_cases q : A (23 + c) = 0
  · rw [if_pos q]
    obtain ⟨S5, e5, F5⟩ := r_tears (et := et) hN A4 (by rw [x3]; exact EVM_of hE.2 (fun k => F4.1 1002 0 k (by unfold STF; omega))) h1 h2 R2
    have qt := @trr_b et (ST2 em (sgA A) A h c rt) c
    rw [bnd_of e5]
    simp (disch := omega) only [jj_of, jj_add, jj_sub, jj_mul, jj_neg, jj_le, jj_lt, jj_eq, jj_nat, chk_true (jj_inb _ _ _), chk_true (jj_nz _ _ _), lt]
    have A5 := FX_AR F5 (f := 1000) (by omega) A4
    have w5 : gI S5 1023 0 0 = jj wf := (F5.1 1023 0 0 (by omega)).trans w4
    have t5 : gI S5 1024 0 0 = jj tc := (F5.1 1024 0 0 (by omega)).trans t4
    have G5 : FX STF S S5 := FX_trans F4 (FX_sub F5 (fun f _ q => by unfold STF; omega))
    by_cases w : trr et (ST2 em (sgA A) A h c rt) c ≤ A (11 + c) - m
    · rw [if_pos w]
      refine fin S5 _ x6 x10 A5 G5 w5 ?_ ?_
      · unfold STR
        rw [hmm, if_neg (fun z => by omega)]
      · rw [ts2, t5]
        congr 1
        omega
    · rw [if_neg w]
      refine fin _ (UP (ST2 em (sgA A) A h c rt) (23 + c) 1) ?_ ?_ ?_ ?_ ?_ ?_ ?_
      · rw [UP_ne (by omega), x6]
      · rw [UP_ne (by omega), x10]
      · exact fun k a b => (gI_sI _ _ _ _ _ _ _ _).trans (by rw [if_neg (by omega)]; exact AR_set A5 (by omega) k a b)
      · exact FX_sI (FX_sI G5 (by unfold STF; omega)) (by unfold STF; omega)
      · rw [gI_sI, if_neg (by omega), gI_sI, if_neg (by omega), w5]
      · unfold STR
        rw [hmm, if_pos ⟨q, by omega⟩]
      · rw [gI_sI, if_pos ⟨rfl, rfl, rfl⟩, gI_sI, if_neg (by omega), t5, jj_add]
        congr 2
        have : tsum (UP (ST2 em (sgA A) A h c rt) (23 + c) 1) = tsum A + 1 := by
          rw [← ts2]
          unfold tsum
          rw [pre_ext 12 (g := UP (fun i => ST2 em (sgA A) A h c rt (23 + i)) c 1) (fun i a b => by
            rw [UP_at, UP_at]
            by_cases z : i = c
            · rw [if_pos z, if_pos (by omega)]
            · rw [if_neg z, if_neg (by omega)]), pre_UP h1, if_pos (by omega), at2 (23 + c) (by omega), if_neg (by omega), if_neg (by omega), q]
          omega
        omega
  · rw [if_neg q]
    refine fin S4 _ x6 x10 A4 F4 w4 ?_ ?_
    · unfold STR
      rw [if_neg (fun z => q z.1)]
    · rw [ts2, t4]
      congr 1
      omega
