/-! TURNS of the reference; what is kept. -/
theorem tsum_ext {A B : Int → Int} (h : ∀ i, 0 ≤ i → i < 12 → A (23 + i) = B (23 + i)) : tsum A = tsum B := pre_ext 12 (fun i a b => h i a (by omega))
theorem TOK_b {A : Int → Int} (h : TOK A) : ∀ i : Int, 35 ≤ i → i < 35 + A 1 → -2147483648 ≤ A i ∧ A i ≤ 2147483647 := fun i a b => by
  have := h.2.2 (i - 35) (by omega) (by omega)
  rw [show 35 + (i - 35) = i by omega] at this
  omega
theorem r_strokeS {S : St} {N : Nat} {A : Int → Int} {em et : Sem} {h c rt wf tc M : Int} (hN : 4000 < N) (hO : OKS A M) (hA : AR 1000 S A) (hE : RLW S (A 3) em et) (h0 : 0 ≤ h ∧ h < A 0) (h1 : 0 ≤ c) (h2 : c < 12) (hr : rt = 0 ∨ rt = 1) (hf : wf = 0 ∨ wf = 1) (hw : gI S 1023 0 0 = jj wf) (ht : gI S 1024 0 0 = jj tc) : ∃ S', f_X10_strokeNow N S (jj h) (jj c) (jj rt) = some (jj (mvv em A (sgA A) h c rt), S') ∧ AR 1000 S' (STW wf em et A h c rt) ∧ FX STF S S' ∧ gI S' 1024 0 0 = jj (tc + (tsum (STW wf em et A h c rt) - tsum A)) := by
  obtain ⟨hO, hT, hH, hM⟩ := hO
  have hs := hH.2.2 h h0.1 h0.2
  have h4 := hH.2.1
  have n0 := hO.2.2.2.2.2.2.2.2.2.1
  have n1 := hO.2.2.2.2.2.2.2.2.2.2.1
  have hsum := hO.2.2.2.2.1
  have h8 := hO.2.2.2.1
  obtain ⟨S', e, a1, a2, a3⟩ := r_stroke hN hA hE ⟨by omega, hs.2⟩ ⟨h0.1, by omega⟩ h1 h2 hr (OKR_RB hO hM) (by omega) hT.1 hT.2.1 (TOK_b hT) n0 n1 hf hw ht
  refine ⟨S', e, a1, a2, ?_⟩
  rw [a3, tsum_ext (A := STW wf em et A h c rt) (B := STR em et (sgA A) A h c rt) (fun i a b => STW_mid n0 n1 h1 h2 hr _ (by omega) (by omega))]
theorem r_pass {S : St} {N : Nat} {em et : Sem} {A : Int → Int} {wf tc M : Int} (hN : 4000 < N) (hO : OKS A M) (hA : AR 1000 S A) (hE : RLW S (A 3) em et) (hf : wf = 0 ∨ wf = 1) (hw : gI S 1023 0 0 = jj wf) (ht : gI S 1024 0 0 = jj tc) : ∃ S', f_X10_pass N S = some S' ∧ AR 1000 S' (PSF wf em et A) ∧ FX STF S S' ∧ gI S' 1024 0 0 = jj (tc + (tsum (PSF wf em et A) - tsum A)) := by
  have t0 := hO.1.2.2.2.2.2.1
  have t1 := hO.1.2.2.2.2.2.2.1
  have hh := hO.2.2.1
  have h00 := hh.1
  have h04 := hh.2.1
  have e0 : gI S 1000 0 0 = jj (A 0) := hA 0 (by decide) (by decide)
  have e6 : gI S 1000 0 6 = jj (A 6) := hA 6 (by decide) (by decide)
  have fin : ∀ (S1 : St) (B : Int → Int), AR 1000 S1 B → B 6 = A 6 → FX STF S S1 → gI S1 1024 0 0 = jj (tc + (tsum B - tsum A)) → ∃ S', f_X10_pass_b69 N S1 = some S' ∧ AR 1000 S' (UP B 6 (A 6 + 1)) ∧ FX STF S S' ∧ gI S' 1024 0 0 = jj (tc + (tsum (UP B 6 (A 6 + 1)) - tsum A)) := by
    intro S1 B A1 x6 F1 T1
    have e6 : gI S1 1000 0 6 = jj (B 6) := A1 6 (by decide) (by decide)
    unfold f_X10_pass_b69
    rw [e6, x6, jj_of, jj_add]
    refine ⟨_, rfl, AR_set A1 (k := 6) (by decide), FX_sI F1 (by unfold STF; omega), ?_⟩
    rw [gI_sI, if_neg (by omega), T1, tsum_ext (A := UP B 6 (A 6 + 1)) (B := B) (fun i a b => UP_ne (by omega))]
  unfold f_X10_pass PSF
  rw [e0, e6]
  simp (disch := omega) only [jj_of, jj_add, jj_sub, jj_mul, jj_neg, jj_le, jj_lt, jj_eq, jj_nat, chk_true (jj_inb _ _ _), chk_true (jj_nz _ _ _), lt]
  by_cases q : A 0 ≤ 0
  · rw [if_pos q, if_pos q]
    exact fin S A hA rfl (FX_refl _ _) (by rw [ht]; congr 1; omega)
  · rw [if_neg q, if_neg q]
    obtain ⟨S1, e1, A1, F1⟩ := r_drawn (m := 12) hO hA (by decide) (by decide)
    have O1 := DRW_OKS hO
    obtain ⟨S2, e2, A2, F2⟩ := r_drawn (m := 2) O1 A1 (by decide) (by decide)
    have O2 := DRW_OKS O1
    have b0 := hO.1.2.2.2.2.2.2.2.1
    have b1 := hO.1.2.2.2.2.2.2.2.2.1
    have d7 := DRW_7 b0
    rw [jj_rem t0 (by omega) (by omega) (by omega)]
    rw [bnd_of e1]
    simp only
    rw [bnd_of e2]
    simp only
    have FF : FX STF S S2 := FX_trans (FX_sub F1 (fun f j' q => by unfold STF; omega)) (FX_sub F2 (fun f j' q => by unfold STF; omega))
    have W2 : gI S2 1023 0 0 = jj wf := (FF.1 1023 0 0 (by unfold STF; omega)).trans hw
    have T2 : gI S2 1024 0 0 = jj tc := by rw [F2.1 1024 0 0 (by omega), F1.1 1024 0 0 (by omega)]; exact ht
    have two : (if jj (DRW A 7 % 2) = jj 1 then f_X10_pass_b45 N (jj (A 6 % A 0)) (jj (A 7 % 12)) (jj 1) S2 else f_X10_pass_b45 N (jj (A 6 % A 0)) (jj (A 7 % 12)) (jj 0) S2) = f_X10_pass_b45 N (jj (A 6 % A 0)) (jj (A 7 % 12)) (jj (DRW A 7 % 2)) S2 := by
      simp (disch := omega) only [jj_eq]
      by_cases w : DRW A 7 % 2 = 1
      · rw [if_pos w, w]
      · rw [if_neg w, show DRW A 7 % 2 = 0 by omega]
    rw [two]
    unfold f_X10_pass_b45
    have e11 := A2 (11 + A 7 % 12) (by omega) (by omega)
    rw [DRW_ne (by omega), DRW_ne (by omega)] at e11
    have c0 := (OKR_CB hO.1 hO.2.2.2) (A 7 % 12) (by omega) (by omega)
    simp only at c0
    simp (disch := omega) only [jj_of, jj_add, jj_sub, jj_mul, jj_neg, jj_le, jj_lt, jj_eq, jj_nat, chk_true (jj_inb _ _ _), chk_true (jj_nz _ _ _), lt, e11]
    have d6 : DRW (DRW A) 6 = A 6 := by rw [DRW_ne (by omega), DRW_ne (by omega)]
    have dt : tsum (DRW (DRW A)) = tsum A := tsum_ext (fun i a b => by rw [DRW_ne (by omega), DRW_ne (by omega)])
    by_cases w : A (11 + A 7 % 12) ≤ 0
    · rw [if_pos w, if_pos w]
      exact fin S2 _ A2 d6 FF (by rw [T2, dt]; congr 1; omega)
    · rw [if_neg w, if_neg w]
      have m0 := Int.emod_nonneg (A 6) (show A 0 ≠ 0 by omega)
      have m1 := Int.emod_lt_of_pos (A 6) (show 0 < A 0 by omega)
      have x0 : DRW (DRW A) 0 = A 0 := by rw [DRW_ne (by omega), DRW_ne (by omega)]
      have x3 : DRW (DRW A) 3 = A 3 := by rw [DRW_ne (by omega), DRW_ne (by omega)]
      obtain ⟨S3, e3, A3, F3, T3⟩ := r_strokeS (em := em) (et := et) (h := A 6 % A 0) (c := A 7 % 12) (rt := DRW A 7 % 2) hN O2 A2 (by rw [x3]; exact RLW_of hE (fun k => FF.1 1002 0 k (by unfold STF; omega))) ⟨by omega, by rw [x0]; exact m1⟩ (by omega) (by omega) (by omega) hf W2 T2
      have hmv := mvv_b (em := em) (sg := sgA (DRW (DRW A))) (h := A 6 % A 0) (rt := DRW A 7 % 2) (OKR_RB O2.1 O2.2.2.2) (show 0 ≤ A 7 % 12 by omega) (by omega)
      have cc := (OKR_CB O2.1 O2.2.2.2) (A 7 % 12) (by omega) (by omega)
      simp only at cc
      rw [bnd_of e3]
      simp (disch := omega) only [jj_of, jj_add, jj_sub, jj_mul, jj_neg, jj_le, jj_lt, jj_eq, jj_nat, chk_true (jj_inb _ _ _), chk_true (jj_nz _ _ _), lt]
      rw [if_pos hmv.1]
      have n0 := O2.1.2.2.2.2.2.2.2.2.2.1
      have n1 := O2.1.2.2.2.2.2.2.2.2.2.2.1
      exact fin S3 _ A3 (by rw [STW_far n0 n1 (by omega) (by omega) (by omega) 6 (by omega), d6]) (FX_trans FF F3) (by rw [T3, dt])
/-- what is kept: a row of 30 -/
def KSH (A : Int → Int) : Int → Int := if A 4 = 30 then (fun i => if i = 4 then 29 else if 75 ≤ i ∧ i < 2859 then A (i + 96) else A i) else A
def KPF (A : Int → Int) : Int → Int := fun i => if i = 4 then KSH A 4 + 1 else if i = 75 + 96 * KSH A 4 then A 1 else if 75 + 96 * KSH A 4 < i ∧ i ≤ 110 + 96 * KSH A 4 then A (i - 70 - 96 * KSH A 4) else if 111 + 96 * KSH A 4 ≤ i ∧ i < 171 + 96 * KSH A 4 then A (i + 2844 - 96 * KSH A 4) else KSH A i
theorem r_keep55 {S : St} {N : Nat} (hN : 4000 < N) {A : Int → Int} (hA : AR 1000 S A) (s0 : 0 ≤ A 4) (s1 : A 4 < 30) : ∃ S', f_X10_keep_b55 N S = some S' ∧ AR 1000 S' (fun i => if i = 4 then A 4 + 1 else if i = 75 + 96 * A 4 then A 1 else if 75 + 96 * A 4 < i ∧ i ≤ 110 + 96 * A 4 then A (i - 70 - 96 * A 4) else if 111 + 96 * A 4 ≤ i ∧ i < 171 + 96 * A 4 then A (i + 2844 - 96 * A 4) else A i) ∧ FX (fun f _ => f = 1000) S S' := by
  have e4 : gI S 1000 0 4 = jj (A 4) := hA 4 (by decide) (by decide)
  have e1 : gI S 1000 0 1 = jj (A 1) := hA 1 (by decide) (by decide)
  unfold f_X10_keep_b55
  rw [e4, e1]
  simp (disch := omega) only [jj_of, jj_add, jj_sub, jj_mul, jj_neg, jj_le, jj_lt, jj_eq, jj_nat, chk_true (jj_inb _ _ _), chk_true (jj_nz _ _ _), lt]
  generalize hn : A 4 = n at *
  have A1 := AR_set hA (k := 75 + 96 * n) (v := A 1) (by omega)
  have F1 : FX (fun f _ => f = 1000) S (sI S 1000 0 (75 + 96 * n).toNat (jj (A 1))) := FX_sI (FX_refl _ _) rfl
  generalize sI S 1000 0 (75 + 96 * n).toNat (jj (A 1)) = S1 at A1 F1 ⊢
  have hA1 : AR 1000 S1 (fun i => if i = 75 + 96 * n then A 1 else if 75 + 96 * n < i ∧ i ≤ 75 + 96 * n + 0 then A (i - 70 - 96 * n) else A i) := AR_ext A1 (fun k a b => by
    rw [UP_at]
    by_cases w : k = 75 + 96 * n
    · rw [if_pos w, if_pos w]
    · rw [if_neg w, if_neg w, if_neg (by omega)])
  have := wp_up (F := fun m S2 k => f_X10_keep_b82 N m (jj (75 + 96 * n)) (jj k) S2) (P := fun k S2 => 0 ≤ k ∧ FX (fun f _ => f = 1000) S S2 ∧ AR 1000 S2 (fun i => if i = 75 + 96 * n then A 1 else if 75 + 96 * n < i ∧ i ≤ 75 + 96 * n + k then A (i - 70 - 96 * n) else A i)) (Q := fun S' => AR 1000 S' (fun i => if i = 4 then n + 1 else if i = 75 + 96 * n then A 1 else if 75 + 96 * n < i ∧ i ≤ 110 + 96 * n then A (i - 70 - 96 * n) else if 111 + 96 * n ≤ i ∧ i < 171 + 96 * n then A (i + 2844 - 96 * n) else A i) ∧ FX (fun f _ => f = 1000) S S') (E := 35) ?_ ?_ 35 N 0 S1 (by decide) (by omega) ⟨by decide, F1, hA1⟩
  · obtain ⟨S', e, h2, h3⟩ := this
    exact ⟨S', e, h2, h3⟩
  · intro m S2 ⟨k0, F2, A2⟩
    simp only [f_X10_keep_b82]
    rw [if_pos (by decide)]
    simp only [jj_of]
    refine wp_up (F := fun m S2 k => f_X10_keep_b115 N m (jj (75 + 96 * n)) (jj k) S2) (P := fun k S2 => 0 ≤ k ∧ FX (fun f _ => f = 1000) S S2 ∧ AR 1000 S2 (fun i => if i = 75 + 96 * n then A 1 else if 75 + 96 * n < i ∧ i ≤ 110 + 96 * n then A (i - 70 - 96 * n) else if 111 + 96 * n ≤ i ∧ i < 111 + 96 * n + k then A (i + 2844 - 96 * n) else A i)) (E := 60) ?_ ?_ 60 N 0 S2 (by decide) (by omega) ⟨by decide, F2, AR_ext A2 (fun k a b => ?_)⟩
    · intro m S3 ⟨k0, F3, A3⟩
      have e4 : gI S3 1000 0 4 = jj n := (A3 4 (by decide) (by decide)).trans (by dsimp only; rw [if_neg (by omega), if_neg (by omega), if_neg (by omega), hn])
      simp only [f_X10_keep_b115]
      rw [if_pos (by decide), e4]
      simp (disch := omega) only [jj_of, jj_add, jj_sub, jj_mul, jj_neg, jj_le, jj_lt, jj_eq, jj_nat, chk_true (jj_inb _ _ _), chk_true (jj_nz _ _ _), lt]
      refine wp_some ⟨AR_ext (AR_set A3 (k := 4) (by decide)) (fun i a b => ?_), FX_sI F3 rfl⟩
      rw [UP_at]
      by_cases w : i = 4
      · rw [if_pos w, if_pos w]
      · rw [if_neg w, if_neg w]
        by_cases w1 : i = 75 + 96 * n
        · rw [if_pos w1, if_pos w1]
        · rw [if_neg w1, if_neg w1]
          by_cases w2 : 75 + 96 * n < i ∧ i ≤ 110 + 96 * n
          · rw [if_pos w2, if_pos w2]
          · rw [if_neg w2, if_neg w2]
            by_cases w3 : 111 + 96 * n ≤ i ∧ i < 171 + 96 * n
            · rw [if_pos w3, if_pos (by omega)]
            · rw [if_neg w3, if_neg (by omega)]
    · intro m S3 k hk ⟨k0, F3, A3⟩ ih
      have hk2 : ¬ 60 ≤ k := by omega
      have er : gI S3 1000 0 (2955 + k).toNat = jj (A (2955 + k)) := (A3 (2955 + k) (by omega) (by omega)).trans (by dsimp only; rw [if_neg (by omega), if_neg (by omega), if_neg (by omega)])
      simp only [f_X10_keep_b115]
      simp (disch := omega) only [jj_of, jj_add, jj_sub, jj_mul, jj_neg, jj_le, jj_lt, jj_eq, jj_nat, chk_true (jj_inb _ _ _), chk_true (jj_nz _ _ _), lt, if_true, if_false, reduceIte, hk2, er]
      refine ih _ ⟨by omega, FX_sI F3 rfl, AR_ext (AR_set A3 (by omega)) (fun i a b => ?_)⟩
      rw [UP_at]
      by_cases w : i = 75 + 96 * n + 36 + k
      · rw [if_pos w, if_neg (by omega), if_neg (by omega), if_pos (by omega)]
        congr 1; omega
      · rw [if_neg w]
        by_cases w1 : i = 75 + 96 * n
        · rw [if_pos w1, if_pos w1]
        · rw [if_neg w1, if_neg w1]
          by_cases w2 : 75 + 96 * n < i ∧ i ≤ 110 + 96 * n
          · rw [if_pos w2, if_pos w2]
          · rw [if_neg w2, if_neg w2]
            by_cases w3 : 111 + 96 * n ≤ i ∧ i < 111 + 96 * n + k
            · rw [if_pos w3, if_pos (by omega)]
            · rw [if_neg w3, if_neg (by omega)]
    · by_cases w1 : k = 75 + 96 * n
      · rw [if_pos w1, if_pos w1]
      · rw [if_neg w1, if_neg w1]
        by_cases w2 : 75 + 96 * n < k ∧ k ≤ 110 + 96 * n
        · rw [if_pos w2, if_pos (by omega)]
        · rw [if_neg w2, if_neg (by omega), if_neg (by omega)]
  · intro m S2 k hk ⟨k0, F2, A2⟩ ih
    have hk2 : ¬ 35 ≤ k := by omega
    have er : gI S2 1000 0 (6 + k).toNat = jj (A (6 + k)) := (A2 (6 + k) (by omega) (by omega)).trans (by dsimp only; rw [if_neg (by omega), if_neg (by omega)])
    simp only [f_X10_keep_b82]
    simp (disch := omega) only [jj_of, jj_add, jj_sub, jj_mul, jj_neg, jj_le, jj_lt, jj_eq, jj_nat, chk_true (jj_inb _ _ _), chk_true (jj_nz _ _ _), lt, if_true, if_false, reduceIte, hk2, er]
    refine ih _ ⟨by omega, FX_sI F2 rfl, AR_ext (AR_set A2 (by omega)) (fun i a b => ?_)⟩
    rw [UP_at]
    by_cases w : i = 75 + 96 * n + 1 + k
    · rw [if_pos w, if_neg (by omega), if_pos (by omega)]
      congr 1; omega
    · rw [if_neg w]
      by_cases w1 : i = 75 + 96 * n
      · rw [if_pos w1, if_pos w1]
      · rw [if_neg w1, if_neg w1]
        by_cases w2 : 75 + 96 * n < i ∧ i ≤ 75 + 96 * n + k
        · rw [if_pos w2, if_pos (by omega)]
        · rw [if_neg w2, if_neg (by omega)]
theorem r_keep {S : St} {N : Nat} (hN : 4000 < N) {A : Int → Int} (hA : AR 1000 S A) (s0 : 0 ≤ A 4) (s1 : A 4 ≤ 30) : ∃ S', f_X10_keep N S = some S' ∧ AR 1000 S' (KPF A) ∧ FX (fun f _ => f = 1000) S S' := by
  have e4 : gI S 1000 0 4 = jj (A 4) := hA 4 (by decide) (by decide)
  unfold f_X10_keep
  rw [e4]
  simp (disch := omega) only [jj_of, jj_add, jj_sub, jj_mul, jj_neg, jj_le, jj_lt, jj_eq, jj_nat, chk_true (jj_inb _ _ _), chk_true (jj_nz _ _ _), lt]
  by_cases q : A 4 = 30
  · rw [if_pos q]
    have := wp_up (F := fun m S1 k => f_X10_keep_b13 N m (jj k) S1) (P := fun k S1 => 0 ≤ k ∧ FX (fun f _ => f = 1000) S S1 ∧ AR 1000 S1 (fun i => if 75 ≤ i ∧ i < 75 + k then A (i + 96) else A i)) (Q := fun S' => AR 1000 S' (KPF A) ∧ FX (fun f _ => f = 1000) S S') (E := 2784) ?_ ?_ 2784 N 0 S (by decide) (by omega) ⟨by decide, FX_refl _ _, AR_ext hA (fun k a b => by rw [if_neg (by omega)])⟩
    · obtain ⟨S', e, h2, h3⟩ := this
      exact ⟨S', e, h2, h3⟩
    · intro m S1 ⟨k0, F1, A1⟩
      have e4 : gI S1 1000 0 4 = jj 30 := (A1 4 (by decide) (by decide)).trans (by dsimp only; rw [if_neg (by decide), q])
      simp only [f_X10_keep_b13]
      rw [if_pos (by decide), e4]
      simp (disch := omega) only [jj_of, jj_add, jj_sub, jj_mul, jj_neg, jj_le, jj_lt, jj_eq, jj_nat, chk_true (jj_inb _ _ _), chk_true (jj_nz _ _ _), lt]
      have A2 : AR 1000 (sI S1 1000 0 4 (jj (30 - 1))) (KSH A) := AR_ext (AR_set A1 (k := 4) (v := 30 - 1) (by decide)) (fun i a b => by
        unfold KSH
        rw [if_pos q, UP_at]
        by_cases w : i = 4
        · rw [if_pos w, if_pos w]; rfl
        · rw [if_neg w, if_neg w]
          by_cases w2 : 75 ≤ i ∧ i < 2859
          · rw [if_pos w2, if_pos (by omega)]
          · rw [if_neg w2, if_neg (by omega)])
      have k4 : KSH A 4 = 29 := by unfold KSH; rw [if_pos q, if_pos rfl]
      have kf : ∀ i, i ≠ 4 → i < 75 ∨ 2859 ≤ i → KSH A i = A i := fun i a b => by unfold KSH; rw [if_pos q, if_neg a, if_neg (by omega)]
      obtain ⟨S', e, h2, h3⟩ := r_keep55 hN A2 (by omega) (by omega)
      refine ⟨S', e, AR_ext h2 (fun i a b => ?_), FX_trans (FX_sI F1 rfl) h3⟩
      unfold KPF
      rw [kf 1 (by decide) (by decide)]
      by_cases w : i = 4
      · rw [if_pos w, if_pos w]
      · rw [if_neg w, if_neg w]
        by_cases w1 : i = 75 + 96 * KSH A 4
        · rw [if_pos w1, if_pos w1]
        · rw [if_neg w1, if_neg w1]
          by_cases w2 : 75 + 96 * KSH A 4 < i ∧ i ≤ 110 + 96 * KSH A 4
          · rw [if_pos w2, if_pos w2, kf _ (by omega) (by omega)]
          · rw [if_neg w2, if_neg w2]
            by_cases w3 : 111 + 96 * KSH A 4 ≤ i ∧ i < 171 + 96 * KSH A 4
            · rw [if_pos w3, if_pos w3, kf _ (by omega) (by omega)]
            · rw [if_neg w3, if_neg w3]
    · intro m S1 k hk ⟨k0, F1, A1⟩ ih
      have hk2 : ¬ 2784 ≤ k := by omega
      have er : gI S1 1000 0 (171 + k).toNat = jj (A (171 + k)) := (A1 (171 + k) (by omega) (by omega)).trans (by dsimp only; rw [if_neg (by omega)])
      simp only [f_X10_keep_b13]
      simp (disch := omega) only [jj_of, jj_add, jj_sub, jj_mul, jj_neg, jj_le, jj_lt, jj_eq, jj_nat, chk_true (jj_inb _ _ _), chk_true (jj_nz _ _ _), lt, if_true, if_false, reduceIte, hk2, er]
      refine ih _ ⟨by omega, FX_sI F1 rfl, AR_ext (AR_set A1 (by omega)) (fun i a b => ?_)⟩
      rw [UP_at]
      by_cases w : i = 75 + k
      · rw [if_pos w, if_pos (by omega)]
        congr 1; omega
      · rw [if_neg w]
        by_cases w2 : 75 ≤ i ∧ i < 75 + k
        · rw [if_pos w2, if_pos (by omega)]
        · rw [if_neg w2, if_neg (by omega)]
  · rw [if_neg q]
    have ks : KSH A = A := if_neg q
    obtain ⟨S', e, h2, h3⟩ := r_keep55 hN hA s0 (by omega)
    refine ⟨S', e, AR_ext h2 (fun i a b => ?_), h3⟩
    unfold KPF
    rw [ks]
