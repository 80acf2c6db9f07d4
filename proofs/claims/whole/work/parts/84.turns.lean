/-! CALLS that do: turns one by one, years. -/
def PTN (em et : Sem) : Nat → (Int → Int) → (Int → Int)
  | 0, A => A
  | m + 1, A => if 9999 ≤ A 6 then A else PTN em et m (PSF 1 em et (KPF A))
theorem PSF_6 {wf : Int} {em et : Sem} {A : Int → Int} : PSF wf em et A 6 = A 6 + 1 := by
  unfold PSF
  by_cases q : A 0 ≤ 0
  · rw [if_pos q, UP_hit]
  · rw [if_neg q, UP_hit]
theorem PSF_3 {wf : Int} {em et : Sem} {A : Int → Int} {M : Int} (hO : OKS A M) : PSF wf em et A 3 = A 3 := (PSF_AGR hO 3 (by decide) (by decide) (by decide)).symm
theorem PSF_NUM {em et : Sem} {A : Int → Int} {M : Int} (hM : NUM A M) (h6 : A 6 < 9999) : NUM (PSF 1 em et A) M := NUM_step hM (PSF_AGR hM.1) (PSF_OKS hM.1 h6)
theorem k6 {A : Int → Int} {M : Int} (hM : NUM A M) : KPF A 6 = A 6 := keep_row hM 6 (by decide) (by decide)
theorem PTN_stop {em et : Sem} {A : Int → Int} (m : Nat) (h : 9999 ≤ A 6) : PTN em et m A = A := by
  cases m with
  | zero => rfl
  | succ m => exact if_pos h
theorem PTN_NUM {em et : Sem} {M : Int} : ∀ (m : Nat) (A : Int → Int), NUM A M → NUM (PTN em et m A) M := by
  intro m
  induction m with
  | zero => intro A h; exact h
  | succ m ih =>
    intro A h
    show NUM (if 9999 ≤ A 6 then A else PTN em et m (PSF 1 em et (KPF A))) M
    by_cases q : 9999 ≤ A 6
    · rw [if_pos q]; exact h
    · rw [if_neg q]
      exact ih _ (PSF_NUM (NUM_KPF h) (by rw [k6 h]; omega))
theorem c_turns {S : St} {N : Nat} {A : Int → Int} {M W n : Int} {em et : Sem} (hN : 4000 < N) (hC : XC S A M W em et) (hW : W + 60 < 100000000) (n0 : 0 ≤ n) (n1 : n ≤ 60) : ∃ S', f_X9_passTurns N S (jj n) = some (jj (if n ≤ 9999 - A 6 then n else 9999 - A 6), S') ∧ XC S' (PTN em et n.toNat A) M (W + 60) em et ∧ FX XOP S S' := by
  have t0 := hC.2.1.1.1.2.2.2.2.2.1
  have t1 := hC.2.1.1.1.2.2.2.2.2.2.1
  have out : ∀ (k : Int) (S1 : St) (A1 : Int → Int), 0 ≤ k → k ≤ n → XC S1 A1 M (W + k) em et → FX XOP S S1 → PTN em et (n - k).toNat A1 = PTN em et n.toNat A → A1 6 = A 6 + k → (k = n ∨ 9999 ≤ A1 6) → wp (some (jj k, S1)) (fun r => r.1 = jj (if n ≤ 9999 - A 6 then n else 9999 - A 6) ∧ XC r.2 (PTN em et n.toNat A) M (W + 60) em et ∧ FX XOP S r.2) := by
    intro k S1 A1 k0 k1 X1 F1 e1 e6 hk
    have b6 := X1.2.1.1.1.2.2.2.2.2.2.1
    refine wp_some ⟨?_, ?_, F1⟩
    · show jj k = _
      congr 1
      by_cases q : n ≤ 9999 - A 6
      · rw [if_pos q]; omega
      · rw [if_neg q]; omega
    · rw [← e1]
      have : PTN em et (n - k).toNat A1 = A1 := by
        rcases hk with w | w
        · rw [w, show (n - n).toNat = 0 by omega]; rfl
        · exact PTN_stop _ w
      rw [this]
      exact ⟨X1.1, X1.2.1, WRT_mono X1.2.2.1 (by omega), X1.2.2.2⟩
  have := wp_up (F := fun n' S1 k => f_X9_passTurns_b4 N n' (jj n) (jj k) (jj k) S1) (P := fun k S1 => 0 ≤ k ∧ k ≤ n ∧ ∃ A1, XC S1 A1 M (W + k) em et ∧ FX XOP S S1 ∧ PTN em et (n - k).toNat A1 = PTN em et n.toNat A ∧ A1 6 = A 6 + k) (Q := fun r => r.1 = jj (if n ≤ 9999 - A 6 then n else 9999 - A 6) ∧ XC r.2 (PTN em et n.toNat A) M (W + 60) em et ∧ FX XOP S r.2) (E := n) ?_ ?_ n.toNat N 0 S (by omega) (by omega) ⟨Int.le_refl _, n0, A, ⟨hC.1, hC.2.1, WRT_mono hC.2.2.1 (by omega), hC.2.2.2⟩, FX_refl _ _, by rw [show n - 0 = n by omega], by omega⟩
  · obtain ⟨⟨v, S'⟩, e, h1, h2, h3⟩ := this
    simp only at h1
    rw [h1] at e
    exact ⟨S', e, h2, h3⟩
  · intro n' S1 ⟨k0, k1, A1, X1, F1, e1, e6⟩
    simp only [f_X9_passTurns_b4]
    rw [if_pos (Int32.le_refl _)]
    exact out n S1 A1 k0 k1 X1 F1 e1 e6 (Or.inl rfl)
  · intro n' S1 k hk ⟨k0, k1, A1, X1, F1, e1, e6⟩ ih
    have b6 := X1.2.1.1.1.2.2.2.2.2.2.1
    have b60 := X1.2.1.1.1.2.2.2.2.2.1
    simp only [f_X9_passTurns_b4]
    rw [X1.1.2.1.1.2.2.2]
    simp (disch := omega) only [jj_of, jj_add, jj_sub, jj_mul, jj_neg, jj_le, jj_lt, jj_eq, jj_nat, chk_true (jj_inb _ _ _), chk_true (jj_nz _ _ _), lt]
    rw [if_neg (by omega)]
    refine wp_ite (fun q => out k S1 A1 k0 k1 X1 F1 e1 e6 (Or.inr q)) (fun q => ?_)
    obtain ⟨S2, e2, X2, F2⟩ := c_keep X1
    obtain ⟨S3, e3, X3, F3⟩ := c_pass hN X2 (by omega) (by rw [k6 X1.2.1]; omega)
    rw [bnd_of e2, bnd_of e3]
    refine ih S3 ⟨by omega, by omega, PSF 1 em et (KPF A1), by rw [show W + (k + 1) = W + k + 1 by omega]; exact X3, FX_trans F1 (FX_trans F2 F3), ?_, by rw [PSF_6, k6 X1.2.1]; omega⟩
    rw [← e1, show (n - k).toNat = (n - (k + 1)).toNat + 1 by omega]
    show _ = (if 9999 ≤ A1 6 then A1 else PTN em et (n - (k + 1)).toNat (PSF 1 em et (KPF A1)))
    rw [if_neg q]
theorem tsum_KPF {A : Int → Int} {M : Int} (hM : NUM A M) : tsum (KPF A) = tsum A := tsum_ext (fun i a b => keep_row hM _ (by omega) (by omega))
theorem rc_turns {S : St} {N : Nat} {A : Int → Int} {M n : Int} {em et : Sem} (hN : 4000 < N) (hM : NUM A M) (hC : RC S A em et) (n0 : 0 ≤ n) (n1 : n ≤ 60) : ∃ S', f_X10_arePassed N S (jj n) = some (jj (if n ≤ 9999 - A 6 then 1 else 0), S') ∧ RC S' (PTN em et n.toNat A) em et ∧ FX ROP S S' ∧ gI S' 1024 0 0 = jj (tsum (PTN em et n.toNat A) - tsum A) := by
  have t0 := hM.1.1.2.2.2.2.2.1
  have t1 := hM.1.1.2.2.2.2.2.2.1
  unfold f_X10_arePassed
  have C0 : RC (sI S 1024 0 0 0) A em et := RC_step hC (FX_sI (P := fun f _ => f = 1024) (FX_refl _ _) rfl) (by omega) (by omega) (FX_AR (FX_sI (P := fun f _ => f = 1024) (FX_refl _ _) rfl) (by omega) hC.1) rfl
  have F0 : FX ROP S (sI S 1024 0 0 0) := FX_sI (FX_refl _ _) (by unfold ROP; omega)
  have T0 : gI (sI S 1024 0 0 0) 1024 0 0 = jj (tsum A - tsum A) := by rw [gI_sI, if_pos ⟨rfl, rfl, rfl⟩, show tsum A - tsum A = 0 by omega]; rfl
  simp only [lt]
  generalize sI S 1024 0 0 0 = S0 at C0 F0 T0 ⊢
  have := wp_up (F := fun n' S1 k => f_X10_arePassed_b7 N n' (jj n) (jj k) S1) (P := fun k S1 => 0 ≤ k ∧ k ≤ n ∧ ∃ A1, NUM A1 M ∧ RC S1 A1 em et ∧ FX ROP S S1 ∧ PTN em et (n - k).toNat A1 = PTN em et n.toNat A ∧ A1 6 = A 6 + k ∧ gI S1 1024 0 0 = jj (tsum A1 - tsum A)) (Q := fun r => r.1 = jj (if n ≤ 9999 - A 6 then 1 else 0) ∧ RC r.2 (PTN em et n.toNat A) em et ∧ FX ROP S r.2 ∧ gI r.2 1024 0 0 = jj (tsum (PTN em et n.toNat A) - tsum A)) (E := n) ?_ ?_ n.toNat N 0 S0 (by omega) (by omega) ⟨Int.le_refl _, n0, A, hM, C0, F0, by rw [show n - 0 = n by omega], by omega, T0⟩
  · obtain ⟨⟨v, S'⟩, e, h1, h2⟩ := this
    simp only at h1
    rw [h1] at e
    exact ⟨S', e, h2⟩
  · intro n' S1 ⟨k0, k1, A1, M1, X1, F1, e1, e6, T1⟩
    have b6 := M1.1.1.2.2.2.2.2.2.1
    simp only [f_X10_arePassed_b7]
    rw [if_pos (Int32.le_refl _)]
    have ee : PTN em et n.toNat A = A1 := by rw [← e1, show (n - n).toNat = 0 by omega]; rfl
    rw [ee]
    refine wp_some ⟨?_, X1, F1, T1⟩
    rw [if_pos (by omega)]
    rfl
  · intro n' S1 k hk ⟨k0, k1, A1, M1, X1, F1, e1, e6, T1⟩ ih
    have b6 := M1.1.1.2.2.2.2.2.2.1
    have b60 := M1.1.1.2.2.2.2.2.1
    have g6 : gI S1 1000 0 6 = jj (A1 6) := X1.1 6 (by decide) (by decide)
    simp only [f_X10_arePassed_b7]
    rw [g6]
    simp (disch := omega) only [jj_of, jj_add, jj_sub, jj_mul, jj_neg, jj_le, jj_lt, jj_eq, jj_nat, chk_true (jj_inb _ _ _), chk_true (jj_nz _ _ _), lt]
    rw [if_neg (by omega)]
    refine wp_ite (fun q => ?_) (fun q => ?_)
    · have ee : PTN em et n.toNat A = A1 := by rw [← e1]; exact PTN_stop _ (by omega)
      rw [ee]
      refine wp_some ⟨?_, X1, F1, T1⟩
      rw [if_neg (by omega)]
    · obtain ⟨S2, e2, X2, F2⟩ := RC_keep hN M1 X1
      have MK := NUM_KPF M1
      obtain ⟨S3, e3, X3, F3, T3⟩ := r_pass (wf := 1) (tc := tsum A1 - tsum A) hN MK.1 X2.1 X2.2.1 (Or.inr rfl) X2.2.2 ((F2.1 1024 0 0 (by omega)).trans T1)
      rw [bnd_of e2, bnd_of e3]
      refine ih S3 ⟨by omega, by omega, PSF 1 em et (KPF A1), PSF_NUM MK (by rw [k6 M1]; omega), RC_step X2 F3 (by unfold STF; omega) (by unfold STF; omega) X3 (PSF_3 MK.1), FX_trans F1 (FX_trans (FX_sub F2 (fun f _ q => by unfold ROP; omega)) (FX_sub F3 (fun f _ q => by unfold STF at q; unfold ROP; omega))), ?_, by rw [PSF_6, k6 M1]; omega, ?_⟩
      · rw [← e1, show (n - k).toNat = (n - (k + 1)).toNat + 1 by omega]
        show _ = (if 9999 ≤ A1 6 then A1 else PTN em et (n - (k + 1)).toNat (PSF 1 em et (KPF A1)))
        rw [if_neg (by omega)]
      · rw [T3, tsum_KPF M1]
        congr 1
        omega
/-- a year -/
def YR1 (em et : Sem) (A : Int → Int) : Int → Int :=
  if A 7 % 6 = 0 ∨ A 7 % 6 = 1 then (if A 0 ≤ 0 ∨ A (11 + A 7 / 6 % 12) ≤ 0 then DRW A else STW 1 em et (DRW A) (A 7 % A 0) (A 7 / 6 % 12) (if A 7 % 4 ≤ 1 then 0 else 1))
  else if A 7 % 6 = 2 then TRF (DRW A)
  else if A 7 % 6 = 3 then (if A (23 + A 7 / 6 % 12) = 1 ∧ 1 + A 7 % 9 ≤ A 8 then PTF (DRW A) (A 7 / 6 % 12) (1 + A 7 % 9) else DRW A)
  else if 9999 ≤ A 6 then DRW A else PSF 1 em et (DRW A)
theorem YR1_ok {em et : Sem} {A : Int → Int} {M : Int} (hM : NUM A M) : NUM (YR1 em et A) M ∧ YR1 em et A 3 = A 3 := by
  have hO := hM.1
  have b0 := hO.1.2.2.2.2.2.2.2.1
  have h00 := hO.2.2.1.1
  have h04 := hO.2.2.1.2.1
  have D : NUM (DRW A) M := NUM_step hM DRW_AGR (DRW_OKS hO)
  have fin : ∀ B, AGR (DRW A) B → OKS B M → NUM B M ∧ B 3 = A 3 := fun B g o => ⟨NUM_step D g o, by rw [← g 3 (by decide) (by decide) (by decide), DRW_ne (by decide)]⟩
  have d0 : NUM (DRW A) M ∧ DRW A 3 = A 3 := ⟨D, DRW_ne (by decide)⟩
  unfold YR1
  by_cases q : A 7 % 6 = 0 ∨ A 7 % 6 = 1
  · rw [if_pos q]
    by_cases w : A 0 ≤ 0 ∨ A (11 + A 7 / 6 % 12) ≤ 0
    · rw [if_pos w]; exact d0
    · rw [if_neg w]
      have m0 := Int.emod_nonneg (A 7) (show A 0 ≠ 0 by omega)
      have m1 := Int.emod_lt_of_pos (A 7) (show 0 < A 0 by omega)
      have hr : (if A 7 % 4 ≤ 1 then (0 : Int) else 1) = 0 ∨ (if A 7 % 4 ≤ 1 then (0 : Int) else 1) = 1 := by split; exact Or.inl rfl; exact Or.inr rfl
      exact fin _ (STW_AGR D.1 (by omega) (by omega) hr) (STW_OKS D.1 ⟨by omega, by omega⟩ (by omega) (by omega) hr)
  · rw [if_neg q]
    by_cases q2 : A 7 % 6 = 2
    · rw [if_pos q2]; exact fin _ TRF_AGR (TRF_OKS D.1)
    · rw [if_neg q2]
      by_cases q3 : A 7 % 6 = 3
      · rw [if_pos q3]
        by_cases w : A (23 + A 7 / 6 % 12) = 1 ∧ 1 + A 7 % 9 ≤ A 8
        · rw [if_pos w]; exact fin _ (PTF_AGR (by omega) (by omega)) (PTF_OKS D.1 (by omega) (by omega) (by omega) (by rw [DRW_ne (by decide)]; exact w.2))
        · rw [if_neg w]; exact d0
      · rw [if_neg q3]
        by_cases w : 9999 ≤ A 6
        · rw [if_pos w]; exact d0
        · rw [if_neg w]; exact fin _ (PSF_AGR D.1) (PSF_OKS D.1 (by rw [DRW_ne (by decide)]; omega))
theorem c_year {S : St} {N : Nat} {A : Int → Int} {M W : Int} {em et : Sem} (hN : 4000 < N) (hC : XC S A M W em et) (hW : W < 100000000) : ∃ S', f_X2_passYear N 0 S = some S' ∧ XC S' (YR1 em et A) M (W + 1) em et ∧ FX XOP S S' := by
  have hO := hC.2.1.1
  have b0 := hO.1.2.2.2.2.2.2.2.1
  have b1 := hO.1.2.2.2.2.2.2.2.2.1
  have h00 := hO.2.2.1.1
  have h04 := hO.2.2.1.2.1
  obtain ⟨S1, e1, X1, F1⟩ := x_drawn hO hC.1.2.1
  have C1 : XC S1 (DRW A) M W em et := XC_step hC F1 (fun f a b => by omega) (fun f j a b c d => by omega) (fun j => by omega) X1 DRW_AGR (DRW_OKS hO)
  have G1 : FX XOP S S1 := FX_sub F1 (fun f j q => by unfold XOP; omega)
  have D0 : ∃ S', some S1 = some S' ∧ XC S' (DRW A) M (W + 1) em et ∧ FX XOP S S' := ⟨S1, rfl, ⟨C1.1, C1.2.1, WRT_mono C1.2.2.1 (by omega), C1.2.2.2⟩, G1⟩
  have c0 : 0 ≤ A 7 / 6 % 12 ∧ A 7 / 6 % 12 < 12 := by omega
  have dn : ∀ i, i ≠ 7 → DRW A i = A i := fun i h => DRW_ne h
  have e11 := X1.1.1 (A 7 / 6 % 12) c0.1 c0.2
  rw [dn _ (by omega)] at e11
  have cb := OKR_CB hO.1 hO.2.2.2 (A 7 / 6 % 12) c0.1 c0.2
  simp only at cb
  have t0 := hO.1.2.2.2.2.2.1
  have t1 := hO.1.2.2.2.2.2.2.1
  have w6 : gI S1 407 0 0 = jj (A 6) := X1.1.2.2.2.trans (by rw [dn 6 (by decide)])
  have w0 : gI S1 805 0 0 = jj (A 0) := (F1.1 805 0 0 (by omega)).trans hC.1.1.1
  unfold f_X2_passYear YR1
  rw [bnd_of e1]
  simp only [lt, jj_of]
  rw [jj_rem b0 (by omega) (by decide) (by decide), jj_rem b0 (by omega) (by decide) (by decide), jj_div b0 (by omega) (by decide) (by decide), jj_rem (by omega) (by omega) (by decide) (by decide), w6]
  have s48 : ∃ S', f_X2_passYear_b48 N 0 (jj (A 7)) (jj (A 7 / 6 % 12)) S1 = some S' ∧ XC S' (if A 0 ≤ 0 ∨ A (11 + A 7 / 6 % 12) ≤ 0 then DRW A else STW 1 em et (DRW A) (A 7 % A 0) (A 7 / 6 % 12) (if A 7 % 4 ≤ 1 then 0 else 1)) M (W + 1) em et ∧ FX XOP S S' := by
    unfold f_X2_passYear_b48
    rw [w0, chk_true (jj_inb c0.1 (by omega) (by omega)), jj_nat (by omega) (by omega), e11]
    simp (disch := omega) only [jj_of, jj_add, jj_sub, jj_mul, jj_neg, jj_le, jj_lt, jj_eq, jj_nat, chk_true (jj_inb _ _ _), chk_true (jj_nz _ _ _), lt]
    by_cases q : A 0 ≤ 0
    · rw [if_pos q, if_pos (Or.inl q)]; exact D0
    · rw [if_neg q]
      by_cases q2 : A (11 + A 7 / 6 % 12) ≤ 0
      · rw [if_pos q2, if_pos (Or.inr q2)]; exact D0
      · rw [if_neg q2, if_neg (show ¬ (A 0 ≤ 0 ∨ A (11 + A 7 / 6 % 12) ≤ 0) by omega), jj_rem (b := 4) b0 (by omega) (by omega) (by omega), jj_rem (b := A 0) b0 (by omega) (by omega) (by omega)]
        have m0 := Int.emod_nonneg (A 7) (show A 0 ≠ 0 by omega)
        have m1 := Int.emod_lt_of_pos (A 7) (show 0 < A 0 by omega)
        have hr : (if A 7 % 4 ≤ 1 then (0 : Int) else 1) = 0 ∨ (if A 7 % 4 ≤ 1 then (0 : Int) else 1) = 1 := by split; exact Or.inl rfl; exact Or.inr rfl
        obtain ⟨S2, e2, C2, F2⟩ := c_push (h := A 7 % A 0) (c := A 7 / 6 % 12) (rt := if A 7 % 4 ≤ 1 then 0 else 1) hN C1 hW ⟨m0, by rw [dn 0 (by decide)]; exact m1⟩ c0.1 c0.2 hr
        refine ⟨S2, ?_, C2, FX_trans G1 F2⟩
        unfold f_X2_passYear_b91
        simp (disch := omega) only [jj_of, jj_add, jj_sub, jj_mul, jj_neg, jj_le, jj_lt, jj_eq, jj_nat, chk_true (jj_inb _ _ _), chk_true (jj_nz _ _ _), lt]
        by_cases w : A 7 % 4 ≤ 1
        · rw [if_pos w] at e2 ⊢
          rw [bnd_of e2]
        · rw [if_neg w] at e2 ⊢
          rw [bnd_of e2]
  simp (disch := omega) only [jj_of, jj_add, jj_sub, jj_mul, jj_neg, jj_le, jj_lt, jj_eq, jj_nat, chk_true (jj_inb _ _ _), chk_true (jj_nz _ _ _), lt]
  by_cases q : A 7 % 6 = 0
  · rw [if_pos q, if_pos (Or.inl q)]; exact s48
  · rw [if_neg q]
    by_cases q1 : A 7 % 6 = 1
    · rw [if_pos q1, if_pos (Or.inr q1)]; exact s48
    · rw [if_neg q1, if_neg (show ¬ (A 7 % 6 = 0 ∨ A 7 % 6 = 1) by omega)]
      by_cases q2 : A 7 % 6 = 2
      · rw [if_pos q2, if_pos q2]
        obtain ⟨S2, e2, X2, F2⟩ := x_cut C1.1.2.1
        rw [bnd_of e2]
        have C2 := XC_step C1 F2 (fun f a b => by omega) (fun f j a b c d => by omega) (fun j => by omega) X2 TRF_AGR (TRF_OKS C1.2.1.1)
        exact ⟨S2, rfl, ⟨C2.1, C2.2.1, WRT_mono C2.2.2.1 (by omega), C2.2.2.2⟩, FX_trans G1 (FX_sub F2 (fun f j q => by unfold XOP; omega))⟩
      · rw [if_neg q2, if_neg q2]
        by_cases q3 : A 7 % 6 = 3
        · rw [if_pos q3, if_pos q3, bnd_of (x_canMend C1.2.1.1 C1.1.2.1 c0.1 (by omega) (by omega) (by omega)), dn _ (by omega), dn 8 (by decide)]
          by_cases w : A (23 + A 7 / 6 % 12) = 1 ∧ 1 + A 7 % 9 ≤ A 8
          · rw [if_pos w, if_neg (by decide), if_pos w]
            obtain ⟨S2, e2, X2, F2⟩ := x_mend (n := 1 + A 7 % 9) C1.1.2.1 c0.1 c0.2
            rw [bnd_of e2]
            have C2 := XC_step C1 F2 (fun f a b => by omega) (fun f j a b c d => by omega) (fun j => by omega) X2 (PTF_AGR c0.1 c0.2) (PTF_OKS C1.2.1.1 c0.1 c0.2 (by omega) (by rw [dn 8 (by decide)]; exact w.2))
            exact ⟨S2, rfl, ⟨C2.1, C2.2.1, WRT_mono C2.2.2.1 (by omega), C2.2.2.2⟩, FX_trans G1 (FX_sub F2 (fun f j q => by unfold XOP; omega))⟩
          · rw [if_neg w, if_pos rfl, if_neg w]; exact D0
        · rw [if_neg q3, if_neg q3]
          by_cases w : 9999 ≤ A 6
          · rw [if_pos w, if_pos w]; exact D0
          · rw [if_neg w, if_neg w]
            obtain ⟨S2, e2, C2, F2⟩ := c_pass hN C1 hW (by rw [dn 6 (by decide)]; omega)
            rw [bnd_of e2]
            exact ⟨S2, rfl, C2, FX_trans G1 F2⟩
