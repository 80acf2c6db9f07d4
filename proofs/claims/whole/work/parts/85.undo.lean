/-! CALLS that do: years of the reference, undo. -/
theorem r_year {S : St} {N : Nat} {A : Int → Int} {M : Int} {em et : Sem} (hN : 4000 < N) (hM : NUM A M) (hC : RC S A em et) : ∃ S1, f_X10_drawnBy S (jj 1) = some (jj 0, S1) ∧ ∃ S', f_X10_happens N S1 (jj (A 7)) = some S' ∧ RC S' (YR1 em et A) em et ∧ FX ROP S S' := by
  have hO := hM.1
  have b0 := hO.1.2.2.2.2.2.2.2.1
  have b1 := hO.1.2.2.2.2.2.2.2.2.1
  have h00 := hO.2.2.1.1
  have h04 := hO.2.2.1.2.1
  obtain ⟨S1, e1, A1, F1⟩ := r_drawn (m := 1) hO hC.1 (by decide) (by decide)
  refine ⟨S1, by rw [e1, show A 7 % 1 = 0 by omega], ?_⟩
  have C1 : RC S1 (DRW A) em et := RC_step hC F1 (by omega) (by omega) A1 (DRW_ne (by decide))
  have G1 : FX ROP S S1 := FX_sub F1 (fun f _ q => by unfold ROP; omega)
  have D : NUM (DRW A) M := NUM_step hM DRW_AGR (DRW_OKS hO)
  have D0 : ∃ S', some S1 = some S' ∧ RC S' (DRW A) em et ∧ FX ROP S S' := ⟨S1, rfl, C1, G1⟩
  have c0 : 0 ≤ A 7 / 6 % 12 ∧ A 7 / 6 % 12 < 12 := by omega
  have dn : ∀ i, i ≠ 7 → DRW A i = A i := fun i h => DRW_ne h
  have e11 := A1 (11 + A 7 / 6 % 12) (by omega) (by omega)
  rw [dn _ (by omega)] at e11
  have cb := OKR_CB hO.1 hO.2.2.2 (A 7 / 6 % 12) c0.1 c0.2
  simp only at cb
  have t0 := hO.1.2.2.2.2.2.1
  have t1 := hO.1.2.2.2.2.2.2.1
  have w6 : gI S1 1000 0 6 = jj (A 6) := (A1 6 (by decide) (by decide)).trans (by rw [dn 6 (by decide)])
  have w0 : gI S1 1000 0 0 = jj (A 0) := (A1 0 (by decide) (by decide)).trans (by rw [dn 0 (by decide)])
  unfold f_X10_happens YR1
  simp only [lt, jj_of]
  rw [jj_rem b0 (by omega) (by decide) (by decide), jj_rem b0 (by omega) (by decide) (by decide), jj_div b0 (by omega) (by decide) (by decide), jj_rem (by omega) (by omega) (by decide) (by decide), w6]
  have s48 : ∃ S', f_X10_happens_b44 N (jj (A 7)) (jj (A 7 / 6 % 12)) S1 = some S' ∧ RC S' (if A 0 ≤ 0 ∨ A (11 + A 7 / 6 % 12) ≤ 0 then DRW A else STW 1 em et (DRW A) (A 7 % A 0) (A 7 / 6 % 12) (if A 7 % 4 ≤ 1 then 0 else 1)) em et ∧ FX ROP S S' := by
    unfold f_X10_happens_b44
    rw [w0]
    simp (disch := omega) only [jj_of, jj_add, jj_sub, jj_mul, jj_neg, jj_le, jj_lt, jj_eq, jj_nat, chk_true (jj_inb _ _ _), chk_true (jj_nz _ _ _), lt, e11]
    by_cases q : A 0 ≤ 0
    · rw [if_pos q, if_pos (Or.inl q)]; exact D0
    · rw [if_neg q]
      by_cases q2 : A (11 + A 7 / 6 % 12) ≤ 0
      · rw [if_pos q2, if_pos (Or.inr q2)]; exact D0
      · rw [if_neg q2, if_neg (show ¬ (A 0 ≤ 0 ∨ A (11 + A 7 / 6 % 12) ≤ 0) by omega), jj_rem (b := 4) b0 (by omega) (by omega) (by omega), jj_rem (b := A 0) b0 (by omega) (by omega) (by omega)]
        have m0 := Int.emod_nonneg (A 7) (show A 0 ≠ 0 by omega)
        have m1 := Int.emod_lt_of_pos (A 7) (show 0 < A 0 by omega)
        have hr : (if A 7 % 4 ≤ 1 then (0 : Int) else 1) = 0 ∨ (if A 7 % 4 ≤ 1 then (0 : Int) else 1) = 1 := by split; exact Or.inl rfl; exact Or.inr rfl
        obtain ⟨S2, e2, A2, F2, -⟩ := r_strokeS (h := A 7 % A 0) (c := A 7 / 6 % 12) (rt := if A 7 % 4 ≤ 1 then 0 else 1) (wf := 1) (tc := (gI S1 1024 0 0).toInt) hN D.1 C1.1 C1.2.1 ⟨m0, by rw [dn 0 (by decide)]; exact m1⟩ c0.1 c0.2 hr (Or.inr rfl) C1.2.2 (jj_self _).symm
        refine ⟨S2, ?_, RC_step C1 F2 (by unfold STF; omega) (by unfold STF; omega) A2 (STW_3 D.1 c0.1 c0.2 hr), FX_trans G1 (FX_sub F2 (fun f _ q => by unfold STF at q; unfold ROP; omega))⟩
        unfold f_X10_happens_b87
        simp (disch := omega) only [jj_of, jj_add, jj_sub, jj_mul, jj_neg, jj_le, jj_lt, jj_eq, jj_nat, chk_true (jj_inb _ _ _), chk_true (jj_nz _ _ _), lt]
        by_cases w : A 7 % 4 ≤ 1
        · rw [if_pos w] at e2 ⊢
          rw [bnd_of e2]
        · rw [if_neg w] at e2 ⊢
          rw [bnd_of e2]
  simp (disch := omega) only [jj_of, jj_add, jj_sub, jj_mul, jj_neg, jj_le, jj_lt, jj_eq, jj_nat, chk_true (jj_inb _ _ _), chk_true (jj_nz _ _ _), lt]
  by_cases q : A 7 % 6 = 0
  · rw [if_pos q, if_pos (Or.inl q)]; exact s48
  · rw [if_neg q]
    by_cases q1 : A 7 % 6 = 1
    · rw [if_pos q1, if_pos (Or.inr q1)]; exact s48
    · rw [if_neg q1, if_neg (show ¬ (A 7 % 6 = 0 ∨ A 7 % 6 = 1) by omega)]
      by_cases q2 : A 7 % 6 = 2
      · rw [if_pos q2, if_pos q2]
        obtain ⟨S2, e2, A2, F2⟩ := r_trim C1.1
        rw [bnd_of e2]
        exact ⟨S2, rfl, RC_step C1 F2 (by omega) (by omega) A2 (TRF_far (by decide) (by decide)), FX_trans G1 (FX_sub F2 (fun f _ q => by unfold ROP; omega))⟩
      · rw [if_neg q2, if_neg q2]
        by_cases q3 : A 7 % 6 = 3
        · rw [if_pos q3, if_pos q3, bnd_of (r_canPatch D.1 C1.1 (by omega) (by omega) (by omega) (by omega)), dn _ (by omega), dn 8 (by decide)]
          by_cases w : A (23 + A 7 / 6 % 12) = 1 ∧ 1 + A 7 % 9 ≤ A 8
          · rw [if_pos (show (0 ≤ A 7 / 6 % 12 ∧ A 7 / 6 % 12 ≤ 11) ∧ (1 ≤ 1 + A 7 % 9 ∧ 1 + A 7 % 9 ≤ 99) ∧ A (23 + A 7 / 6 % 12) = 1 ∧ 1 + A 7 % 9 ≤ A 8 from ⟨by omega, by omega, w⟩), if_neg (by decide), if_pos w]
            obtain ⟨S2, e2, A2, F2⟩ := r_patch (n := 1 + A 7 % 9) C1.1 c0.1 c0.2
            rw [bnd_of e2]
            exact ⟨S2, rfl, RC_step C1 F2 (by omega) (by omega) A2 (PTF_AGR c0.1 c0.2 3 (by decide) (by decide) (by decide)).symm, FX_trans G1 (FX_sub F2 (fun f _ q => by unfold ROP; omega))⟩
          · rw [if_neg (show ¬ ((0 ≤ A 7 / 6 % 12 ∧ A 7 / 6 % 12 ≤ 11) ∧ (1 ≤ 1 + A 7 % 9 ∧ 1 + A 7 % 9 ≤ 99) ∧ A (23 + A 7 / 6 % 12) = 1 ∧ 1 + A 7 % 9 ≤ A 8) from fun z => w z.2.2), if_pos rfl, if_neg w]; exact D0
        · rw [if_neg q3, if_neg q3]
          by_cases w : 9999 ≤ A 6
          · rw [if_pos w, if_pos w]; exact D0
          · rw [if_neg w, if_neg w]
            obtain ⟨S2, e2, A2, F2, -⟩ := r_pass (wf := 1) (tc := (gI S1 1024 0 0).toInt) hN D.1 C1.1 C1.2.1 (Or.inr rfl) C1.2.2 (jj_self _).symm
            rw [bnd_of e2]
            exact ⟨S2, rfl, RC_step C1 F2 (by unfold STF; omega) (by unfold STF; omega) A2 (PSF_3 D.1), FX_trans G1 (FX_sub F2 (fun f _ q => by unfold STF at q; unfold ROP; omega))⟩
def YRN (em et : Sem) : Nat → (Int → Int) → (Int → Int)
  | 0, A => A
  | m + 1, A => YRN em et m (YR1 em et A)
def yok (s n : Int) : Prop := (0 ≤ s ∧ s ≤ 9999) ∧ 1 ≤ n ∧ n ≤ 40
def YRS (em et : Sem) (A : Int → Int) (s n : Int) : Int → Int := YRN em et n.toNat (UP (KPF A) 7 (s * 2 + 281))
theorem c_years1 {S : St} {N : Nat} {A : Int → Int} {M W s n : Int} {em et : Sem} (hN : 4000 < N) (hC : XC S A M W em et) (hW : W + 60 < 100000000) (hy : yok s n) : ∃ S', f_X9_years N S (jj s) (jj n) = some (jj (YRS em et A s n 6), S') ∧ XC S' (YRS em et A s n) M (W + 60) em et ∧ FX XOP S S' := by
  obtain ⟨⟨y1, y2⟩, y3, y4⟩ := hy
  obtain ⟨S1, e1, C1, F1⟩ := c_keep hC
  unfold f_X9_years
  simp (disch := omega) only [jj_of, jj_add, jj_sub, jj_mul, jj_neg, jj_le, jj_lt, jj_eq, jj_nat, chk_true (jj_inb _ _ _), chk_true (jj_nz _ _ _), lt]
  rw [if_neg (by omega), if_neg (by omega), if_neg (by omega), if_pos (by omega), bnd_of e1]
  have ok := UP_OKS (k := 7) (v := s * 2 + 281) C1.2.1.1 (Or.inr ⟨rfl, by omega, by omega⟩)
  have C2 : XC (sI S1 408 0 0 (jj (s * 2 + 281))) (UP (KPF A) 7 (s * 2 + 281)) M W em et := XC_step (P := fun f j => f = 408 ∧ j = 0) C1 (FX_sI (FX_refl _ _) ⟨rfl, rfl⟩) (fun f a b => by omega) (fun f j a b c d => by omega) (fun j => by omega) (SHX_draw C1.1.2.1) (fun i a b c => (UP_ne (by omega)).symm) ok
  have F2 : FX XOP S (sI S1 408 0 0 (jj (s * 2 + 281))) := FX_sI F1 (by unfold XOP; omega)
  generalize sI S1 408 0 0 (jj (s * 2 + 281)) = S2 at C2 F2 ⊢
  have := wp_up (F := fun n' S3 k => f_X9_years_b50 N n' (jj n) (jj k) S3) (P := fun k S3 => 0 ≤ k ∧ k ≤ n ∧ ∃ A3, XC S3 A3 M (W + k) em et ∧ FX XOP S S3 ∧ YRN em et (n - k).toNat A3 = YRS em et A s n) (Q := fun r => r.1 = jj (YRS em et A s n 6) ∧ XC r.2 (YRS em et A s n) M (W + 60) em et ∧ FX XOP S r.2) (E := n) ?_ ?_ n.toNat N 0 S2 (by omega) (by omega) ⟨Int.le_refl _, by omega, _, ⟨C2.1, C2.2.1, WRT_mono C2.2.2.1 (by omega), C2.2.2.2⟩, F2, by rw [show n - 0 = n by omega]; rfl⟩
  · obtain ⟨⟨v, S'⟩, e, h1, h2, h3⟩ := this
    simp only at h1
    rw [h1] at e
    exact ⟨S', e, h2, h3⟩
  · intro n' S3 ⟨k0, k1, A3, X3, F3, e3⟩
    simp only [f_X9_years_b50]
    rw [if_pos (Int32.le_refl _), X3.1.2.1.1.2.2.2]
    have ee : YRS em et A s n = A3 := by rw [← e3, show (n - n).toNat = 0 by omega]; rfl
    rw [ee]
    exact wp_some ⟨rfl, ⟨X3.1, X3.2.1, WRT_mono X3.2.2.1 (by omega), X3.2.2.2⟩, F3⟩
  · intro n' S3 k hk ⟨k0, k1, A3, X3, F3, e3⟩ ih
    simp only [f_X9_years_b50]
    simp (disch := omega) only [jj_of, jj_add, jj_sub, jj_mul, jj_neg, jj_le, jj_lt, jj_eq, jj_nat, chk_true (jj_inb _ _ _), chk_true (jj_nz _ _ _), lt]
    rw [if_neg (by omega)]
    obtain ⟨S4, e4, X4, F4⟩ := c_year hN X3 (by omega)
    rw [bnd_of e4]
    refine ih S4 ⟨by omega, by omega, YR1 em et A3, by rw [show W + (k + 1) = W + k + 1 by omega]; exact X4, FX_trans F3 F4, ?_⟩
    rw [← e3, show (n - k).toNat = (n - (k + 1)).toNat + 1 by omega]
    rfl
theorem c_years0 {S : St} {N : Nat} {s n : Int} (hy : ¬ yok s n) (b1 : -2147483648 ≤ s) (b2 : s ≤ 2147483647) (b3 : -2147483648 ≤ n) (b4 : n ≤ 2147483647) : f_X9_years N S (jj s) (jj n) = some (jj (-1), S) := by
  unfold f_X9_years
  simp (disch := omega) only [jj_of, jj_add, jj_sub, jj_mul, jj_neg, jj_le, jj_lt, jj_eq, jj_nat, chk_true (jj_inb _ _ _), chk_true (jj_nz _ _ _), lt]
  by_cases q1 : s < 0
  · rw [if_pos q1]
  · rw [if_neg q1]
    by_cases q2 : 9999 < s
    · rw [if_pos q2]
    · rw [if_neg q2]
      by_cases q3 : n < 1
      · rw [if_pos q3]
      · rw [if_neg q3, if_neg (fun z => hy ⟨⟨by omega, by omega⟩, by omega, z⟩)]
theorem rc_years1 {S : St} {N : Nat} {A : Int → Int} {M s n : Int} {em et : Sem} (hN : 4000 < N) (hM : NUM A M) (hC : RC S A em et) (hy : yok s n) : ∃ S', f_X10_years N S (jj s) (jj n) = some (jj (YRS em et A s n 6), S') ∧ RC S' (YRS em et A s n) em et ∧ FX ROP S S' := by
  obtain ⟨⟨y1, y2⟩, y3, y4⟩ := hy
  obtain ⟨S1, e1, C1, F1⟩ := RC_keep hN hM hC
  have MK := NUM_KPF hM
  unfold f_X10_years
  simp only [jj_of]
  rw [bnd_of (q_isIn2 (by omega) (by omega) (by decide) (by decide) (by decide) (by decide)), if_pos (show 0 ≤ s ∧ s ≤ 9999 from ⟨y1, y2⟩), if_neg (by decide), bnd_of (q_isIn2 (by omega) (by omega) (by decide) (by decide) (by decide) (by decide)), if_pos (show 1 ≤ n ∧ n ≤ 40 from ⟨y3, y4⟩), if_neg (by decide), bnd_of e1]
  simp only [lt, jj_mul, jj_add]
  have ok := UP_OKS (k := 7) (v := s * 2 + 281) MK.1 (Or.inr ⟨rfl, by omega, by omega⟩)
  have M2 : NUM (UP (KPF A) 7 (s * 2 + 281)) M := NUM_step MK (fun i a b c => (UP_ne (by omega)).symm) ok
  have C2 : RC (sI S1 1000 0 7 (jj (s * 2 + 281))) (UP (KPF A) 7 (s * 2 + 281)) em et := RC_step (P := fun f _ => f = 1000) C1 (FX_sI (FX_refl _ _) rfl) (by omega) (by omega) (AR_set C1.1 (k := 7) (by decide)) (UP_ne (by decide))
  have F2 : FX ROP S (sI S1 1000 0 7 (jj (s * 2 + 281))) := FX_sI (FX_sub F1 (fun f _ q => by unfold ROP; omega)) (by unfold ROP; omega)
  generalize sI S1 1000 0 7 (jj (s * 2 + 281)) = S2 at C2 F2 ⊢
  have := wp_up (F := fun n' S3 k => f_X10_years_b43 N n' (jj n) (jj k) S3) (P := fun k S3 => 0 ≤ k ∧ k ≤ n ∧ ∃ A3, NUM A3 M ∧ RC S3 A3 em et ∧ FX ROP S S3 ∧ YRN em et (n - k).toNat A3 = YRS em et A s n) (Q := fun r => r.1 = jj (YRS em et A s n 6) ∧ RC r.2 (YRS em et A s n) em et ∧ FX ROP S r.2) (E := n) ?_ ?_ n.toNat N 0 S2 (by omega) (by omega) ⟨Int.le_refl _, by omega, _, M2, C2, F2, by rw [show n - 0 = n by omega]; rfl⟩
  · obtain ⟨⟨v, S'⟩, e, h1, h2⟩ := this
    simp only at h1
    rw [h1] at e
    exact ⟨S', e, h2⟩
  · intro n' S3 ⟨k0, k1, A3, M3, X3, F3, e3⟩
    have g6 : gI S3 1000 0 6 = jj (A3 6) := X3.1 6 (by decide) (by decide)
    simp only [f_X10_years_b43]
    rw [if_pos (Int32.le_refl _), g6]
    have ee : YRS em et A s n = A3 := by rw [← e3, show (n - n).toNat = 0 by omega]; rfl
    rw [ee]
    exact wp_some ⟨rfl, X3, F3⟩
  · intro n' S3 k hk ⟨k0, k1, A3, M3, X3, F3, e3⟩ ih
    have g7 : gI S3 1000 0 7 = jj (A3 7) := X3.1 7 (by decide) (by decide)
    obtain ⟨S4, e4, S5, e5, X5, F5⟩ := r_year hN M3 X3
    simp only [f_X10_years_b43]
    rw [g7]
    simp (disch := omega) only [jj_of, jj_add, jj_sub, jj_mul, jj_neg, jj_le, jj_lt, jj_eq, jj_nat, chk_true (jj_inb _ _ _), chk_true (jj_nz _ _ _), lt]
    rw [if_neg (by omega), bnd_of e4, if_pos rfl, bnd_of e5]
    refine ih S5 ⟨by omega, by omega, YR1 em et A3, (YR1_ok M3).1, X5, FX_trans F3 F5, ?_⟩
    rw [← e3, show (n - k).toNat = (n - (k + 1)).toNat + 1 by omega]
    rfl
theorem rc_years0 {S : St} {N : Nat} {s n : Int} (hy : ¬ yok s n) (b1 : -2147483648 ≤ s) (b2 : s ≤ 2147483647) (b3 : -2147483648 ≤ n) (b4 : n ≤ 2147483647) : f_X10_years N S (jj s) (jj n) = some (jj (-1), S) := by
  unfold f_X10_years
  simp only [jj_of]
  rw [bnd_of (q_isIn2 b1 b2 (by decide) (by decide) (by decide) (by decide)), bnd_of (q_isIn2 b3 b4 (by decide) (by decide) (by decide) (by decide))]
  by_cases q1 : 0 ≤ s ∧ s ≤ 9999
  · rw [if_pos q1, if_neg (by decide), if_neg (show ¬ (1 ≤ n ∧ n ≤ 40) from fun z => hy ⟨q1, z⟩), if_pos rfl]
    rfl
  · rw [if_neg q1, if_pos rfl]
    rfl
theorem YRS_NUM {em et : Sem} {A : Int → Int} {M s n : Int} (hM : NUM A M) (hy : yok s n) : NUM (YRS em et A s n) M := by
  have MK := NUM_KPF hM
  obtain ⟨⟨y1, y2⟩, y3, y4⟩ := hy
  have ok := UP_OKS (k := 7) (v := s * 2 + 281) MK.1 (Or.inr ⟨rfl, by omega, by omega⟩)
  have M2 : NUM (UP (KPF A) 7 (s * 2 + 281)) M := NUM_step MK (fun i a b c => (UP_ne (by omega)).symm) ok
  have : ∀ (m : Nat) (B : Int → Int), NUM B M → NUM (YRN em et m B) M := by
    intro m
    induction m with
    | zero => intro B h; exact h
    | succ m ih => intro B h; exact ih _ (YR1_ok h).1
  exact this _ _ M2
