/-! CALLS: foretold. -/
def ASD (S : St) (A : Int → Int) : Prop := ∀ k : Int, 6 ≤ k → k < 41 → gI S 1025 0 k.toNat = jj (A k)
theorem r_setAside {S : St} {N : Nat} {A : Int → Int} (hN : 4000 < N) (hA : AR 1000 S A) : ∃ S', f_X10_setAside N S = some S' ∧ ASD S' A ∧ gI S' 1023 0 0 = jj 0 ∧ FX (fun f _ => f = 1025 ∨ f = 1023) S S' := by
  refine wp_up (F := fun n S1 k => f_X10_setAside_b3 N n (jj k) S1) (P := fun k S1 => 6 ≤ k ∧ FX (fun f _ => f = 1025) S S1 ∧ ∀ i : Int, 6 ≤ i → i < k → gI S1 1025 0 i.toNat = jj (A i)) (E := 41) ?_ ?_ 35 N 6 S (by decide) (by omega) ⟨by decide, FX_refl _ _, fun i a b => by omega⟩
  · intro n S1 ⟨k0, F1, h⟩
    rw [f_X10_setAside_b3]
    rw [if_pos (show (41 : Int32) ≤ jj 41 by rw [jj_of]; exact Int32.le_refl _)]
    refine wp_some ⟨fun i a b => ?_, ?_, FX_sI (FX_sub F1 (fun f _ q => Or.inl q)) (Or.inr rfl)⟩
    · rw [gI_sI, if_neg (by omega)]; exact h i a b
    · rw [gI_sI, if_pos ⟨rfl, rfl, rfl⟩]; rfl
  · intro n S1 k hk ⟨k0, F1, h⟩ ih
    have hk2 : ¬ 41 ≤ k := by omega
    have e := (F1.1 1000 0 _ (by omega)).trans (hA k (by omega) (by omega))
    simp only [f_X10_setAside_b3]
    simp (disch := omega) only [jj_of, jj_add, jj_sub, jj_mul, jj_neg, jj_le, jj_lt, jj_eq, jj_nat, chk_true (jj_inb _ _ _), chk_true (jj_nz _ _ _), lt, if_true, if_false, reduceIte, hk2, e]
    refine ih _ ⟨by omega, FX_sI F1 rfl, fun i a b => ?_⟩
    rw [gI_sI]
    by_cases w : i = k
    · rw [if_pos ⟨rfl, rfl, by rw [w]⟩, w]
    · rw [if_neg (fun z => w (by have := z.2.2; omega))]; exact h i a (by omega)
theorem r_putBack {S : St} {N : Nat} {A A1 : Int → Int} (hN : 4000 < N) (hA : AR 1000 S A1) (hs : ASD S A) : ∃ S', f_X10_putBack N S = some S' ∧ AR 1000 S' (fun i => if 6 ≤ i ∧ i < 41 then A i else A1 i) ∧ gI S' 1023 0 0 = jj 1 ∧ FX (fun f _ => f = 1000 ∨ f = 1023) S S' := by
  refine wp_up (F := fun n S1 k => f_X10_putBack_b3 N n (jj k) S1) (P := fun k S1 => 6 ≤ k ∧ FX (fun f _ => f = 1000) S S1 ∧ AR 1000 S1 (fun i => if 6 ≤ i ∧ i < k then A i else A1 i)) (E := 41) ?_ ?_ 35 N 6 S (by decide) (by omega) ⟨by decide, FX_refl _ _, AR_ext hA (fun i a b => by rw [if_neg (by omega)])⟩
  · intro n S1 ⟨k0, F1, h⟩
    rw [f_X10_putBack_b3]
    rw [if_pos (show (41 : Int32) ≤ jj 41 by rw [jj_of]; exact Int32.le_refl _)]
    refine wp_some ⟨fun i a b => ?_, ?_, FX_sI (FX_sub F1 (fun f _ q => Or.inl q)) (Or.inr rfl)⟩
    · rw [gI_sI, if_neg (by omega)]; exact h i a b
    · rw [gI_sI, if_pos ⟨rfl, rfl, rfl⟩]; rfl
  · intro n S1 k hk ⟨k0, F1, h⟩ ih
    have hk2 : ¬ 41 ≤ k := by omega
    have e := (F1.1 1025 0 _ (by omega)).trans (hs k k0 hk)
    simp only [f_X10_putBack_b3]
    simp (disch := omega) only [jj_of, jj_add, jj_sub, jj_mul, jj_neg, jj_le, jj_lt, jj_eq, jj_nat, chk_true (jj_inb _ _ _), chk_true (jj_nz _ _ _), lt, if_true, if_false, reduceIte, hk2, e]
    refine ih _ ⟨by omega, FX_sI F1 rfl, AR_ext (AR_set h (by omega)) (fun i a b => ?_)⟩
    rw [UP_at]
    by_cases w : i = k
    · rw [if_pos w, if_pos (by omega), w]
    · rw [if_neg w]
      by_cases w2 : 6 ≤ i ∧ i < k
      · rw [if_pos w2, if_pos (by omega)]
      · rw [if_neg w2, if_neg (by omega)]
def FTN (em et : Sem) : Nat → (Int → Int) → (Int → Int)
  | 0, A => A
  | m + 1, A => if 9999 ≤ A 6 then A else FTN em et m (PSF 0 em et A)
theorem FTN_stop {em et : Sem} {A : Int → Int} (m : Nat) (h : 9999 ≤ A 6) : FTN em et m A = A := by
  cases m with
  | zero => rfl
  | succ m => exact if_pos h
/-- what strokes without the book leave -/
def AG0 (A B : Int → Int) : Prop := ∀ i : Int, i < 6 ∨ 41 ≤ i → B i = A i
theorem STW_AG0 {em et : Sem} {A : Int → Int} {h c rt : Int} (h1 : 0 ≤ c) (h2 : c < 12) (hr : rt = 0 ∨ rt = 1) : AG0 A (STW 0 em et A h c rt) := fun i hi => by
  have : STW 0 em et A h c rt = STR em et (sgA A) A h c rt := if_pos rfl
  rw [this, STR_far h1 h2 hr i (by omega)]
theorem PSF_AG0 {em et : Sem} {A : Int → Int} (b0 : 0 ≤ A 7) : AG0 A (PSF 0 em et A) := fun i hi => by
  have d7 := DRW_7 b0
  unfold PSF
  by_cases q : A 0 ≤ 0
  · rw [if_pos q, UP_ne (by omega)]
  · rw [if_neg q, UP_ne (by omega)]
    by_cases w : A (11 + A 7 % 12) ≤ 0
    · rw [if_pos w, DRW_ne (by omega), DRW_ne (by omega)]
    · rw [if_neg w, STW_AG0 (by omega) (by omega) (by omega) i hi, DRW_ne (by omega), DRW_ne (by omega)]
theorem AG0_trans {A B C : Int → Int} (h : AG0 A B) (h2 : AG0 B C) : AG0 A C := fun i hi => (h2 i hi).trans (h i hi)
theorem c_behind {S : St} {N : Nat} {A : Int → Int} {M W n : Int} {em et : Sem} (hN : 4000 < N) (hC : XC S A M W em et) (hW : W + 60 < 100000000) (n0 : 0 ≤ n) (n1 : n ≤ 60) : ∃ S', f_X7_behind N S (jj n) = some S' ∧ SHX S' 62 0 (FTN em et n.toNat A) ∧ FX (PUP 62) S S' ∧ WRT S' (W + 60) := by
  obtain ⟨S0, e0, T0, F0, W0⟩ := becomes_SHT (j := 62) (k := 0) (by decide) (SHX_SHT hC.1.2.1)
  unfold f_X7_behind
  rw [bnd_of e0]
  obtain ⟨wr0, v1, v2, v3⟩ := hC.2.2.1 0 (by decide)
  have fin : ∀ (S1 : St) (A1 : Int → Int) (wr : Int), FX (PUP 62) S S1 → gI S1 403 62 0 = jj wr → 0 ≤ wr → wr ≤ W + 60 → WRT S1 (W + 60) := by
    intro S1 A1 wr F1 g g0 g1 j hj
    by_cases q : j = 62
    · rw [q]; exact ⟨wr, g, g0, g1⟩
    · obtain ⟨w', a, b, c⟩ := hC.2.2.1 j hj
      exact ⟨w', (F1.1 403 j 0 (by unfold PUP; omega)).trans a, b, by omega⟩
  refine wp_up (F := fun n' S1 k => f_X7_behind_b20 N n' (jj n) (jj k) S1) (P := fun k S1 => 0 ≤ k ∧ k ≤ n ∧ ∃ A1 wr, OKS A1 M ∧ SHX S1 62 0 A1 ∧ AG0 A A1 ∧ FX (PUP 62) S S1 ∧ FTN em et (n - k).toNat A1 = FTN em et n.toNat A ∧ gI S1 403 62 0 = jj wr ∧ 0 ≤ wr ∧ wr ≤ W + k) (E := n) ?_ ?_ n.toNat N 0 S0 (by omega) (by omega) ⟨by decide, n0, A, wr0, hC.2.1.1, SHT_SHX T0, fun _ _ => rfl, FX_sub F0 (fun f j q => by unfold SHP at q; unfold PUP; omega), by rw [show n - 0 = n by omega], W0.trans v1, v2, by omega⟩
  · intro n' S1 ⟨k0, k1, A1, wr, O1, X1, g1, F1, e1, w1, w2, w3⟩
    simp only [f_X7_behind_b20]
    rw [if_pos (Int32.le_refl _)]
    have ee : FTN em et n.toNat A = A1 := by rw [← e1, show (n - n).toNat = 0 by omega]; rfl
    rw [ee]
    exact wp_some ⟨X1, F1, fin S1 A1 wr F1 w1 w2 (by omega)⟩
  · intro n' S1 k hk ⟨k0, k1, A1, wr, O1, X1, g1, F1, e1, w1, w2, w3⟩ ih
    have b6 := O1.1.2.2.2.2.2.1
    have b6' := O1.1.2.2.2.2.2.2.1
    simp only [f_X7_behind_b20]
    rw [X1.1.2.2.2]
    simp (disch := omega) only [jj_of, jj_add, jj_sub, jj_mul, jj_neg, jj_le, jj_lt, jj_eq, jj_nat, chk_true (jj_inb _ _ _), chk_true (jj_nz _ _ _), lt]
    rw [if_neg (show ¬ n ≤ k by omega)]
    refine wp_ite (fun q => ?_) (fun q => ?_)
    · have ee : FTN em et n.toNat A = A1 := by rw [← e1]; exact FTN_stop _ q
      rw [ee]
      exact wp_some ⟨X1, F1, fin S1 A1 wr F1 w1 w2 (by omega)⟩
    · have h04 := hC.2.1.1.2.2.1.2.1
      obtain ⟨S2, wr', e2, X2, F2, y1, y2, y3⟩ := x_pass (wf := 0) hN (by decide) O1 X1 (STG_ext (STG_FX F1 (by unfold PUP; omega) (by unfold PUP; omega) (HDR_STG hC.1.1)) (g1 0 (by decide)).symm (fun i a b => (g1 _ (by omega)).symm) h04) (FX_CLW F1 (by unfold PUP; omega) (by unfold PUP; omega) (by unfold PUP; omega) hC.2.2.2) (Or.inl rfl) w1 w2 (by omega)
      rw [bnd_of e2]
      refine ih S2 ⟨by omega, by omega, PSF 0 em et A1, wr', PSF_OKS O1 (by omega), X2, AG0_trans g1 (PSF_AG0 O1.1.2.2.2.2.2.2.2.1), FX_trans F1 F2, ?_, y1, by omega, by omega⟩
      rw [← e1, show (n - k).toNat = (n - (k + 1)).toNat + 1 by omega]
      show _ = (if 9999 ≤ A1 6 then A1 else FTN em et (n - (k + 1)).toNat (PSF 0 em et A1))
      rw [if_neg q]
theorem r_ahead {S : St} {N : Nat} {A : Int → Int} {M n what which : Int} {em et : Sem} (hN : 4000 < N) (hM : NUM A M) (hC : RC S A em et) (n0 : 0 ≤ n) (n1 : n ≤ 60) (v : Int32) (hv : ∀ S1, AR 1000 S1 (FTN em et n.toNat A) → OKS (FTN em et n.toNat A) M → AG0 A (FTN em et n.toNat A) → ∀ (X : Int32 → Option (Int32 × St)), (if jj what = (0 : Int32) then chk (inb ((11 : Int32) + jj which) 3015) (X (gI S1 1000 0 ((11 : Int32) + jj which).toNatClampNeg)) else if jj what = (1 : Int32) then chk (inb ((35 : Int32) + jj which) 3015) (X (gI S1 1000 0 ((35 : Int32) + jj which).toNatClampNeg)) else bnd (f_X10_tornNow N S1) (fun q4 => X q4)) = X v) : ∃ S', f_X10_foretold_b54 N (jj n) (jj what) (jj which) S = some (v, S') ∧ RC S' A em et ∧ FX (fun f _ => f = 1000 ∨ (1020 ≤ f ∧ f ≤ 1025)) S S' := by
  obtain ⟨S0, e0, a0, w0, F0⟩ := r_setAside hN hC.1
  unfold f_X10_foretold_b54
  rw [bnd_of e0]
  have A0 := FX_AR F0 (f := 1000) (by omega) hC.1
  have := wp_up (F := fun n' S1 k => f_X10_foretold_b61 N n' (jj n) (jj what) (jj which) (jj k) S1) (P := fun k S1 => 0 ≤ k ∧ k ≤ n ∧ ∃ A1, OKS A1 M ∧ AR 1000 S1 A1 ∧ AG0 A A1 ∧ FX (fun f _ => f = 1000 ∨ (1020 ≤ f ∧ f ≤ 1025)) S S1 ∧ FX STF S0 S1 ∧ FTN em et (n - k).toNat A1 = FTN em et n.toNat A) (Q := fun r => r.1 = v ∧ AR 1000 r.2 A ∧ gI r.2 1023 0 0 = jj 1 ∧ FX (fun f _ => f = 1000 ∨ (1020 ≤ f ∧ f ≤ 1025)) S r.2) (E := n) (by
    intro n' S1 ⟨k0, k1, A1, O1, A1', g1, F1, F2, e1⟩
    have ee : FTN em et n.toNat A = A1 := by rw [← e1, show (n - n).toNat = 0 by omega]; rfl
    rw [ee] at hv
    have := hv S1 A1' O1 g1 (fun s0 => f_X10_foretold_b127 N s0 S1)
    simp only [f_X10_foretold_b61]
    rw [if_pos (Int32.le_refl _), this]
    unfold f_X10_foretold_b127
    obtain ⟨S2, e2, A2, w2, F3⟩ := r_putBack hN A1' (fun k a b => (F2.1 1025 0 _ (by unfold STF; omega)).trans (a0 k a b))
    rw [bnd_of e2]
    refine wp_some ⟨rfl, AR_ext A2 (fun i a b => ?_), w2, FX_trans F1 (FX_sub F3 (fun f _ q => by omega))⟩
    by_cases z : 6 ≤ i ∧ i < 41
    · rw [if_pos z]
    · rw [if_neg z, g1 i (by omega)]) (by
    intro n' S1 k hk ⟨k0, k1, A1, O1, A1', g1, F1, F2, e1⟩ ih
    have b6 := O1.1.2.2.2.2.2.1
    have b6' := O1.1.2.2.2.2.2.2.1
    have e6 : gI S1 1000 0 6 = jj (A1 6) := A1' 6 (by decide) (by decide)
    simp only [f_X10_foretold_b61]
    rw [if_neg (show ¬ jj n ≤ jj k by rw [jj_le (by omega) (by omega) (by omega) (by omega)]; omega), e6]
    by_cases q : 9999 ≤ A1 6
    · rw [if_pos (show (9999 : Int32) ≤ jj (A1 6) by rw [jj_of, jj_le (by decide) (by decide) (by omega) (by omega)]; exact q)]
      simp only [lt, jj_of, jj_add]
      refine ih S1 ⟨by omega, by omega, A1, O1, A1', g1, F1, F2, ?_⟩
      rw [← e1, FTN_stop _ q, FTN_stop _ q]
    · rw [if_neg (show ¬ (9999 : Int32) ≤ jj (A1 6) by rw [jj_of, jj_le (by decide) (by decide) (by omega) (by omega)]; exact q)]
      obtain ⟨S2, e2, A2, F3, -⟩ := r_pass (wf := 0) (em := em) (et := et) (tc := (gI S1 1024 0 0).toInt) hN O1 A1' (by rw [g1 3 (by decide)]; exact RLW_of hC.2.1 (fun i => F1.1 1002 0 i (by omega))) (Or.inl rfl) ((F2.1 1023 0 0 (by unfold STF; omega)).trans w0) (jj_self _).symm
      rw [bnd_of e2]
      simp only [lt, jj_of, jj_add]
      refine ih S2 ⟨by omega, by omega, PSF 0 em et A1, PSF_OKS O1 (by omega), A2, AG0_trans g1 (PSF_AG0 O1.1.2.2.2.2.2.2.2.1), FX_trans F1 (FX_sub F3 (fun f _ q => by unfold STF at q; omega)), FX_trans F2 F3, ?_⟩
      rw [← e1, show (n - k).toNat = (n - (k + 1)).toNat + 1 by omega]
      show _ = (if 9999 ≤ A1 6 then A1 else FTN em et (n - (k + 1)).toNat (PSF 0 em et A1))
      rw [if_neg q]) n.toNat N 0 S0 (by omega) (by omega) ⟨by decide, n0, A, hM.1, A0, fun _ _ => rfl, FX_sub F0 (fun f _ q => by omega), FX_refl _ _, by rw [show n - 0 = n by omega]⟩
  obtain ⟨⟨v', S'⟩, e, h1, h2, h3, h4⟩ := this
  simp only at h1
  rw [h1] at e
  exact ⟨S', e, ⟨h2, RLW_of hC.2.1 (fun i => h4.1 1002 0 i (by omega)), h3⟩, h4⟩
