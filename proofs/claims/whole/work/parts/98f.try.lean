/-! STROKES that are tried. -/
def ST0 (em et : Sem) (A : Int → Int) (h w : Int) : Int → Int := STW 0 em et A h (w / 2) (w % 2)
def TRP (f j : Nat) : Prop := (200 ≤ f ∧ f ≤ 205) ∨ (400 ≤ f ∧ f ≤ 408 ∧ 62 ≤ j) ∨ (704 ≤ f ∧ f ≤ 707)
theorem ST0_OKS {em et : Sem} {A : Int → Int} {h w M : Int} (hO : OKS A M) (h0 : 0 ≤ h ∧ h < 4) (w0 : 0 ≤ w) (w1 : w < 24) : OKS (ST0 em et A h w) M := STW_OKS hO h0 (by omega) (by omega) (by omega)
theorem ST0_AG0 {em et : Sem} {A : Int → Int} {h w : Int} (w0 : 0 ≤ w) (w1 : w < 24) : AG0 A (ST0 em et A h w) := STW_AG0 (by omega) (by omega) (by omega)
theorem c_tried0 {S1 : St} {N at_ : Nat} {A1 : Int → Int} {M h w : Int} (ha : at_ < 3) (O1 : OKS A1 M) (L1 : LAY S1 (62 + at_) A1) (w0 : 0 ≤ w) (w1 : w < 24) (q : ¬ 0 < A1 (11 + w / 2)) : f_X7_tried N S1 (jj at_) (jj h) (jj w) = some (jj 0, S1) := by
  have cb := OKR_CB O1.1 O1.2.2.2 (w / 2) (by omega) (by omega)
  simp only at cb
  unfold f_X7_tried
  simp only [lt, jj_of]
  rw [jj_div w0 (by omega) (by decide) (by decide), chk_true (jj_inb (by omega) (by omega) (by omega)), chk_true (jj_inb (by omega) (by omega) (by omega)), jj_nat (by omega) (by omega), jj_nat (by omega) (by omega), show ((at_ : Int)).toNat = at_ by omega, L1.1 (w / 2) (by omega) (by omega), if_neg (show ¬ jj 0 < jj (A1 (11 + w / 2)) by rw [jj_lt (by decide) (by decide) (by omega) (by omega)]; exact q)]
theorem c_tried1 {S S1 : St} {N at_ : Nat} {A A1 : Int → Int} {M W0 W h w : Int} {em et : Sem} (hN : 4000 < N) (hC : XC S A M W0 em et) (F1 : FX TRP S S1) (ha : at_ < 3) (O1 : OKS A1 M) (g1 : AG0 A A1) (L1 : LAY S1 (62 + at_) A1) (hw : WRT S1 W) (hW : W < 100000000) (h0 : 0 ≤ h ∧ h < A 0) (w0 : 0 ≤ w) (w1 : w < 24) (q : 0 < A1 (11 + w / 2)) : ∃ S2, f_X7_tried N S1 (jj at_) (jj h) (jj w) = some (jj 1, S2) ∧ LAY S2 (62 + at_ + 1) (ST0 em et A1 h w) ∧ FX (PUP (62 + at_ + 1)) S1 S2 ∧ WRT S2 (W + 1) := by
  have cb := OKR_CB O1.1 O1.2.2.2 (w / 2) (by omega) (by omega)
  simp only at cb
  have h04 := hC.2.1.1.2.2.1.2.1
  obtain ⟨S2, e2, L2, F2⟩ := laysAs_LAY (j := 62 + at_ + 1) (k := 62 + at_) (by omega) L1
  obtain ⟨wr, v1, v2, v3⟩ := hw (62 + at_ + 1) (by omega)
  have F12 : FX TRP S S2 := FX_trans F1 (FX_sub F2 (fun f j q => by unfold TRP; omega))
  have G2 : STG S2 A1 := STG_ext (STG_FX F12 (by unfold TRP; omega) (by unfold TRP; omega) (HDR_STG hC.1.1)) (g1 0 (by decide)).symm (fun i a b => (g1 _ (by omega)).symm) h04
  have x0 := g1 0 (by decide)
  have hs := O1.2.2.1.2.2 h h0.1 (by rw [x0]; exact h0.2)
  have hsum := O1.1.2.2.2.2.1
  have h8 := O1.1.2.2.2.1
  have hMM := O1.2.2.2
  obtain ⟨S3, e3, P1, P2, P3, -⟩ := q_push (S := S2) (j := 62 + at_ + 1) (em := em) (et := et) (sg := sgA A1) (r := A1) (h := h) (c := w / 2) (rt := w % 2) hN (by omega) ⟨show 0 ≤ A1 (47 + h) by omega, hs.2⟩ ⟨h0.1, by omega⟩ (by omega) (by omega) (by omega) (OKR_RB O1.1 O1.2.2.2) (by omega) L2 (G2.2 h h0.1 (by rw [x0]; exact h0.2)) (FX_CLW F12 (by unfold TRP; omega) (by unfold TRP; omega) (by unfold TRP; omega) hC.2.2.2) ((F2.1 403 _ 0 (by omega)).trans v1) v2 (by omega)
  refine ⟨S3, ?_, ?_, FX_trans (FX_sub F2 (fun f j q => by unfold PUP; omega)) P2, fun j hj => ?_⟩
  · unfold f_X7_tried
    simp only [lt, jj_of]
    rw [jj_div w0 (by omega) (by decide) (by decide), chk_true (jj_inb (by omega) (by omega) (by omega)), chk_true (jj_inb (by omega) (by omega) (by omega)), jj_nat (by omega) (by omega), jj_nat (by omega) (by omega), show ((at_ : Int)).toNat = at_ by omega, L1.1 (w / 2) (by omega) (by omega), if_pos (show jj 0 < jj (A1 (11 + w / 2)) by rw [jj_lt (by decide) (by decide) (by omega) (by omega)]; exact q), jj_add, chk_true (jj_inb (by omega) (by omega) (by omega)), chk_true (jj_inb (by omega) (by omega) (by omega)), jj_nat (by omega) (by omega), show ((at_ : Int) + 1).toNat = at_ + 1 by omega]
    rw [show 62 + (at_ + 1) = 62 + at_ + 1 by omega, bnd_of e2, chk_true (jj_inb (by omega) (by omega) (by omega)), jj_mul, jj_sub]
    have two : ∀ X : Int32 → Option (Int32 × St), (if jj (w - w / 2 * 2) = jj 1 then X (jj 1) else X (jj 0)) = X (jj (w % 2)) := by
      intro X
      simp (disch := omega) only [jj_eq]
      by_cases z : w % 2 = 1
      · rw [if_pos (by omega), z]
      · rw [if_neg (by omega), show w % 2 = 0 by omega]
    rw [two (fun s => f_X7_tried_b66 N s (jj (w / 2)) (jj h) (62 + at_ + 1) S2)]
    unfold f_X7_tried_b66
    rw [bnd_of e3]
    rfl
  · have : ST0 em et A1 h w = STR em et (sgA A1) A1 h (w / 2) (w % 2) := by unfold ST0 STW; exact if_pos rfl
    rw [this]; exact P1
  · by_cases z : j = 62 + at_ + 1
    · rw [z]; exact ⟨NXW wr, P3, (NXW_b v2).1, by have := (NXW_b v2).2; omega⟩
    · obtain ⟨w', a, b, c⟩ := hw j hj
      exact ⟨w', by rw [P2.1 403 j 0 (by unfold PUP; omega), F2.1 403 j 0 (by omega)]; exact a, b, by omega⟩
/-- the reference's trial of one stroke -/
theorem r_tried0 {S1 : St} {N : Nat} {A1 : Int → Int} {M h w : Int} (O1 : OKS A1 M) (hA : AR 1000 S1 A1) (w0 : 0 ≤ w) (w1 : w < 24) (q : ¬ 0 < A1 (11 + w / 2)) : f_X10_isStroked N S1 (jj h) (jj w) = some (jj 0, S1) := by
  have cb := OKR_CB O1.1 O1.2.2.2 (w / 2) (by omega) (by omega)
  simp only at cb
  have e := hA (11 + w / 2) (by omega) (by omega)
  unfold f_X10_isStroked
  simp only [jj_of]
  rw [jj_div w0 (by omega) (by decide) (by decide), jj_add, chk_true (jj_inb (by omega) (by omega) (by omega)), jj_nat (by omega) (by omega), e, if_pos (show jj (A1 (11 + w / 2)) = jj 0 by congr 1; omega)]
theorem r_tried1 {S S1 : St} {N : Nat} {A A1 : Int → Int} {M h w : Int} {em et : Sem} (hN : 4000 < N) (hE : RLW S1 (A1 3) em et) (O1 : OKS A1 M) (hA : AR 1000 S1 A1) (h23 : gI S1 1023 0 0 = jj 0) (h0 : 0 ≤ h ∧ h < A1 0) (w0 : 0 ≤ w) (w1 : w < 24) (q : 0 < A1 (11 + w / 2)) : ∃ S2, f_X10_isStroked N S1 (jj h) (jj w) = some (jj 1, S2) ∧ AR 1000 S2 (ST0 em et A1 h w) ∧ FX STF S1 S2 := by
  have cb := OKR_CB O1.1 O1.2.2.2 (w / 2) (by omega) (by omega)
  simp only at cb
  have e := hA (11 + w / 2) (by omega) (by omega)
  obtain ⟨S2, e2, A2, F2, -⟩ := r_strokeS (wf := 0) (h := h) (c := w / 2) (rt := w % 2) (tc := (gI S1 1024 0 0).toInt) hN O1 hA hE h0 (by omega) (by omega) (by omega) (Or.inl rfl) h23 (jj_self _).symm
  have mb := mvv_b (em := em) (sg := sgA A1) (h := h) (rt := w % 2) (OKR_RB O1.1 O1.2.2.2) (show 0 ≤ w / 2 by omega) (show w / 2 < 12 by omega)
  refine ⟨S2, ?_, A2, F2⟩
  unfold f_X10_isStroked
  simp only [jj_of]
  rw [jj_div w0 (by omega) (by decide) (by decide), jj_add, chk_true (jj_inb (by omega) (by omega) (by omega)), jj_nat (by omega) (by omega), e, if_neg (show ¬ jj (A1 (11 + w / 2)) = jj 0 by rw [jj_eq (by omega) (by omega) (by decide) (by decide)]; omega), jj_mul, jj_sub]
  have two : ∀ X : Int32 → Option (Int32 × St), (if jj (w - w / 2 * 2) = jj 1 then X (jj 1) else X (jj 0)) = X (jj (w % 2)) := by
    intro X
    simp (disch := omega) only [jj_eq]
    by_cases z : w % 2 = 1
    · rw [if_pos (by omega), z]
    · rw [if_neg (by omega), show w % 2 = 0 by omega]
  rw [two (fun s => f_X10_isStroked_b33 N s (jj (w / 2)) (jj h) S1)]
  unfold f_X10_isStroked_b33
  rw [bnd_of e2]
  simp only [jj_of]
  rw [if_neg (show ¬ jj (mvv em A1 (sgA A1) h (w / 2) (w % 2)) < jj 0 by rw [jj_lt (by omega) (by omega) (by decide) (by decide)]; omega)]
/-- one trial and back -/
def TR1 (em et : Sem) (A : Int → Int) (h w : Int) : Int → Int := if 0 < A (11 + w / 2) then ST0 em et A h w else A
theorem r_one {S : St} {N : Nat} {A : Int → Int} {M h w : Int} {em et : Sem} (hN : 4000 < N) (hO : OKS A M) (hC : RC S A em et) (h0 : 0 ≤ h ∧ h < A 0) (w0 : 0 ≤ w) (w1 : w < 24) : ∃ S1 S2 S3, f_X10_setAside N S = some S1 ∧ f_X10_isStroked N S1 (jj h) (jj w) = some (jj (if 0 < A (11 + w / 2) then 1 else 0), S2) ∧ AR 1000 S2 (TR1 em et A h w) ∧ OKS (TR1 em et A h w) M ∧ f_X10_putBack N S2 = some S3 ∧ RC S3 A em et ∧ FX (fun f _ => f = 1000 ∨ (1020 ≤ f ∧ f ≤ 1025)) S S3 := by
  obtain ⟨S1, e1, a1, w1', F1⟩ := r_setAside hN hC.1
  have A1 := FX_AR F1 (f := 1000) (by omega) hC.1
  have h04 := hO.2.2.1.2.1
  have mid : ∃ S2, f_X10_isStroked N S1 (jj h) (jj w) = some (jj (if 0 < A (11 + w / 2) then 1 else 0), S2) ∧ AR 1000 S2 (TR1 em et A h w) ∧ OKS (TR1 em et A h w) M ∧ AG0 A (TR1 em et A h w) ∧ FX STF S1 S2 := by
    unfold TR1
    by_cases q : 0 < A (11 + w / 2)
    · obtain ⟨S2, e2, A2, F2⟩ := r_tried1 (S := S) (A := A) hN (RLW_of hC.2.1 (fun i => F1.1 1002 0 i (by omega))) hO A1 w1' h0 w0 w1 q
      rw [if_pos q, if_pos q]
      exact ⟨S2, e2, A2, ST0_OKS hO ⟨h0.1, by omega⟩ w0 w1, ST0_AG0 w0 w1, F2⟩
    · rw [if_neg q, if_neg q]
      exact ⟨S1, r_tried0 hO A1 w0 w1 q, A1, hO, fun _ _ => rfl, FX_refl _ _⟩
  obtain ⟨S2, e2, A2, O2, g2, F2⟩ := mid
  obtain ⟨S3, e3, A3, w3, F3⟩ := r_putBack hN A2 (fun k a b => (F2.1 1025 0 _ (by unfold STF; omega)).trans (a1 k a b))
  have FF : FX (fun f _ => f = 1000 ∨ (1020 ≤ f ∧ f ≤ 1025)) S S3 := FX_trans (FX_sub F1 (fun f _ q => by omega)) (FX_trans (FX_sub F2 (fun f _ q => by unfold STF at q; omega)) (FX_sub F3 (fun f _ q => by omega)))
  refine ⟨S1, S2, S3, e1, e2, A2, O2, e3, ⟨AR_ext A3 (fun i a b => ?_), RLW_of hC.2.1 (fun i => FF.1 1002 0 i (by omega)), w3⟩, FF⟩
  by_cases z : 6 ≤ i ∧ i < 41
  · rw [if_pos z]
  · rw [if_neg z, g2 i (by omega)]
/-- the most of twelve -/
def mxf (c : Int → Int) : Int := itr (fun k m => if m < c k then c k else m) 0 12 0
theorem mxf_MX {c : Int → Int} : MX c 0 12 (mxf c) := by
  have : ∀ (m : Nat), MX c 0 m (itr (fun k m => if m < c k then c k else m) 0 m 0) := by
    intro m
    have := itr_inv (s := fun k m => if m < c k then c k else m) (P := fun k v => 0 ≤ k ∧ MX c 0 k v) m 0 0 ⟨by decide, by decide, fun i a b => by omega, Or.inl rfl⟩ (fun i x a b hp => ⟨by omega, MX_up hp.2 hp.1⟩)
    have h := this.2
    rw [show (0 : Int) + (m : Int) = m by omega] at h
    exact h
  exact this 12
theorem x_most {S : St} {N j : Nat} {c : Int → Int} (hC : CC S j c) (hB : CB c) (hN : 4000 < N) : ∃ i : Int, f_X3_mostCell N j S = some (jj i) ∧ 0 ≤ i ∧ i < 12 ∧ gI S 400 j i.toNat = jj (mxf c) := by
  have := wp_up (F := fun n (a : Int) k => f_X3_mostCell_b4 N j n (jj a) (jj k) S) (P := fun k a => 1 ≤ k ∧ 0 ≤ a ∧ a < 12 ∧ ∀ i, 0 ≤ i → i < k → c i ≤ c a) (Q := fun r => ∃ i : Int, r = jj i ∧ 0 ≤ i ∧ i < 12 ∧ ∀ k, 0 ≤ k → k < 12 → c k ≤ c i) (E := 12) (by
    intro n a ⟨k0, h1, h2, h3⟩
    simp only [f_X3_mostCell_b4]
    simp (disch := omega) only [jj_of, jj_add, jj_sub, jj_mul, jj_neg, jj_le, jj_lt, jj_eq, jj_nat, chk_true (jj_inb _ _ _), chk_true (jj_nz _ _ _), lt, if_true, if_false, reduceIte, Int.le_refl]
    exact wp_some ⟨a, rfl, h1, h2, h3⟩) (by
    intro n a k hk ⟨k0, h1, h2, h3⟩ ih
    have hba := hB a h1 h2
    have hbk := hB k (by omega) hk
    have hk2 : ¬ 12 ≤ k := by omega
    simp only [f_X3_mostCell_b4]
    simp (disch := omega) only [jj_of, jj_add, jj_sub, jj_mul, jj_neg, jj_le, jj_lt, jj_eq, jj_nat, chk_true (jj_inb _ _ _), chk_true (jj_nz _ _ _), lt, if_true, if_false, reduceIte, hk2, hC _]
    refine wp_ite (fun q => ih a ⟨by omega, h1, h2, fun i p r => ?_⟩) (fun q => ih k ⟨by omega, by omega, hk, fun i p r => ?_⟩)
    · by_cases z : i = k
      · rw [z]; exact q
      · exact h3 i p (by omega)
    · by_cases z : i = k
      · rw [z]; exact Int.le_refl _
      · have := h3 i p (by omega); omega) 11 N 1 0 (by decide) (by omega) ⟨by decide, by decide, by decide, fun i p r => by rw [show i = 0 by omega]; exact Int.le_refl _⟩
  obtain ⟨r, e, i, rfl, i0, i1, h⟩ := this
  refine ⟨i, e, i0, i1, ?_⟩
  rw [hC i i0 i1]
  congr 1
  have m := @mxf_MX c
  refine MX_one (a := 0) (b := 12) (c := c) ⟨(hB i i0 i1).1, fun k p r => h k p r, Or.inr ⟨i, i0, i1, rfl⟩⟩ m
theorem r_most {S : St} {N : Nat} {A : Int → Int} {M : Int} (hO : OKS A M) (hA : AR 1000 S A) (hN : 4000 < N) : f_X10_mostOf N S (jj 0) (jj 12) = some (jj (mxf (fun i => A (11 + i)))) := by
  obtain ⟨v, e, h⟩ := q_mostOf (AR_CA hA) (OKR_CB hO.1 hO.2.2.2) (show 20 < N by omega) (a := 0) (m := 12) (by decide) (by decide) (by decide)
  rw [e, MX_one h mxf_MX]
