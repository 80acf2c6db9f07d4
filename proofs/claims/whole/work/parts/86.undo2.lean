/-! CALLS that do: taking back; hands, dough and towns told. -/
def UNF (A : Int → Int) : Int → Int := fun i => if i = 4 then A 4 - 1 else if 6 ≤ i ∧ i < 41 then (if 35 ≤ i ∧ A (75 + 96 * (A 4 - 1)) ≤ i - 35 ∧ i - 35 < A 1 then A (i + 6) else A (i + 70 + 96 * (A 4 - 1))) else if 2955 ≤ i ∧ i < 3015 then A (i - 2844 + 96 * (A 4 - 1)) else A i
theorem UNF_far {A : Int → Int} (i : Int) (h : i ≠ 4) (h2 : i < 6 ∨ 41 ≤ i ∧ i < 2955) : UNF A i = A i := by
  unfold UNF
  rw [if_neg h, if_neg (by omega), if_neg (by omega)]
theorem UNF_row {A : Int → Int} (i : Int) (h : 6 ≤ i) (h2 : i < 35) : UNF A i = rrow A (A 4 - 1) i := by
  unfold UNF rrow
  rw [if_neg (by omega), if_pos (by omega), if_neg (by omega)]
  congr 1; omega
theorem UNF_tn {A : Int → Int} (t : Int) (h : 0 ≤ t) (h2 : t < 6) : UNF A (35 + t) = if A (75 + 96 * (A 4 - 1)) ≤ t ∧ t < A 1 then A (41 + t) else A (105 + 96 * (A 4 - 1) + t) := by
  unfold UNF
  rw [if_neg (by omega), if_pos (by omega)]
  by_cases q : A (75 + 96 * (A 4 - 1)) ≤ t ∧ t < A 1
  · rw [if_pos q, if_pos ⟨by omega, by omega, by omega⟩]; congr 1; omega
  · rw [if_neg q, if_neg (fun z => q ⟨by omega, by omega⟩)]; congr 1; omega
theorem UNF_bk {A : Int → Int} (i : Int) (h : 0 ≤ i) (h2 : i < 60) : UNF A (2955 + i) = rbk A (A 4 - 1) i := by
  unfold UNF rbk
  rw [if_neg (by omega), if_neg (by omega), if_pos (by omega)]
  congr 1; omega
theorem NUM_UNF {A : Int → Int} {M : Int} (hM : NUM A M) (h : 0 < A 4) : NUM (UNF A) M := by
  obtain ⟨hO, a2, a2', a3, a3', a4, a4', a5, a5', hT, hS, hR⟩ := id hM
  have f := @UNF_far A
  obtain ⟨r1, r2, r3, r4⟩ := hR (A 4 - 1) (by omega) (by omega)
  have t0 := hO.2.1.1
  have t6 := hO.2.1.2.1
  have h0 := hO.2.2.1.1
  have h04 := hO.2.2.1.2.1
  have x4 : UNF A 4 = A 4 - 1 := if_pos rfl
  have x0 := f 0 (by decide) (by decide)
  have x1 := f 1 (by decide) (by decide)
  have x2 := f 2 (by decide) (by decide)
  have x3 := f 3 (by decide) (by decide)
  have x5 := f 5 (by decide) (by decide)
  refine ⟨⟨OKR_ext r1 (fun i a b => (UNF_row i a b).symm) (fun i a b => (UNF_bk i a b).symm), ⟨by rw [x1]; exact t0, by rw [x1]; exact t6, fun t a b => ?_⟩, ⟨by rw [x0]; exact h0, by rw [x0]; exact h04, fun k a b => ?_⟩, hO.2.2.2⟩, by rw [x2]; exact a2, by rw [x2]; exact a2', by rw [x3]; exact a3, by rw [x2, x3]; exact a3', by omega, by omega, by rw [x5]; exact a5, by rw [x5]; exact a5', fun t a b => ?_, fun k a b => ?_, fun k a b => ?_⟩
  · rw [x1] at b
    rw [UNF_tn t a (by omega)]
    by_cases q : A (75 + 96 * (A 4 - 1)) ≤ t ∧ t < A 1
    · rw [if_pos q]; have := hT t a b; omega
    · rw [if_neg q]; exact r4 t a (by omega)
  · rw [x0] at b
    rw [f (47 + k) (by omega) (by omega)]
    exact hO.2.2.1.2.2 k a b
  · rw [x1] at b
    rw [f (41 + t) (by omega) (by omega)]
    exact hT t a b
  · rw [x5] at b
    rw [x0, f (51 + 3 * k) (by omega) (by omega), f (52 + 3 * k) (by omega) (by omega), f (53 + 3 * k) (by omega) (by omega)]
    exact hS k a b
  · rw [x4] at b
    obtain ⟨s1, s2, s3, s4⟩ := hR k a (by omega)
    rw [x1, f (75 + 96 * k) (by omega) (by omega)]
    refine ⟨OKR_ext s1 (fun i c d => (f _ (by omega) (by omega)).symm) (fun i c d => (f _ (by omega) (by omega)).symm), s2, s3, fun t c d => ?_⟩
    rw [f _ (by omega) (by omega)]
    exact s4 t c d
theorem c_undo1 {S : St} {A : Int → Int} {M W : Int} {em et : Sem} (hC : XC S A M W em et) (h : 0 < A 4) : ∃ S', f_X9_undo S = some (jj (A 4 - 1), S') ∧ XC S' (UNF A) M W em et ∧ FX XOP S S' := by
  obtain ⟨⟨hH, hX, h4, ns, n0, n1, hns, hst⟩, hM, hW, hL⟩ := id hC
  obtain ⟨hO, a2, a2', a3, a3', a4, a4', a5, a5', hT, hS, hR⟩ := id hM
  have t6 := hO.2.1.2.1
  have h04 := hO.2.2.1.2.1
  have f := @UNF_far A
  obtain ⟨r1, r2, r3, r4⟩ := hR (A 4 - 1) (by omega) (by omega)
  have ej : (ns + 30 - A 4 + (A 4 - 1)) % 30 = (ns + 29) % 30 := by congr 1; omega
  have old := hst (A 4 - 1) (by omega) (by omega)
  rw [ej] at old
  have F0 : FX (fun f j => f = 802 ∧ j = 0) S (sI S 802 0 0 (jj ((ns + 29) % 30))) := FX_sI (FX_refl _ _) ⟨rfl, rfl⟩
  have g2 : gI (sI S 802 0 0 (jj ((ns + 29) % 30))) 802 0 0 = jj ((ns + 29) % 30) := by rw [gI_sI, if_pos ⟨rfl, rfl, rfl⟩]
  have old1 := FX_SHT F0 (fun f a b => by omega) old
  have st1 : ∀ k : Int, 0 ≤ k → k < A 4 → SHT (sI S 802 0 0 (jj ((ns + 29) % 30))) (31 * 0 + 1 + ((ns + 30 - A 4 + k) % 30).toNat) (rrow A k) (rhm A k) (rbk A k) := fun k a b => FX_SHT F0 (fun f a b => by omega) (hst k a b)
  have g3 : gI (sI S 802 0 0 (jj ((ns + 29) % 30))) 803 0 0 = jj (A 4) := by rw [gI_sI, if_neg (by omega)]; exact h4
  unfold f_X9_undo f_X8_takeBack
  rw [h4, hns]
  simp (disch := omega) only [jj_of, jj_add, jj_sub, jj_mul, jj_neg, jj_le, jj_lt, jj_eq, jj_nat, chk_true (jj_inb _ _ _), chk_true (jj_nz _ _ _), lt]
  rw [if_neg (by omega), show ns + 30 - 1 = ns + 29 by omega, jj_rem (by omega) (by omega) (by decide) (by decide)]
  generalize sI S 802 0 0 (jj ((ns + 29) % 30)) = S0 at F0 g2 old1 st1 g3 ⊢
  obtain ⟨S1, e1, T1, F1, W1⟩ := becomes_SHT (j := 31 * 0) (k := 31 * 0 + 1 + ((ns + 29) % 30).toNat) (by omega) old1
  rw [g2, chk_true (jj_inb (by omega) (by omega) (by omega)), jj_nat (by omega) (by omega), bnd_of e1]
  have g3' : gI S1 803 0 0 = jj (A 4) := (F1.1 803 0 0 (by unfold SHP; omega)).trans g3
  rw [g3', jj_sub]
  have x1 := f 1 (by decide) (by decide)
  have F2 : FX (fun f j => f = 803 ∧ j = 0) S1 (sI S1 803 0 0 (jj (A 4 - 1))) := FX_sI (FX_refl _ _) ⟨rfl, rfl⟩
  have FF : FX XOP S (sI S1 803 0 0 (jj (A 4 - 1))) := FX_sI (FX_trans (FX_sub F0 (fun f j q => by unfold XOP; omega)) (FX_sub F1 (fun f j q => by unfold SHP at q; unfold XOP; omega))) (by unfold XOP; omega)
  have keepH : FX (fun f j => (f = 802 ∨ f = 803) ∧ j = 0 ∨ (400 ≤ f ∧ f ≤ 408 ∧ j = 0)) S (sI S1 803 0 0 (jj (A 4 - 1))) := FX_sI (FX_trans (FX_sub F0 (fun f j q => by omega)) (FX_sub F1 (fun f j q => by unfold SHP at q; omega))) (by omega)
  refine ⟨_, by rw [bnd_of rfl, gI_sI, if_pos ⟨rfl, rfl, rfl⟩], ⟨⟨HDR_ext (HDR_FX keepH (fun f a b => by omega) hH) h04 a5' (fun i a b c => (f i (by omega) (by omega)).symm), ?_, ?_⟩, NUM_UNF hM h, fun j hj => ?_, FX_CLW keepH (by omega) (by omega) (by omega) hL⟩, FF⟩
  · refine SHT_SHX (SHT_ext (FX_SHT F2 (fun f a b => by omega) T1) (fun i a b => (UNF_row i a b).symm) (fun t a b => ?_) (fun i a b => (UNF_bk i a b).symm))
    unfold rhm hmA
    rw [x1, UNF_tn t a b]
    by_cases q : t < A (75 + 96 * (A 4 - 1))
    · rw [if_pos q, if_pos (by omega), if_neg (by omega)]
    · rw [if_neg q]
      by_cases q2 : t < A 1
      · rw [if_pos q2, if_pos q2, if_pos ⟨by omega, q2⟩]
      · rw [if_neg q2, if_neg q2]
  · have x4 : UNF A 4 = A 4 - 1 := if_pos rfl
    refine ⟨by rw [gI_sI, if_pos ⟨rfl, rfl, rfl⟩, x4], (ns + 29) % 30, by omega, by omega, by rw [gI_sI, if_neg (by omega), F1.1 802 0 0 (by unfold SHP; omega)]; exact g2, fun k a b => ?_⟩
    rw [x4] at b ⊢
    have ek : ((ns + 29) % 30 + 30 - (A 4 - 1) + k) % 30 = (ns + 30 - A 4 + k) % 30 := by omega
    rw [ek]
    refine SHT_ext (FX_SHT F2 (fun f a b => by omega) (FX_SHT F1 (fun f a b => by unfold SHP; omega) (st1 k a (by omega)))) (fun i c d => (f _ (by omega) (by omega)).symm) (fun t c d => ?_) (fun i c d => (f _ (by omega) (by omega)).symm)
    unfold rhm
    rw [x1, f (75 + 96 * k) (by omega) (by omega), f (105 + 96 * k + t) (by omega) (by omega), f (41 + t) (by omega) (by omega)]
  · by_cases q : j = 0
    · subst q
      obtain ⟨wr, p1, p2, p3⟩ := hW (1 + ((ns + 29) % 30).toNat) (by omega)
      refine ⟨wr, ?_, p2, p3⟩
      rw [gI_sI, if_neg (by omega)]
      refine W1.trans ?_
      rw [F0.1 403 _ 0 (by omega), show 31 * 0 + 1 + ((ns + 29) % 30).toNat = 1 + ((ns + 29) % 30).toNat by omega]
      exact p1
    · obtain ⟨wr, p1, p2, p3⟩ := hW j hj
      exact ⟨wr, (keepH.1 403 j 0 (by omega)).trans p1, p2, p3⟩
theorem c_undo0 {S : St} {A : Int → Int} {M W : Int} {em et : Sem} (hC : XC S A M W em et) (h : ¬ 0 < A 4) : f_X9_undo S = some (jj (-1), S) := by
  have a4 := hC.2.1.2.2.2.2.2.1
  unfold f_X9_undo f_X8_takeBack
  rw [hC.1.2.2.1, if_pos (show jj (A 4) = (0 : Int32) by rw [show A 4 = 0 by omega]; rfl), bnd_of rfl]
  rfl
def unI (A : Int → Int) (k : Int) : Int → Int := fun i => if i = 4 then A 4 - 1 else if 6 ≤ i ∧ i < 6 + k then A (i + 70 + 96 * (A 4 - 1)) else A i
def unJ (A : Int → Int) (k : Int) : Int → Int := fun i => if i = 4 then A 4 - 1 else if 6 ≤ i ∧ i < 41 then (if 35 ≤ i ∧ A (75 + 96 * (A 4 - 1)) ≤ i - 35 ∧ i - 35 < k then A (i + 6) else A (i + 70 + 96 * (A 4 - 1))) else A i
def unK (A : Int → Int) (k : Int) : Int → Int := fun i => if i = 4 then A 4 - 1 else if 6 ≤ i ∧ i < 41 then (if 35 ≤ i ∧ A (75 + 96 * (A 4 - 1)) ≤ i - 35 ∧ i - 35 < A 1 then A (i + 6) else A (i + 70 + 96 * (A 4 - 1))) else if 2955 ≤ i ∧ i < 2955 + k then A (i - 2844 + 96 * (A 4 - 1)) else A i
theorem un3 {S S1 : St} {N n : Nat} {A : Int → Int} (h : 0 < A 4) (h2 : A 4 ≤ 30) (F1 : FX (fun f _ => f = 1000) S S1) (A1 : AR 1000 S1 (unK A 60)) : wp (f_X10_undo_b110 N (n + 1) (jj (75 + 96 * (A 4 - 1))) (jj 60) S1) (fun r => r.1 = jj (A 4 - 1) ∧ AR 1000 r.2 (UNF A) ∧ FX (fun f _ => f = 1000) S r.2) := by
  have g4 : gI S1 1000 0 4 = jj (A 4 - 1) := (A1 4 (by decide) (by decide)).trans (by unfold unK; rw [if_pos rfl])
  rw [f_X10_undo_b110]
  rw [if_pos (show (60 : Int32) ≤ jj 60 by rw [jj_of]; exact Int32.le_refl _), g4]
  refine wp_some ⟨rfl, AR_ext A1 (fun i a b => ?_), F1⟩
  unfold unK UNF
  by_cases w : i = 4
  · rw [if_pos w, if_pos w]
  · rw [if_neg w, if_neg w]
    by_cases w2 : 6 ≤ i ∧ i < 41
    · rw [if_pos w2, if_pos w2]
    · rw [if_neg w2, if_neg w2]
      by_cases w3 : 2955 ≤ i ∧ i < 3015
      · rw [if_pos w3, if_pos (by omega)]
      · rw [if_neg w3, if_neg (by omega)]
theorem un3s {S S1 : St} {N n : Nat} {A : Int → Int} {Q : Int32 × St → Prop} {k : Int} (h : 0 < A 4) (h2 : A 4 ≤ 30) (hk : k < 60) (k0 : 0 ≤ k) (F1 : FX (fun f _ => f = 1000) S S1) (A1 : AR 1000 S1 (unK A k)) (ih : ∀ S2, (0 ≤ k + 1 ∧ FX (fun f _ => f = 1000) S S2 ∧ AR 1000 S2 (unK A (k + 1))) → wp (f_X10_undo_b110 N n (jj (75 + 96 * (A 4 - 1))) (jj (k + 1)) S2) Q) : wp (f_X10_undo_b110 N (n + 1) (jj (75 + 96 * (A 4 - 1))) (jj k) S1) Q := by
  have hk2 : ¬ 60 ≤ k := by omega
  have e1 : gI S1 1000 0 (75 + 96 * (A 4 - 1) + 36 + k).toNat = jj (A (75 + 96 * (A 4 - 1) + 36 + k)) := (A1 _ (by omega) (by omega)).trans (by unfold unK; rw [if_neg (by omega), if_neg (by omega), if_neg (by omega)])
  simp only [f_X10_undo_b110]
  simp (disch := omega) only [jj_of, jj_add, jj_sub, jj_mul, jj_neg, jj_le, jj_lt, jj_eq, jj_nat, chk_true (jj_inb _ _ _), chk_true (jj_nz _ _ _), lt, if_true, if_false, reduceIte, hk2, e1]
  refine ih _ ⟨by omega, FX_sI F1 rfl, AR_ext (AR_set A1 (by omega)) (fun i a b => ?_)⟩
  rw [UP_at]
  unfold unK
  by_cases w : i = 2955 + k
  · rw [if_pos w, if_neg (by omega), if_neg (by omega), if_pos (by omega)]
    congr 1; omega
  · rw [if_neg w]
    by_cases w1 : i = 4
    · rw [if_pos w1, if_pos w1]
    · rw [if_neg w1, if_neg w1]
      by_cases w2 : 6 ≤ i ∧ i < 41
      · rw [if_pos w2, if_pos w2]
      · rw [if_neg w2, if_neg w2]
        by_cases w3 : 2955 ≤ i ∧ i < 2955 + k
        · rw [if_pos w3, if_pos (by omega)]
        · rw [if_neg w3, if_neg (by omega)]
theorem un2 {S S1 : St} {N n : Nat} {A : Int → Int} {M : Int} (hN : 4000 < N) (hM : NUM A M) (h : 0 < A 4) (F1 : FX (fun f _ => f = 1000) S S1) (A1 : AR 1000 S1 (unJ A (A 1))) : wp (f_X10_undo_b74 N (n + 1) (jj (75 + 96 * (A 4 - 1))) (jj (A 1)) S1) (fun r => r.1 = jj (A 4 - 1) ∧ AR 1000 r.2 (UNF A) ∧ FX (fun f _ => f = 1000) S r.2) := by
  have a4' := hM.2.2.2.2.2.2.1
  have g1 : gI S1 1000 0 1 = jj (A 1) := (A1 1 (by decide) (by decide)).trans (by unfold unJ; rw [if_neg (by decide), if_neg (by decide)])
  rw [f_X10_undo_b74]
  rw [g1, if_pos (Int32.le_refl _)]
  simp only [jj_of]
  exact wp_up (F := fun n' S2 k => f_X10_undo_b110 N n' (jj (75 + 96 * (A 4 - 1))) (jj k) S2) (P := fun k S2 => 0 ≤ k ∧ FX (fun f _ => f = 1000) S S2 ∧ AR 1000 S2 (unK A k)) (E := 60) (fun n S2 z => un3 h a4' z.2.1 z.2.2) (fun n S2 k hk z ih => un3s h a4' hk z.1 z.2.1 z.2.2 ih) 60 N 0 S1 (by omega) (by omega) ⟨by omega, F1, AR_ext A1 (fun i a b => by
    unfold unJ unK
    by_cases w : i = 4
    · rw [if_pos w, if_pos w]
    · rw [if_neg w, if_neg w]
      by_cases w2 : 6 ≤ i ∧ i < 41
      · rw [if_pos w2, if_pos w2]
      · rw [if_neg w2, if_neg w2, if_neg (by omega)])⟩
theorem un2s {S S1 : St} {N n : Nat} {A : Int → Int} {M : Int} {Q : Int32 × St → Prop} {k : Int} (hM : NUM A M) (h : 0 < A 4) (hk : k < A 1) (k0 : 0 ≤ k) (kx : A (75 + 96 * (A 4 - 1)) ≤ k) (F1 : FX (fun f _ => f = 1000) S S1) (A1 : AR 1000 S1 (unJ A k)) (ih : ∀ S2, (A (75 + 96 * (A 4 - 1)) ≤ k + 1 ∧ FX (fun f _ => f = 1000) S S2 ∧ AR 1000 S2 (unJ A (k + 1))) → wp (f_X10_undo_b74 N n (jj (75 + 96 * (A 4 - 1))) (jj (k + 1)) S2) Q) : wp (f_X10_undo_b74 N (n + 1) (jj (75 + 96 * (A 4 - 1))) (jj k) S1) Q := by
  have t6 := hM.1.2.1.2.1
  have hk2 : ¬ A 1 ≤ k := by omega
  have g1 : gI S1 1000 0 1 = jj (A 1) := (A1 1 (by decide) (by decide)).trans (by unfold unJ; rw [if_neg (by decide), if_neg (by decide)])
  have e1 : gI S1 1000 0 (41 + k).toNat = jj (A (41 + k)) := (A1 _ (by omega) (by omega)).trans (by unfold unJ; rw [if_neg (by omega), if_neg (by omega)])
  simp only [f_X10_undo_b74]
  rw [g1]
  simp (disch := omega) only [jj_of, jj_add, jj_sub, jj_mul, jj_neg, jj_le, jj_lt, jj_eq, jj_nat, chk_true (jj_inb _ _ _), chk_true (jj_nz _ _ _), lt, if_true, if_false, reduceIte, hk2, e1]
  refine ih _ ⟨by omega, FX_sI F1 rfl, AR_ext (AR_set A1 (by omega)) (fun i a b => ?_)⟩
  rw [UP_at]
  unfold unJ
  by_cases w : i = 35 + k
  · rw [if_pos w, if_neg (by omega), if_pos (by omega), if_pos ⟨by omega, by omega, by omega⟩]
    congr 1; omega
  · rw [if_neg w]
    by_cases w1 : i = 4
    · rw [if_pos w1, if_pos w1]
    · rw [if_neg w1, if_neg w1]
      by_cases w2 : 6 ≤ i ∧ i < 41
      · rw [if_pos w2, if_pos w2]
        by_cases w3 : 35 ≤ i ∧ A (75 + 96 * (A 4 - 1)) ≤ i - 35 ∧ i - 35 < k
        · rw [if_pos w3, if_pos ⟨w3.1, w3.2.1, by omega⟩]
        · rw [if_neg w3, if_neg (fun z => w3 ⟨z.1, z.2.1, by omega⟩)]
      · rw [if_neg w2, if_neg w2]
theorem un1s {S S1 : St} {N n : Nat} {A : Int → Int} {Q : Int32 × St → Prop} {k : Int} (h : 0 < A 4) (h2 : A 4 ≤ 30) (hk : k < 35) (k0 : 0 ≤ k) (F1 : FX (fun f _ => f = 1000) S S1) (A1 : AR 1000 S1 (unI A k)) (ih : ∀ S2, (0 ≤ k + 1 ∧ FX (fun f _ => f = 1000) S S2 ∧ AR 1000 S2 (unI A (k + 1))) → wp (f_X10_undo_b36 N n (jj (75 + 96 * (A 4 - 1))) (jj (k + 1)) S2) Q) : wp (f_X10_undo_b36 N (n + 1) (jj (75 + 96 * (A 4 - 1))) (jj k) S1) Q := by
  have hk2 : ¬ 35 ≤ k := by omega
  have e1 : gI S1 1000 0 (75 + 96 * (A 4 - 1) + 1 + k).toNat = jj (A (75 + 96 * (A 4 - 1) + 1 + k)) := (A1 _ (by omega) (by omega)).trans (by unfold unI; rw [if_neg (by omega), if_neg (by omega)])
  simp only [f_X10_undo_b36]
  simp (disch := omega) only [jj_of, jj_add, jj_sub, jj_mul, jj_neg, jj_le, jj_lt, jj_eq, jj_nat, chk_true (jj_inb _ _ _), chk_true (jj_nz _ _ _), lt, if_true, if_false, reduceIte, hk2, e1]
  refine ih _ ⟨by omega, FX_sI F1 rfl, AR_ext (AR_set A1 (by omega)) (fun i a b => ?_)⟩
  rw [UP_at]
  unfold unI
  by_cases w : i = 6 + k
  · rw [if_pos w, if_neg (by omega), if_pos (by omega)]
    congr 1; omega
  · rw [if_neg w]
    by_cases w1 : i = 4
    · rw [if_pos w1, if_pos w1]
    · rw [if_neg w1, if_neg w1]
      by_cases w3 : 6 ≤ i ∧ i < 6 + k
      · rw [if_pos w3, if_pos (by omega)]
      · rw [if_neg w3, if_neg (by omega)]
theorem un1 {S S1 : St} {N n : Nat} {A : Int → Int} {M : Int} (hN : 4000 < N) (hM : NUM A M) (h : 0 < A 4) (F1 : FX (fun f _ => f = 1000) S S1) (A1 : AR 1000 S1 (unI A 35)) : wp (f_X10_undo_b36 N (n + 1) (jj (75 + 96 * (A 4 - 1))) (jj 35) S1) (fun r => r.1 = jj (A 4 - 1) ∧ AR 1000 r.2 (UNF A) ∧ FX (fun f _ => f = 1000) S r.2) := by
  have a4' := hM.2.2.2.2.2.2.1
  obtain ⟨r1, r2, r3, r4⟩ := hM.2.2.2.2.2.2.2.2.2.2.2 (A 4 - 1) (by omega) (by omega)
  have t6 := hM.1.2.1.2.1
  have e1 : gI S1 1000 0 (75 + 96 * (A 4 - 1)).toNat = jj (A (75 + 96 * (A 4 - 1))) := (A1 _ (by omega) (by omega)).trans (by unfold unI; rw [if_neg (by omega), if_neg (by omega)])
  rw [f_X10_undo_b36]
  rw [if_pos (show (35 : Int32) ≤ jj 35 by rw [jj_of]; exact Int32.le_refl _), chk_true (jj_inb (by omega) (by omega) (by omega)), jj_nat (by omega) (by omega), e1]
  simp only [lt]
  exact wp_up (F := fun n' S2 k => f_X10_undo_b74 N n' (jj (75 + 96 * (A 4 - 1))) (jj k) S2) (P := fun k S2 => A (75 + 96 * (A 4 - 1)) ≤ k ∧ FX (fun f _ => f = 1000) S S2 ∧ AR 1000 S2 (unJ A k)) (E := A 1) (fun n S2 z => un2 hN hM h z.2.1 z.2.2) (fun n S2 k hk z ih => un2s hM h hk (by omega) z.1 z.2.1 z.2.2 ih) (A 1 - A (75 + 96 * (A 4 - 1))).toNat N (A (75 + 96 * (A 4 - 1))) S1 (by omega) (by omega) ⟨by omega, F1, AR_ext A1 (fun i a b => by
    unfold unI unJ
    by_cases w : i = 4
    · rw [if_pos w, if_pos w]
    · rw [if_neg w, if_neg w]
      by_cases w2 : 6 ≤ i ∧ i < 41
      · rw [if_pos w2, if_pos (by omega), if_neg (by omega)]
      · rw [if_neg w2, if_neg (by omega)])⟩
theorem rc_undo1 {S : St} {N : Nat} {A : Int → Int} {M : Int} {em et : Sem} (hN : 4000 < N) (hM : NUM A M) (hC : RC S A em et) (h : 0 < A 4) : ∃ S', f_X10_undo N S = some (jj (A 4 - 1), S') ∧ RC S' (UNF A) em et ∧ FX ROP S S' := by
  have a4' := hM.2.2.2.2.2.2.1
  have e4 : gI S 1000 0 4 = jj (A 4) := hC.1 4 (by decide) (by decide)
  unfold f_X10_undo
  rw [e4, if_neg (show ¬ jj (A 4) = (0 : Int32) by rw [jj_of, jj_eq (by omega) (by omega) (by omega) (by omega)]; omega)]
  simp only [lt, jj_of, jj_sub]
  have A0 : AR 1000 (sI S 1000 0 4 (jj (A 4 - 1))) (unI A 0) := AR_ext (AR_set hC.1 (k := 4) (by decide)) (fun i a b => by
    rw [UP_at]
    unfold unI
    by_cases w : i = 4
    · rw [if_pos w, if_pos w]
    · rw [if_neg w, if_neg w, if_neg (by omega)])
  have F0 : FX (fun f _ => f = 1000) S (sI S 1000 0 4 (jj (A 4 - 1))) := FX_sI (FX_refl _ _) rfl
  have g4 : gI (sI S 1000 0 4 (jj (A 4 - 1))) 1000 0 4 = jj (A 4 - 1) := by rw [gI_sI, if_pos ⟨rfl, rfl, rfl⟩]
  rw [g4]
  simp only [jj_mul, jj_add]
  generalize sI S 1000 0 4 (jj (A 4 - 1)) = S0 at A0 F0 g4 ⊢
  have := wp_up (F := fun n' S2 k => f_X10_undo_b36 N n' (jj (75 + 96 * (A 4 - 1))) (jj k) S2) (P := fun k S2 => 0 ≤ k ∧ FX (fun f _ => f = 1000) S S2 ∧ AR 1000 S2 (unI A k)) (Q := fun r => r.1 = jj (A 4 - 1) ∧ AR 1000 r.2 (UNF A) ∧ FX (fun f _ => f = 1000) S r.2) (E := 35) (fun n S2 z => un1 hN hM h z.2.1 z.2.2) (fun n S2 k hk z ih => un1s h a4' hk z.1 z.2.1 z.2.2 ih) 35 N 0 S0 (by omega) (by omega) ⟨by omega, F0, A0⟩
  obtain ⟨⟨v, S'⟩, e, h1, h2, h3⟩ := this
  simp only at h1
  rw [h1] at e
  exact ⟨S', e, RC_step hC h3 (by omega) (by omega) h2 (UNF_far 3 (by decide) (by decide)), FX_sub h3 (fun f _ q => by unfold ROP; omega)⟩
theorem rc_undo0 {S : St} {N : Nat} {A : Int → Int} {M : Int} {em et : Sem} (hM : NUM A M) (hC : RC S A em et) (h : ¬ 0 < A 4) : f_X10_undo N S = some (jj (-1), S) := by
  have a4 := hM.2.2.2.2.2.1
  have e4 : gI S 1000 0 4 = jj (A 4) := hC.1 4 (by decide) (by decide)
  unfold f_X10_undo
  rw [e4, if_pos (show jj (A 4) = (0 : Int32) by rw [show A 4 = 0 by omega]; rfl)]
  rfl
