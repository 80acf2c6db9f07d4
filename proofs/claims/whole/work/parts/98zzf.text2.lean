/-! CALLS: text. -/
theorem app_at {D1 C D2 : List (Int × Int)} {k : Nat} {c : Int × Int} (h : C[k]? = some c) : (D1 ++ C ++ D2)[D1.length + k]? = some c := by
  have hk : k < C.length := by
    by_cases z : k < C.length
    · exact z
    · rw [List.getElem?_eq_none (by omega)] at h; exact absurd h (by simp)
  rw [List.append_assoc, List.getElem?_append_right (by omega), show D1.length + k - D1.length = k by omega, List.getElem?_append_left hk]
  exact h
/-- what stands in a slot says a law -/
theorem EVM_slot {b : Nat → Nat} {n L j : Nat} {R S2 : St} {CL : List (Int × Int × Int)} {D : List (Int × Int)} {em et e0 : Sem} {sort m : Int} (hB : RBD b n L R j CL D em et) (hCL : CL.length ≤ 24) (hcb : ∀ c ∈ CL, 0 ≤ c.1 ∧ c.1 ≤ 9) (hD : D.length ≤ 300) (hr : ∀ k, gI S2 1002 0 k = gI R 1002 0 k) (s0 : 0 ≤ sort) (s1 : sort ≤ 9) (hm : m ≤ 8) (hl : LWD R L CL D sort m e0) : EVM S2 (L : Int) sort m e0 := by
  intro S1 N nv cs w top hN hrow hn hc hE w0 w1 top1
  obtain ⟨b1, b2, b3, b4, b5, b6, b7, b8, b9, b10, b11⟩ := hB
  have row : ∀ k, 681 * L ≤ k → k < 681 * (L + 1) → gI S1 1002 0 k = gI R 1002 0 k := fun k h1 h2 => (hrow k (by omega) (by omega)).trans (hr k)
  have hk : ∀ k, k < CL.length → gI S1 1002 0 (681 * L + 1 + 3 * k) = jj (CL.getD k (0, 0, 0)).1 ∧ 0 ≤ (CL.getD k (0, 0, 0)).1 ∧ (CL.getD k (0, 0, 0)).1 ≤ 9 := by
    intro k h1
    have e : CL[k]? = some CL[k] := List.getElem?_eq_getElem h1
    have g : CL.getD k (0, 0, 0) = CL[k] := by rw [List.getD_eq_getElem?_getD, e]; rfl
    rw [g, row _ (by omega) (by omega)]
    exact ⟨(b7 k _ e).1, hcb _ (List.getElem_mem h1)⟩
  have gd : ∀ (k : Nat) c, CL[k]? = some c → CL.getD k (0, 0, 0) = c := fun k c h => by rw [List.getD_eq_getElem?_getD, h]; rfl
  have rs := r_says (N := N) (S := S1) (sort := sort) (w := w) (top := top) (kd := fun k => (CL.getD k (0, 0, 0)).1) b11 hCL (by rw [row _ (by omega) (by omega)]; exact b6) hk s0 s1 CL.length 0 N (by omega) (by omega)
  unfold f_X10_says
  cases e0 with
  | none =>
    rcases rs with ⟨-, e⟩ | ⟨k, -, a2, a3, -, -⟩
    · have e : f_X10_says_b3 N N (jj (L : Int)) (jj sort) (jj w) (jj top) 0 S1 = f_X10_says_b63 N (jj w) (jj top) S1 := e
      have ec := r_cut (S := S1) (v := w) (top := top) (by omega) (by omega) (by omega) top1
      refine ⟨S1, ?_, FX_refl _ _⟩
      rw [e]
      unfold f_X10_says_b63
      rw [jj_long (by omega) (by omega), bnd_of ec, if_neg (show ¬ w < 0 by omega), if_neg (show ¬ top < w by omega)]
      rfl
    · have h1 : CL[k]? = some CL[k] := List.getElem?_eq_getElem a2
      try simp only at a3
      rw [gd k _ h1] at a3
      exact absurd a3 (hl _ (List.getElem_mem a2))
  | some E =>
    obtain ⟨k, D1, C, D2, c, h1, h2, h3, h4, h5, h6, h7, h8, h9⟩ := hl
    have kl : k < CL.length := by
      by_cases z : k < CL.length
      · exact z
      · rw [List.getElem?_eq_none (by omega)] at h2; exact absurd h2 (by simp)
    rcases rs with ⟨a1, -⟩ | ⟨k2, -, a2, a3, a4, e⟩
    · have := a1 k (Nat.zero_le _) kl
      try simp only at this
      rw [gd k c h2] at this
      exact absurd h3 this
    · have ek : k2 = k := by
        by_cases z : k2 < k
        · have e2 : CL[k2]? = some CL[k2] := List.getElem?_eq_getElem a2
          try simp only at a3
          rw [gd k2 _ e2] at a3
          exact absurd a3 (h4 k2 _ z e2)
        · by_cases y : k < k2
          · have := a4 k (Nat.zero_le _) y
            try simp only at this
            rw [gd k c h2] at this
            exact absurd h3 this
          · omega
      subst ek
      have len : D1.length + C.length ≤ D.length := by rw [h1, List.length_append, List.length_append]; omega
      have lw : LAWC S1 L k2 D1.length C := by
        refine ⟨by rw [row _ (by omega) (by omega)]; exact h5, by rw [row _ (by omega) (by omega)]; exact h6, fun q d hd => ?_, by omega⟩
        have ql : q < C.length := by
          by_cases z : q < C.length
          · exact z
          · rw [List.getElem?_eq_none (by omega)] at hd; exact absurd hd (by simp)
        have := b4 (D1.length + q) d (by rw [h1]; exact app_at hd)
        rw [row _ (by omega) (by omega), row _ (by omega) (by omega)]
        exact this
      obtain ⟨S3, e3, F3⟩ := r_summedUp (N := N) hN b11 (by omega) hm hE lw h7 h8 hn hc
      have bv := h9 nv cs hE
      have e : f_X10_says_b3 N N (jj (L : Int)) (jj sort) (jj w) (jj top) 0 S1 = (bnd (f_X10_summedUp N S1 (jj (L : Int)) (jj (k2 : Int))) fun q5 => bnd (f_X10_cut q5.2 q5.1 (0 : Int32) (jj top)) fun q6 => some (q6, q5.2)) := e
      refine ⟨S3, ?_, FX_sub F3 (fun f _ z => z)⟩
      rw [e, bnd_of e3, bnd_of (r_cut (S := S3) bv.1 bv.2 (by omega) top1)]
      rfl
/-- an elder slot, after a text -/
theorem old_slot {S S2 : St} {A B : Int → Int} {EM ET : Int → Sem} {a' L : Int} (hd : DN S) (hX : EXD S S2) (h8 : gI S 808 0 0 = jj (A 2)) (h8' : gI S2 808 0 0 = jj a') (a0 : 0 ≤ A 2) (a1 : A 2 ≤ 4) (aa : A 2 ≤ a') (a4 : a' ≤ 4) (h7 : ∀ t : Int, 0 ≤ t → t < A 2 → gR S2 807 0 t.toNat = gR S 807 0 t.toNat) (hr : ∀ k : Nat, (k : Int) < 681 * A 2 → gI S2 1002 0 k = gI S 1002 0 k) (l0 : -1 ≤ L) (l1 : L < A 2) (hE : CLWL S L (EM L) (ET L) ∧ RLW S L (EM L) (ET L)) : CLWL S2 L (EM L) (ET L) ∧ RLW S2 L (EM L) (ET L) := by
  obtain ⟨⟨⟨lw, h1, h2⟩, lt', h3, h4⟩, h5⟩ := hE
  have l808 : (jj L < jj (A 2)) = (L < A 2) := jj_lt (by omega) (by omega) (by omega) (by omega)
  have l808' : (jj L < jj a') = (L < a') := jj_lt (by omega) (by omega) (by omega) (by omega)
  have l0' : (jj L < (0 : Int32)) = (L < 0) := jj_lt (b := 0) (by omega) (by omega) (by decide) (by decide)
  refine ⟨⟨⟨lw, ?_, EVX_ext hd hX h2⟩, lt', ?_, EVX_ext hd hX h4⟩, ?_, ?_⟩
  · unfold f_X8_movesOf at h1 ⊢
    rw [h8'] at *
    rw [h8] at h1
    by_cases z : L < 0
    · rw [if_pos (l0'.mpr z)] at h1 ⊢; exact h1
    · rw [if_neg (fun y => z (l0'.mp y)), if_pos (l808.mpr l1), chk_true (jj_inb (by omega) (by omega) (by omega)), jj_nat (by omega) (by omega)] at h1
      rw [if_neg (fun y => z (l0'.mp y)), if_pos (l808'.mpr (by omega)), chk_true (jj_inb (by omega) (by omega) (by omega)), jj_nat (by omega) (by omega), h7 L (by omega) l1]
      by_cases y : gR S 807 0 L.toNat = 0
      · rw [if_pos y] at h1 ⊢; exact h1
      · rw [if_neg y] at h1 ⊢
        cases hg : gT S (gR S 807 0 L.toNat) with
        | none => rw [hg] at h1; exact absurd h1 (by simp [bnd])
        | some q => rw [bnd_of hg] at h1; rw [bnd_of (gT_ext hd hX hg)]; exact h1
  · unfold f_X8_tearsOf at h3 ⊢
    rw [h8'] at *
    rw [h8] at h3
    by_cases z : L < 0
    · rw [if_pos (l0'.mpr z)] at h3 ⊢; exact h3
    · rw [if_neg (fun y => z (l0'.mp y)), if_pos (l808.mpr l1), chk_true (jj_inb (by omega) (by omega) (by omega)), jj_nat (by omega) (by omega)] at h3
      rw [if_neg (fun y => z (l0'.mp y)), if_pos (l808'.mpr (by omega)), chk_true (jj_inb (by omega) (by omega) (by omega)), jj_nat (by omega) (by omega), h7 L (by omega) l1]
      by_cases y : gR S 807 0 L.toNat = 0
      · rw [if_pos y] at h3 ⊢; exact h3
      · rw [if_neg y] at h3 ⊢
        cases hg : gT S (gR S 807 0 L.toNat) with
        | none => rw [hg] at h3; exact absurd h3 (by simp [bnd])
        | some q => rw [bnd_of hg] at h3; rw [bnd_of (gT_ext hd hX hg)]; exact h3
  · exact fun S1 N nv cs w top a b => h5.1 S1 N nv cs w top a (fun k p q => (b k p q).trans (hr k (by omega)))
  · exact fun S1 N nv cs w top a b => h5.2 S1 N nv cs w top a (fun k p q => (b k p q).trans (hr k (by omega)))
theorem old_cls {S S2 : St} {A : Int → Int} {L : Int} (hd : DN S) (hX : EXD S S2) (h7 : ∀ t : Int, 0 ≤ t → t < A 2 → gR S2 807 0 t.toNat = gR S 807 0 t.toNat) (hr : ∀ k : Nat, (k : Int) < 681 * A 2 → gI S2 1002 0 k = gI S 1002 0 k) (l0 : 0 ≤ L) (l1 : L < A 2) (hE : CLS S L ∧ gR S 807 0 L.toNat ≠ 0) : CLS S2 L ∧ gR S2 807 0 L.toNat ≠ 0 := by
  obtain ⟨⟨q, n, fc, h1, h2, h3, h4, h5⟩, h6⟩ := hE
  refine ⟨⟨q, n, fc, by rw [h7 L l0 l1]; exact gT_ext hd hX h1, gA_ext hd hX h2, h3, by rw [hr _ (by omega)]; exact h4, fun k a b => ?_⟩, by rw [h7 L l0 l1]; exact h6⟩
  obtain ⟨kd, x, y, y1, y2, y3, y4, y5, y6, y7, y8, y9, y10⟩ := h5 k a b
  exact ⟨kd, x, y, y1, y2, y3, y4, y5, y6, y7, by rw [hr _ (by omega)]; exact y8, ⟨fun z w => ⟨(y9.1 z w).1, by rw [hr _ (by omega)]; exact (y9.1 z w).2⟩, fun z => ⟨(y9.2 z).1, by rw [hr _ (by omega)]; exact (y9.2 z).2⟩⟩, y10⟩
/-- fields that a text touches -/
def PTX (f j : Nat) : Prop := RTF f j ∨ (f = 807 ∧ j = 0) ∨ (f = 808 ∧ j = 0) ∨ f = 1000 ∨ f = 1002 ∨ (1004 ≤ f ∧ f ≤ 1019)
/-- what a text leaves, but for cells -/
def FXJ (S S2 : St) : Prop := (∀ f j i, ¬ PTX f j → gI S2 f j i = gI S f j i) ∧ (∀ f j i, ¬ PTX f j → gL S2 f j i = gL S f j i) ∧ (∀ f j i, ¬ PTX f j → gR S2 f j i = gR S f j i) ∧ EXD S S2
theorem FXJ_of {S S1 S2 : St} {P : Nat → Nat → Prop} (h : CFT S S1) (F : FX P S1 S2) (p : ∀ f j, P f j → PTX f j) : FXJ S S2 := ⟨fun f j i q => (F.1 f j i (fun z => q (p f j z))).trans (h.1 f j i (fun z => q (Or.inl z))), fun f j i q => (F.2.1 f j i (fun z => q (p f j z))).trans (h.2.1 f j i (fun z => q (Or.inl z))), fun f j i q => (F.2.2.1 f j i (fun z => q (p f j z))).trans (h.2.2.1 f j i (fun z => q (Or.inl z))), EXD_trans h.2.2.2 (EXD_FX F)⟩
/-- the rows that a text can't touch, at the end -/
theorem INV_text {S S2 : St} {A B A' : Int → Int} {T : Int} (hI : INVA T S A B) (t0 : 0 ≤ T) (t1 : T < 512) (hJ : FXJ S S2) (hA : AR 1000 S2 A') (un : ∀ i, i ≠ 2 → A' i = A i) (a2 : A 2 ≤ A' 2) (a4 : A' 2 ≤ 4) (h808 : gI S2 808 0 0 = jj (A' 2)) (hT : TPE S2) (hF : FLT S2) (hX : TXS S2 A' B) : INV (T + 1) S2 := by
  obtain ⟨i1, i2, i3, i4, i5, i6, i7, i8, i9, i10, i11⟩ := hI
  have F : FX PTX S (S2.1, S2.2.1, S2.2.2.1, S.2.2.2) := ⟨hJ.1, hJ.2.1, hJ.2.2.1, rfl⟩
  have np : ∀ f j, (400 ≤ f ∧ f ≤ 408) ∨ (802 ≤ f ∧ f ≤ 811 ∧ j = 1) ∨ (802 ≤ f ∧ f ≤ 811 ∧ f ≠ 807 ∧ f ≠ 808) → ¬ PTX f j := fun f j z => by unfold PTX RTF; omega
  have w1 : WLD (S2.1, S2.2.1, S2.2.2.1, S.2.2.2) 1 B := WLD_FX1 F (fun f a b => np f 1 (by omega)) (fun f j a b c d => np f j (by omega)) i4
  have wr : WRT (S2.1, S2.2.1, S2.2.2.1, S.2.2.2) (WT T) := WRT_FX F (fun j => np 403 j (by omega)) i7
  have N1 : NUM A' (MT T) := by
    obtain ⟨o, c2, c2', c3, c3', c4, c4', c5, c5', hT, hS, hRk⟩ := id i5
    have t6 := o.2.1.2.1
    refine ⟨OKS_ext o (fun i a b c => (un i (by omega)).symm) (fun i a b => (un i (by omega)).symm), by omega, a4, by rw [un 3 (by decide)]; exact c3, by rw [un 3 (by decide)]; omega, by rw [un 4 (by decide)]; exact c4, by rw [un 4 (by decide)]; exact c4', by rw [un 5 (by decide)]; exact c5, by rw [un 5 (by decide)]; exact c5', fun t a b => ?_, fun k a b => ?_, fun k a b => ?_⟩
    · rw [un 1 (by decide)] at b
      rw [un _ (by omega)]; exact hT t a b
    · rw [un 5 (by decide)] at b
      rw [un _ (by omega), un _ (by omega), un _ (by omega), un _ (by omega)]; exact hS k a b
    · rw [un 4 (by decide)] at b
      obtain ⟨s1, s2, s3, s4⟩ := hRk k a b
      rw [un (75 + 96 * k) (by omega), un 1 (by decide)]
      refine ⟨OKR_ext s1 (fun i c d => (un _ (by omega)).symm) (fun i c d => (un _ (by omega)).symm), s2, s3, fun t c d => ?_⟩
      rw [un _ (by omega)]; exact s4 t c d
  have W0 : WLD S2 0 A' := by
    obtain ⟨⟨p1, p2, p3, p4, p5, p6, p7⟩, hS, hst⟩ := i3
    have a5 := i5.2.2.2.2.2.2.2.2.1
    have a0 := i5.1.2.2.1.2.1
    refine ⟨⟨?_, ?_, h808, ?_, ?_, fun k a b => ?_, fun k a b => ?_⟩, ?_, ?_⟩
    · rw [hJ.1 805 0 0 (np _ _ (by omega)), un 0 (by decide)]; exact p1
    · rw [hJ.1 806 0 0 (np _ _ (by omega)), un 1 (by decide)]; exact p2
    · rw [hJ.1 809 0 0 (np _ _ (by omega)), un 3 (by decide)]; exact p4
    · rw [hJ.1 811 0 0 (np _ _ (by omega)), un 5 (by decide)]; exact p5
    · rw [un 0 (by decide)] at b
      rw [hJ.1 804 0 _ (np _ _ (by omega)), un _ (by omega)]; exact p6 k a b
    · rw [un 5 (by decide)] at b
      rw [hJ.1 810 0 _ (np _ _ (by omega)), un _ (by omega)]; exact p7 k a b
    · have : SHX (S2.1, S2.2.1, S2.2.2.1, S.2.2.2) (31 * 0) 1 A' := SHX_ext (SHX_FX F (fun f a b => np f _ (by omega)) hS) (un 1 (by decide)).symm (fun i a b => (un i (by omega)).symm) (fun i a b => (un i (by omega)).symm)
      exact this
    · have s2 : STPS (S2.1, S2.2.1, S2.2.2.1, S.2.2.2) 0 A := STPS_FX F (fun f a b => np f _ (by omega)) (fun f j a b c d => np f _ (by omega)) hst
      have : STPS (S2.1, S2.2.1, S2.2.2.1, S.2.2.2) 0 A' := by
        obtain ⟨h4, ns, n0, n1, h2, h3⟩ := s2
        refine ⟨by rw [un 4 (by decide)]; exact h4, ns, n0, n1, h2, fun k a b => ?_⟩
        rw [un 4 (by decide)] at b ⊢
        refine SHT_ext (h3 k a b) (fun i c d => (un _ (by omega)).symm) (fun t c d => ?_) (fun i c d => (un _ (by omega)).symm)
        unfold rhm
        rw [un 1 (by decide), un (75 + 96 * k) (by omega), un (105 + 96 * k + t) (by omega), un (41 + t) (by omega)]
      exact this
  refine ⟨A', B, hA, fun k a b => (hJ.1 1001 0 _ (by unfold PTX RTF; omega)).trans (i2 k a b), W0, w1, NUM_mono N1 (by unfold MT; omega) (by unfold MT; omega), NUM_mono i6 (by unfold MT; omega) (by unfold MT; omega), WRT_mono wr (by unfold WT; omega), (hJ.1 1023 0 0 (by unfold PTX RTF; omega)).trans i8, hT, hF, hX⟩
