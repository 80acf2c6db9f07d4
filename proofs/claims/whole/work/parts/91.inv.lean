/-! WHAT HOLDS between calls; calls that do. -/
def MT (T : Int) : Int := 240 + 24000 * T
def WT (T : Int) : Int := 150000 * T
def TPE (S : St) : Prop := ∃ (n : Int) (b : Int → Int), gI S 501 0 0 = jj n ∧ gI S 1004 0 0 = jj n ∧ 0 ≤ n ∧ n ≤ 300 ∧ ∀ i : Int, 0 ≤ i → i < n → gI S 500 0 i.toNat = jj (b i) ∧ gI S 1003 0 i.toNat = jj (b i) ∧ 0 ≤ b i ∧ b i < 256
def FLT (S : St) : Prop := (gI S 101 0 0 = 0 ∧ gI S 1005 0 0 = -1 ∧ gI S 1006 0 0 = -1) ∨ (gI S 101 0 0 = 1 ∧ gI S 1005 0 0 = gI S 102 0 0 ∧ gI S 1006 0 0 = gI S 103 0 0)
def CLWL (S : St) (L : Int) (em et : Sem) : Prop := (∃ lw, f_X8_movesOf 0 S (jj L) = some lw ∧ EVX 8 S lw em) ∧ ∃ lt, f_X8_tearsOf 0 S (jj L) = some lt ∧ EVX 4 S lt et
/-- the clauses of a text -/
def CLS (S : St) (L : Int) : Prop := ∃ (q : Nat × Nat × Nat) (n : Nat) (fc : Nat → Int32), gT S (gR S 807 0 L.toNat) = some q ∧ gA S q.1 = some (3 * n, fc) ∧ n ≤ 24 ∧ gI S 1002 0 (681 * L).toNat = jj n ∧ ∀ k : Int, 0 ≤ k → k < n → ∃ kd a b : Int, 0 ≤ kd ∧ kd ≤ 9 ∧ 0 ≤ a ∧ a ≤ 9999 ∧ 0 ≤ b ∧ b ≤ 9999 ∧ fc (3 * k).toNat = jj kd ∧ gI S 1002 0 (681 * L + 1 + 3 * k).toNat = jj kd ∧ ((2 ≤ kd → kd ≠ 7 → fc (3 * k + 1).toNat = jj a ∧ gI S 1002 0 (681 * L + 1 + 3 * k + 1).toNat = jj a) ∧ ((kd = 3 ∨ kd = 5 ∨ kd = 6 ∨ kd = 8) → fc (3 * k + 2).toNat = jj b ∧ gI S 1002 0 (681 * L + 1 + 3 * k + 2).toNat = jj b)) ∧ (kd = 9 → a ≤ 60)
def TXS (S : St) (A B : Int → Int) : Prop := (∃ EM ET : Int → Sem, ∀ L : Int, -1 ≤ L → L < A 2 → CLWL S L (EM L) (ET L) ∧ RLW S L (EM L) (ET L)) ∧ (∀ L : Int, 0 ≤ L → L < A 2 → CLS S L ∧ gR S 807 0 L.toNat ≠ 0) ∧ B 2 ≤ A 2 ∧ (∀ L : Int, 0 ≤ L → L < B 2 → gR S 807 1 L.toNat = gR S 807 0 L.toNat) ∧ (∀ w t : Nat, w < 2 → t < 4 → gR S 807 w t = 0 ∨ ((∃ q, gT S (gR S 807 w t) = some q) ∧ gR S 807 w t < gZ S + 2)) ∧ ∀ n, gZ S ≤ n → gD S n = none
def INVA (T : Int) (S : St) (A B : Int → Int) : Prop := AR 1000 S A ∧ AR 1001 S B ∧ WLD S 0 A ∧ WLD S 1 B ∧ NUM A (MT T) ∧ NUM B (MT T) ∧ WRT S (WT T) ∧ gI S 1023 0 0 = jj 1 ∧ TPE S ∧ FLT S ∧ TXS S A B
def INV (T : Int) (S : St) : Prop := ∃ A B, INVA T S A B
def PRT (f j : Nat) : Prop := (1001 ≤ f ∧ f ≤ 1006) ∨ f = 500 ∨ f = 501 ∨ (101 ≤ f ∧ f ≤ 103) ∨ f = 807 ∨ (f = 808 ∧ j = 0) ∨ (400 ≤ f ∧ f ≤ 408 ∧ 31 ≤ j ∧ j ≤ 61) ∨ (802 ≤ f ∧ f ≤ 811 ∧ j = 1)
def NPR (f j : Nat) : Prop := ¬ PRT f j
theorem XOP_NPR {S S1 : St} (h : FX XOP S S1) : FX NPR S S1 := FX_sub h (fun f j q => by unfold XOP at q; unfold NPR PRT; omega)
theorem ROP_NPR {S S1 : St} (h : FX ROP S S1) : FX NPR S S1 := FX_sub h (fun f j q => by unfold ROP at q; unfold NPR PRT; omega)
theorem CLWL_FX {P : Nat → Nat → Prop} {S S1 : St} {L : Int} {em et : Sem} (h : FX P S S1) (p7 : ¬ P 807 0) (p8 : ¬ P 808 0) (hE : CLWL S L em et) : CLWL S1 L em et := by
  obtain ⟨⟨lw, h1, h2⟩, lt, h3, h4⟩ := hE
  refine ⟨⟨lw, ?_, FX_EVX h h2⟩, lt, ?_, FX_EVX h h4⟩
  · rw [← h1]
    simp only [f_X8_movesOf, h.1 808 0 0 p8, h.2.2.1 807 0 _ p7, FX_gT h]
  · rw [← h3]
    simp only [f_X8_tearsOf, h.1 808 0 0 p8, h.2.2.1 807 0 _ p7, FX_gT h]
theorem CLS_FX {P : Nat → Nat → Prop} {S S1 : St} {L : Int} (h : FX P S S1) (p7 : ¬ P 807 0) (p2 : ¬ P 1002 0) (hE : CLS S L) : CLS S1 L := by
  obtain ⟨q, n, fc, h1, h2, h3, h4, h5⟩ := hE
  refine ⟨q, n, fc, ?_, (FX_gA h _).trans h2, h3, (h.1 1002 0 _ p2).trans h4, fun k a b => ?_⟩
  · rw [h.2.2.1 807 0 _ p7, FX_gT h]; exact h1
  · obtain ⟨kd, x, y, g1, g2, g3, g4, g5, g6, g7, g8, g9, g10⟩ := h5 k a b
    exact ⟨kd, x, y, g1, g2, g3, g4, g5, g6, g7, (h.1 1002 0 _ p2).trans g8, ⟨fun z w => ⟨(g9.1 z w).1, (h.1 1002 0 _ p2).trans (g9.1 z w).2⟩, fun z => ⟨(g9.2 z).1, (h.1 1002 0 _ p2).trans (g9.2 z).2⟩⟩, g10⟩
theorem TXS_FX {P : Nat → Nat → Prop} {S S1 : St} {A B A' : Int → Int} (h : FX P S S1) (p7 : ∀ j, ¬ P 807 j) (p8 : ¬ P 808 0) (p2 : ¬ P 1002 0) (e2 : A' 2 = A 2) (hE : TXS S A B) : TXS S1 A' B := by
  obtain ⟨⟨EM, ET, h1⟩, h2, h3, h4, h5, h6⟩ := hE
  have zD : ∀ n, gD S1 n = gD S n := fun n => by unfold gD; rw [h.2.2.2]
  have zZ : gZ S1 = gZ S := by unfold gZ; rw [h.2.2.2]
  refine ⟨⟨EM, ET, fun L a b => ?_⟩, fun L a b => ?_, by rw [e2]; exact h3, fun L a b => ?_, fun w t a b => ?_, fun n hn => ?_⟩
  · rw [e2] at b
    obtain ⟨g1, g2⟩ := h1 L a b
    exact ⟨CLWL_FX h (p7 0) p8 g1, RLW_of g2 (fun k => h.1 1002 0 k p2)⟩
  · rw [e2] at b
    obtain ⟨g1, g2⟩ := h2 L a b
    exact ⟨CLS_FX h (p7 0) p2 g1, by rw [h.2.2.1 807 0 _ (p7 0)]; exact g2⟩
  · rw [h.2.2.1 807 1 _ (p7 1), h.2.2.1 807 0 _ (p7 0)]; exact h4 L a b
  · rw [h.2.2.1 807 w _ (p7 w), zZ]
    rcases h5 w t a b with g | ⟨⟨q, g⟩, g2⟩
    · exact Or.inl g
    · exact Or.inr ⟨⟨q, by rw [FX_gT h]; exact g⟩, g2⟩
  · rw [zD]; rw [zZ] at hn; exact h6 n hn
theorem TPE_FX {P : Nat → Nat → Prop} {S S1 : St} (h : FX P S S1) (p0 : ¬ P 500 0) (p1 : ¬ P 501 0) (p3 : ¬ P 1003 0) (p4 : ¬ P 1004 0) (hE : TPE S) : TPE S1 := by
  obtain ⟨n, b, h1, h2, h3, h4, h5⟩ := hE
  exact ⟨n, b, (h.1 501 0 0 p1).trans h1, (h.1 1004 0 0 p4).trans h2, h3, h4, fun i a c => by
    obtain ⟨g1, g2, g3⟩ := h5 i a c
    exact ⟨(h.1 500 0 _ p0).trans g1, (h.1 1003 0 _ p3).trans g2, g3⟩⟩
theorem FLT_FX {P : Nat → Nat → Prop} {S S1 : St} (h : FX P S S1) (p1 : ¬ P 101 0) (p2 : ¬ P 102 0) (p3 : ¬ P 103 0) (p5 : ¬ P 1005 0) (p6 : ¬ P 1006 0) (hE : FLT S) : FLT S1 := by
  unfold FLT
  rw [h.1 101 0 0 p1, h.1 102 0 0 p2, h.1 103 0 0 p3, h.1 1005 0 0 p5, h.1 1006 0 0 p6]
  exact hE
theorem WLD_FX1 {P : Nat → Nat → Prop} {S S1 : St} {B : Int → Int} (h : FX P S S1) (p : ∀ f, 802 ≤ f → f ≤ 811 → ¬ P f 1) (p2 : ∀ f j, 400 ≤ f → f ≤ 408 → 31 ≤ j → j ≤ 61 → ¬ P f j) (hW : WLD S 1 B) : WLD S1 1 B :=
  ⟨HDR_FX h (fun f a b => p f (by omega) b) hW.1, SHX_FX h (fun f a b => p2 f _ a b (by omega) (by omega)) hW.2.1, STPS_FX h (fun f a b => p f a (by omega)) (fun f j a b c d => p2 f j a b (by omega) (by omega)) hW.2.2⟩
theorem RCK_mono {A : Int → Int} {M M' : Int} (h : RCK A M) (hm : M ≤ M') : RCK A M' := fun k a b => ⟨OKR_mono (h k a b).1 hm, (h k a b).2⟩
theorem NUM_mono {A : Int → Int} {M M' : Int} (h : NUM A M) (hm : M ≤ M') (hb : M' ≤ 100000000) : NUM A M' := by
  obtain ⟨⟨o1, o2, o3, o4⟩, a2, a2', a3, a3', a4, a4', a5, a5', hT, hS, hR⟩ := h
  exact ⟨⟨OKR_mono o1 hm, o2, o3, hb⟩, a2, a2', a3, a3', a4, a4', a5, a5', hT, hS, RCK_mono hR hm⟩
theorem INVA_next {S S1 : St} {A B A' : Int → Int} {T : Int} (hI : INVA T S A B) (t0 : 0 ≤ T) (t1 : T < 512) (h : FX NPR S S1) (hA : AR 1000 S1 A') (hW : WLD S1 0 A') (hM : NUM A' (MT (T + 1))) (hR : WRT S1 (WT (T + 1))) (h23 : gI S1 1023 0 0 = jj 1) (e2 : A' 2 = A 2) : INV (T + 1) S1 := by
  obtain ⟨i1, i2, i3, i4, i5, i6, i7, i8, i9, i10, i11⟩ := hI
  have np : ∀ f j, PRT f j → ¬ NPR f j := fun f j p q => q p
  refine ⟨A', B, hA, FX_AR h (np _ _ (by unfold PRT; omega)) i2, hW, WLD_FX1 h (fun f a b => np _ _ (by unfold PRT; omega)) (fun f j a b c d => np _ _ (by unfold PRT; omega)) i4, hM, NUM_mono i6 (by unfold MT; omega) (by unfold MT; omega), hR, h23, TPE_FX h (np _ _ (by unfold PRT; omega)) (np _ _ (by unfold PRT; omega)) (np _ _ (by unfold PRT; omega)) (np _ _ (by unfold PRT; omega)) i9, FLT_FX h (np _ _ (by unfold PRT; omega)) (np _ _ (by unfold PRT; omega)) (np _ _ (by unfold PRT; omega)) (np _ _ (by unfold PRT; omega)) (np _ _ (by unfold PRT; omega)) i10, TXS_FX h (fun j => np _ _ (by unfold PRT; omega)) (np _ _ (by unfold PRT; omega)) (np _ _ (by unfold PRT; omega)) e2 i11⟩
/-- what a call begins with -/
theorem INVA_get {S : St} {A B : Int → Int} {T : Int} (hI : INVA T S A B) : ∃ em et, XC S A (MT T) (WT T) em et ∧ RC S A em et := by
  obtain ⟨i1, i2, i3, i4, i5, i6, i7, i8, i9, i10, ⟨EM, ET, h1⟩, -⟩ := hI
  obtain ⟨g1, g2⟩ := h1 (A 3) i5.2.2.2.1 i5.2.2.2.2.1
  exact ⟨EM (A 3), ET (A 3), ⟨i3, i5, i7, by unfold CLW; rw [i3.1.2.2.2.1]; exact g1⟩, i1, g2, i8⟩
theorem WLD_FXR {P : Nat → Nat → Prop} {S S1 : St} {A : Int → Int} (h : FX P S S1) (p : ∀ f j, f < 1000 → ¬ P f j) (hW : WLD S 0 A) : WLD S1 0 A :=
  ⟨HDR_FX h (fun f a b => p f _ (by omega)) hW.1, SHX_FX h (fun f a b => p f _ (by omega)) hW.2.1, STPS_FX h (fun f a b => p f _ (by omega)) (fun f j a b c d => p f _ (by omega)) hW.2.2⟩
/-- a call that does: both sides -/
theorem INV_op {S S1 S2 : St} {A B A' : Int → Int} {T M W : Int} {em et : Sem} (hI : INVA T S A B) (t0 : 0 ≤ T) (t1 : T < 512) (hX : XC S1 A' M W em et) (F1 : FX XOP S S1) (hR : RC S2 A' em et) (F2 : FX ROP S1 S2) (e2 : A' 2 = A 2) (hM : M ≤ MT (T + 1)) (hW : W ≤ WT (T + 1)) : INV (T + 1) S2 :=
  INVA_next hI t0 t1 (FX_trans (XOP_NPR F1) (ROP_NPR F2)) hR.1 (WLD_FXR F2 (fun f j a => by unfold ROP; omega) hX.1) (NUM_mono hX.2.1 hM (by unfold MT; omega)) (WRT_mono (WRT_FX F2 (fun j => by unfold ROP; omega) hX.2.2.1) hW) hR.2.2 e2
theorem RC_X {S S1 : St} {A : Int → Int} {em et : Sem} (h : RC S A em et) (F : FX XOP S S1) : RC S1 A em et := RC_step h F (by unfold XOP; omega) (by unfold XOP; omega) (FX_AR F (by unfold XOP; omega) h.1) rfl
/-- a call that does nothing -/
theorem INV_same {S : St} {A B : Int → Int} {T : Int} (hI : INVA T S A B) (t0 : 0 ≤ T) (t1 : T < 512) : INV (T + 1) S := by
  obtain ⟨i1, i2, i3, i4, i5, i6, i7, i8, i9, i10, i11⟩ := hI
  exact ⟨A, B, i1, i2, i3, i4, NUM_mono i5 (by unfold MT; omega) (by unfold MT; omega), NUM_mono i6 (by unfold MT; omega) (by unfold MT; omega), WRT_mono i7 (by unfold WT; omega), i8, i9, i10, i11⟩
/-- both sides of a call answer alike, and all holds behind it -/
def TWO (X Y : St → Option (Int32 × St)) (T : Int) (S : St) : Prop := ∃ v S1 S2, X S = some (v, S1) ∧ Y S1 = some (v, S2) ∧ INV (T + 1) S2
theorem AGR_2 {A B : Int → Int} (h : AGR A B) : B 2 = A 2 := (h 2 (by decide) (by decide) (by decide)).symm
theorem k_hand {S : St} {T : Int} (t0 : 0 ≤ T) (t1 : T < 512) (hI : INV T S) (x : Int32) : TWO (fun S => f_X9_hand S x) (fun S => f_X10_hand S x) T S := by
  obtain ⟨A, B, hI⟩ := hI
  obtain ⟨em, et, hX, hR⟩ := INVA_get hI
  obtain ⟨z, rfl, b1, b2⟩ := jj_ex x
  by_cases h : hok A z
  · obtain ⟨S1, e1, X1, F1⟩ := c_hand1 hX h
    obtain ⟨S2, e2, R2, F2⟩ := rc_hand1 hX.2.1 (RC_X hR F1) h
    exact ⟨_, S1, S2, e1, e2, INV_op hI t0 t1 X1 F1 R2 F2 (by unfold HNF; rw [UP_ne (by decide), UP_ne (by have := hX.2.1.1.2.2.1.1; omega)]) (by unfold MT; omega) (by unfold WT; omega)⟩
  · exact ⟨_, S, S, c_hand0 hX h b1 b2, rc_hand0 hX.2.1 hR h b1 b2, INV_same hI t0 t1⟩
theorem k_dough {S : St} {N : Nat} {T : Int} (hN : 4000 < N) (t0 : 0 ≤ T) (t1 : T < 512) (hI : INV T S) (x y : Int32) : TWO (fun S => f_X9_dough N S x y) (fun S => f_X10_dough N S x y) T S := by
  obtain ⟨A, B, hI⟩ := hI
  obtain ⟨em, et, hX, hR⟩ := INVA_get hI
  obtain ⟨z, rfl, b1, b2⟩ := jj_ex x
  obtain ⟨u, rfl, b3, b4⟩ := jj_ex y
  by_cases h : dok z u
  · obtain ⟨S1, e1, X1, F1⟩ := c_dough1 hN hX h (by unfold MT; omega)
    obtain ⟨S2, e2, R2, F2⟩ := rc_dough1 hN hX.2.1 (RC_X hR F1) h
    exact ⟨_, S1, S2, e1, e2, INV_op hI t0 t1 X1 F1 R2 F2 (DGF_far 2 (by have := h.1; omega) (by decide) h.1.1 h.1.2 hX.2.1.2.2.2.2.2.2.1) (by unfold MT; omega) (by unfold WT; omega)⟩
  · exact ⟨_, S, S, c_dough0 h b1 b2 b3 b4, rc_dough0 h b1 b2 b3 b4, INV_same hI t0 t1⟩
theorem k_town {S : St} {N : Nat} {T : Int} (hN : 4000 < N) (t0 : 0 ≤ T) (t1 : T < 512) (hI : INV T S) (x : Int32) : TWO (fun S => f_X9_town N S x) (fun S => f_X10_town S x) T S := by
  obtain ⟨A, B, hI⟩ := hI
  obtain ⟨em, et, hX, hR⟩ := INVA_get hI
  obtain ⟨z, rfl, b1, b2⟩ := jj_ex x
  by_cases h : tok A z
  · obtain ⟨S1, e1, X1, F1⟩ := c_town1 hN hX h
    obtain ⟨S2, e2, R2, F2⟩ := rc_town1 hX.2.1 (RC_X hR F1) h
    have := hX.2.1.1.2.1.1
    exact ⟨_, S1, S2, e1, e2, INV_op hI t0 t1 X1 F1 R2 F2 (TNF_far 2 (by decide) (by omega) (by omega)) (by unfold MT; omega) (by unfold WT; omega)⟩
  · exact ⟨_, S, S, c_town0 hX h b1 b2, rc_town0 hX.2.1 hR h b1 b2, INV_same hI t0 t1⟩
theorem k_stroke {S : St} {N : Nat} {T rt : Int} (hN : 4000 < N) (t0 : 0 ≤ T) (t1 : T < 512) (hI : INV T S) (x y : Int32) (hr : rt = 0 ∨ rt = 1) : TWO (fun S => f_X9_stroke N S x y (jj rt)) (fun S => f_X10_stroke N S x y (jj rt)) T S := by
  obtain ⟨A, B, hI⟩ := hI
  obtain ⟨em, et, hX, hR⟩ := INVA_get hI
  obtain ⟨z, rfl, b1, b2⟩ := jj_ex x
  obtain ⟨u, rfl, b3, b4⟩ := jj_ex y
  by_cases h : sok A z u
  · obtain ⟨S1, e1, X1, F1⟩ := c_stroke1 hN hX (by unfold WT; omega) h hr
    obtain ⟨S2, e2, R2, F2⟩ := r_stroke1 hN hX.2.1 (RC_X hR F1) h hr
    have hh := h.2.1
    exact ⟨_, S1, S2, e1, e2, INV_op hI t0 t1 X1 F1 R2 F2 (by rw [AGR_2 (STW_AGR (NUM_KPF hX.2.1).1 (by omega) (by omega) hr), keep_row hX.2.1 2 (by decide) (by decide)]) (by unfold MT; omega) (by unfold WT; omega)⟩
  · exact ⟨_, S, S, c_stroke0 hX h b1 b2 b3 b4, r_stroke0 hX.2.1 hR h b1 b2 b3 b4, INV_same hI t0 t1⟩
theorem k_trim {S : St} {N : Nat} {T : Int} (hN : 4000 < N) (t0 : 0 ≤ T) (t1 : T < 512) (hI : INV T S) : TWO (fun S => f_X9_trim S) (fun S => f_X10_trim N S) T S := by
  obtain ⟨A, B, hI⟩ := hI
  obtain ⟨em, et, hX, hR⟩ := INVA_get hI
  obtain ⟨S1, e1, X1, F1⟩ := c_trim hX
  obtain ⟨S2, e2, R2, F2⟩ := rc_trim hN hX.2.1 (RC_X hR F1)
  refine ⟨_, S1, S2, e1, e2, INV_op hI t0 t1 X1 F1 R2 F2 ?_ (by unfold MT; omega) (by unfold WT; omega)⟩
  split
  · rw [TRF_far (by decide) (by decide), keep_row hX.2.1 2 (by decide) (by decide)]
  · rfl
theorem k_patch {S : St} {N : Nat} {T : Int} (hN : 4000 < N) (t0 : 0 ≤ T) (t1 : T < 512) (hI : INV T S) (x y : Int32) : TWO (fun S => f_X9_patch S x y) (fun S => f_X10_patch N S x y) T S := by
  obtain ⟨A, B, hI⟩ := hI
  obtain ⟨em, et, hX, hR⟩ := INVA_get hI
  obtain ⟨z, rfl, b1, b2⟩ := jj_ex x
  obtain ⟨u, rfl, b3, b4⟩ := jj_ex y
  by_cases h : pok A z u
  · obtain ⟨S1, e1, X1, F1⟩ := c_patch1 hX h
    obtain ⟨S2, e2, R2, F2⟩ := r_patch1 hN hX.2.1 (RC_X hR F1) h
    have hh := h.1
    exact ⟨_, S1, S2, e1, e2, INV_op hI t0 t1 X1 F1 R2 F2 (by rw [AGR_2 (PTF_AGR (by omega) (by omega)), keep_row hX.2.1 2 (by decide) (by decide)]) (by unfold MT; omega) (by unfold WT; omega)⟩
  · exact ⟨_, S, S, c_patch0 hX h b1 b2 b3 b4, r_patch0 hX.2.1 hR h b1 b2 b3 b4, INV_same hI t0 t1⟩
theorem PTN_AGR2 {em et : Sem} {M : Int} : ∀ (m : Nat) (A : Int → Int), NUM A M → PTN em et m A 2 = A 2 ∧ PTN em et m A 3 = A 3 := by
  intro m
  induction m with
  | zero => intro A h; exact ⟨rfl, rfl⟩
  | succ m ih =>
    intro A h
    show (if 9999 ≤ A 6 then A else PTN em et m (PSF 1 em et (KPF A))) 2 = A 2 ∧ (if 9999 ≤ A 6 then A else PTN em et m (PSF 1 em et (KPF A))) 3 = A 3
    by_cases q : 9999 ≤ A 6
    · rw [if_pos q]; exact ⟨rfl, rfl⟩
    · rw [if_neg q]
      have k := NUM_KPF h
      have := ih _ (PSF_NUM (em := em) (et := et) k (by rw [k6 h]; omega))
      rw [this.1, this.2, AGR_2 (PSF_AGR k.1), PSF_3 k.1, keep_row h 2 (by decide) (by decide), keep_row h 3 (by decide) (by decide)]
      exact ⟨rfl, rfl⟩
theorem k_roll {S : St} {N : Nat} {T : Int} (hN : 4000 < N) (t0 : 0 ≤ T) (t1 : T < 512) (hI : INV T S) (x : Int32) : TWO (fun S => f_X9_roll N S x) (fun S => f_X10_roll N S x) T S := by
  obtain ⟨A, B, hI⟩ := hI
  obtain ⟨em, et, hX, hR⟩ := INVA_get hI
  obtain ⟨z, rfl, b1, b2⟩ := jj_ex x
  by_cases h : rok A z
  · obtain ⟨S1, e1, X1, F1⟩ := c_roll1 hN hX (by unfold WT; omega) h
    obtain ⟨S2, e2, R2, F2⟩ := rc_roll1 hN hX.2.1 (RC_X hR F1) h
    exact ⟨_, S1, S2, e1, e2, INV_op hI t0 t1 X1 F1 R2 F2 (PTN_AGR2 _ A hX.2.1).1 (by unfold MT; omega) (by unfold WT; omega)⟩
  · exact ⟨_, S, S, c_roll0 hX h b1 b2, rc_roll0 hX.2.1 hR h b1 b2, INV_same hI t0 t1⟩
theorem YRS_2 {em et : Sem} {A : Int → Int} {M s n : Int} (hM : NUM A M) (hy : yok s n) : YRS em et A s n 2 = A 2 := by
  have MK := NUM_KPF hM
  obtain ⟨⟨y1, y2⟩, y3, y4⟩ := hy
  have ok := UP_OKS (k := 7) (v := s * 2 + 281) MK.1 (Or.inr ⟨rfl, by omega, by omega⟩)
  have M2 : NUM (UP (KPF A) 7 (s * 2 + 281)) M := NUM_step MK (fun i a b c => (UP_ne (by omega)).symm) ok
  have one : ∀ B : Int → Int, NUM B M → YR1 em et B 2 = B 2 := by
    intro B hB
    have hO := hB.1
    have b0 := hO.1.2.2.2.2.2.2.2.1
    have D : NUM (DRW B) M := NUM_step hB DRW_AGR (DRW_OKS hO)
    have d2 : DRW B 2 = B 2 := DRW_ne (by decide)
    unfold YR1
    repeat' split
    · exact d2
    · rw [AGR_2 (STW_AGR D.1 (by omega) (by omega) (Or.inl rfl)), d2]
    · rw [AGR_2 (STW_AGR D.1 (by omega) (by omega) (Or.inr rfl)), d2]
    · rw [TRF_far (by decide) (by decide), d2]
    · rw [AGR_2 (PTF_AGR (by omega) (by omega)), d2]
    · exact d2
    · exact d2
    · rw [AGR_2 (PSF_AGR D.1), d2]
  have : ∀ (m : Nat) (B : Int → Int), NUM B M → YRN em et m B 2 = B 2 := by
    intro m
    induction m with
    | zero => intro B h; rfl
    | succ m ih => intro B h; show YRN em et m (YR1 em et B) 2 = B 2; rw [ih _ (YR1_ok h).1, one B h]
  unfold YRS
  rw [this _ _ M2, UP_ne (by decide), keep_row hM 2 (by decide) (by decide)]
theorem k_years {S : St} {N : Nat} {T : Int} (hN : 4000 < N) (t0 : 0 ≤ T) (t1 : T < 512) (hI : INV T S) (x y : Int32) : TWO (fun S => f_X9_years N S x y) (fun S => f_X10_years N S x y) T S := by
  obtain ⟨A, B, hI⟩ := hI
  obtain ⟨em, et, hX, hR⟩ := INVA_get hI
  obtain ⟨z, rfl, b1, b2⟩ := jj_ex x
  obtain ⟨u, rfl, b3, b4⟩ := jj_ex y
  by_cases h : yok z u
  · obtain ⟨S1, e1, X1, F1⟩ := c_years1 hN hX (by unfold WT; omega) h
    obtain ⟨S2, e2, R2, F2⟩ := rc_years1 hN hX.2.1 (RC_X hR F1) h
    exact ⟨_, S1, S2, e1, e2, INV_op hI t0 t1 X1 F1 R2 F2 (YRS_2 hX.2.1 h) (by unfold MT; omega) (by unfold WT; omega)⟩
  · exact ⟨_, S, S, c_years0 h b1 b2 b3 b4, rc_years0 h b1 b2 b3 b4, INV_same hI t0 t1⟩
theorem k_undo {S : St} {N : Nat} {T : Int} (hN : 4000 < N) (t0 : 0 ≤ T) (t1 : T < 512) (hI : INV T S) : TWO (fun S => f_X9_undo S) (fun S => f_X10_undo N S) T S := by
  obtain ⟨A, B, hI⟩ := hI
  obtain ⟨em, et, hX, hR⟩ := INVA_get hI
  by_cases h : 0 < A 4
  · obtain ⟨S1, e1, X1, F1⟩ := c_undo1 hX h
    obtain ⟨S2, e2, R2, F2⟩ := rc_undo1 hN hX.2.1 (RC_X hR F1) h
    exact ⟨_, S1, S2, e1, e2, INV_op hI t0 t1 X1 F1 R2 F2 (UNF_far 2 (by decide) (by decide)) (by unfold MT; omega) (by unfold WT; omega)⟩
  · exact ⟨_, S, S, c_undo0 hX h, rc_undo0 hX.2.1 hR h, INV_same hI t0 t1⟩
