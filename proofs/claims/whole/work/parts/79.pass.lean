/-! DRAWS and TURNS. -/
theorem kk_rem {a b : Int} (h : 0 ≤ a) (h2 : a ≤ 9000000000) (h3 : 0 < b) (h4 : b ≤ 9000000000) : kk a - kk a / kk b * kk b = kk (a % b) := by
  have hd : kk a / kk b = kk (a / b) := by
    apply Int64.toInt.inj
    have hb : kk b ≠ -1 := by
      intro e
      have := congrArg Int64.toInt e
      rw [kk_toInt (by omega) (by omega), show (-1 : Int64).toInt = -1 from rfl] at this
      omega
    rw [Int64.toInt_div_of_ne_right _ _ hb, kk_toInt (by omega) (by omega), kk_toInt (by omega) (by omega), Int.tdiv_eq_ediv_of_nonneg h]
    have h5 : a / b ≤ a := Int.ediv_le_self b h
    have h6 : 0 ≤ a / b := Int.ediv_nonneg h (by omega)
    rw [kk_toInt (by omega) (by omega)]
  rw [hd, kk_mul, kk_sub]
  congr 1
  have := Int.mul_ediv_add_emod a b
  rw [Int.mul_comm] at this
  omega
theorem SHX_FX {P : Nat → Nat → Prop} {S S1 : St} {j : Nat} {wf : Int} {A : Int → Int} (h : FX P S S1) (p : ∀ f, 400 ≤ f → f ≤ 408 → ¬ P f j) (hX : SHX S j wf A) : SHX S1 j wf A := by
  obtain ⟨X1, X2, X3, X4, X5⟩ := hX
  exact ⟨FX_LAY h p X1, (h.1 406 j 0 (p _ (by omega) (by omega))).trans X2, (h.1 408 j 0 (p _ (by omega) (by omega))).trans X3, FX_HOM h (p _ (by omega) (by omega)) X4, fun w => FX_BKS h (p _ (by omega) (by omega)) (p _ (by omega) (by omega)) (X5 w)⟩
theorem SHX_ext {S : St} {j : Nat} {wf : Int} {A B : Int → Int} (hX : SHX S j wf A) (e1 : A 1 = B 1) (e : ∀ i, 6 ≤ i → i < 41 → A i = B i) (e2 : ∀ i, 2955 ≤ i → i < 3015 → A i = B i) : SHX S j wf B := by
  obtain ⟨X1, X2, X3, X4, X5⟩ := hX
  refine ⟨LAY_ext X1 (fun i a b => e i a (by omega)), by rw [← e 8 (by decide) (by decide)]; exact X2, by rw [← e 7 (by decide) (by decide)]; exact X3, HOM_ext X4 (fun t a b => ?_), fun w => ?_⟩
  · unfold hmA
    rw [e1, e (35 + t) (by omega) (by omega)]
  · rw [← e 10 (by decide) (by decide)]
    exact BKS_ext (X5 w) (fun i a b => e2 (2955 + i) (by omega) (by omega))
/-- the class's sheet, one number anew -/
theorem SHX_turn {S : St} {j : Nat} {wf v : Int} {A : Int → Int} (hX : SHX S j wf A) : SHX (sI S 407 j 0 (jj v)) j wf (UP A 6 v) := by
  obtain ⟨⟨a1, a2, a3, a4⟩, X2, X3, X4, X5⟩ := hX
  refine ⟨⟨fun c q q2 => by rw [gI_sI, if_neg (by omega), UP_ne (by omega)]; exact a1 c q q2, by rw [gI_sI, if_neg (by omega)]; exact tb_ext a2 (fun c q q2 => by rw [UP_ne (by omega)]), by rw [gI_sI, if_neg (by omega), UP_ne (by omega)]; exact a3, by rw [gI_sI, if_pos ⟨rfl, rfl, rfl⟩, UP_hit]⟩, by rw [gI_sI, if_neg (by omega), UP_ne (by omega)]; exact X2, by rw [gI_sI, if_neg (by omega), UP_ne (by omega)]; exact X3, fun t q q2 => ?_, fun w => ?_⟩
  · rw [gI_sI, if_neg (by omega), X4 t q q2]
    unfold hmA
    rw [UP_ne (by omega), UP_ne (by omega)]
  · obtain ⟨wr, h1, h2, h3, h4, h5⟩ := X5 w
    rw [UP_ne (by omega)]
    exact ⟨wr, by rw [gI_sI, if_neg (by omega)]; exact h1, h2, h3, h4, fun i q q2 => by rw [gL_sI]; unfold bkA; rw [UP_ne (by omega), UP_ne (by omega)]; exact h5 i q q2⟩
theorem SHX_draw {S : St} {j : Nat} {wf v : Int} {A : Int → Int} (hX : SHX S j wf A) : SHX (sI S 408 j 0 (jj v)) j wf (UP A 7 v) := by
  obtain ⟨⟨a1, a2, a3, a4⟩, X2, X3, X4, X5⟩ := hX
  refine ⟨⟨fun c q q2 => by rw [gI_sI, if_neg (by omega), UP_ne (by omega)]; exact a1 c q q2, by rw [gI_sI, if_neg (by omega)]; exact tb_ext a2 (fun c q q2 => by rw [UP_ne (by omega)]), by rw [gI_sI, if_neg (by omega), UP_ne (by omega)]; exact a3, by rw [gI_sI, if_neg (by omega), UP_ne (by omega)]; exact a4⟩, by rw [gI_sI, if_neg (by omega), UP_ne (by omega)]; exact X2, by rw [gI_sI, if_pos ⟨rfl, rfl, rfl⟩, UP_hit], fun t q q2 => ?_, fun w => ?_⟩
  · rw [gI_sI, if_neg (by omega), X4 t q q2]
    unfold hmA
    rw [UP_ne (by omega), UP_ne (by omega)]
  · obtain ⟨wr, h1, h2, h3, h4, h5⟩ := X5 w
    rw [UP_ne (by omega)]
    exact ⟨wr, by rw [gI_sI, if_neg (by omega)]; exact h1, h2, h3, h4, fun i q q2 => by rw [gL_sI]; unfold bkA; rw [UP_ne (by omega), UP_ne (by omega)]; exact h5 i q q2⟩
def DRW (A : Int → Int) : Int → Int := UP A 7 ((A 7 * 541 + 419) % 30713)
theorem DRW_ne {A : Int → Int} {i : Int} (h : i ≠ 7) : DRW A i = A i := UP_ne h
theorem DRW_7 {A : Int → Int} (h : 0 ≤ A 7) : 0 ≤ DRW A 7 ∧ DRW A 7 < 30713 := by
  unfold DRW
  rw [UP_hit]
  omega
theorem UP_OKS {A : Int → Int} {M k v : Int} (hO : OKS A M) (hk : k = 6 ∧ 0 ≤ v ∧ v ≤ 9999 ∨ k = 7 ∧ 0 ≤ v ∧ v < 30713) : OKS (UP A k v) M := by
  obtain ⟨⟨o1, o2, o3, o4, o5, o6, o7, o8, o9, o10, o11, o12⟩, ⟨t1, t2, t3⟩, ⟨g1, g2, g3⟩, hM⟩ := hO
  have e11 : pre (fun i => UP A k v (11 + i)) 12 = pre (fun i => A (11 + i)) 12 := pre_ext 12 (fun i a b => UP_ne (by omega))
  have x0 : UP A k v 0 = A 0 := UP_ne (by omega)
  have x1 : UP A k v 1 = A 1 := UP_ne (by omega)
  have x8 : UP A k v 8 = A 8 := UP_ne (by omega)
  have x9 : UP A k v 9 = A 9 := UP_ne (by omega)
  have x10 : UP A k v 10 = A 10 := UP_ne (by omega)
  refine ⟨⟨fun i a b => by rw [UP_ne (by omega)]; exact o1 i a b, fun i a b => by rw [UP_ne (by omega)]; exact o2 i a b, by rw [x9]; exact o3, by rw [x8]; exact o4, by rw [e11, x9, x8]; exact o5, ?_, ?_, ?_, ?_, by rw [x10]; exact o10, by rw [x10]; exact o11, fun i a b => ?_⟩, ⟨by rw [x1]; exact t1, by rw [x1]; exact t2, fun t a b => by rw [UP_ne (by omega)]; rw [x1] at b; exact t3 t a b⟩, ⟨by rw [x0]; exact g1, by rw [x0]; exact g2, fun t a b => by rw [UP_ne (by omega)]; rw [x0] at b; exact g3 t a b⟩, hM⟩
  · rw [UP_at]; split <;> omega
  · rw [UP_at]; split <;> omega
  · rw [UP_at]; split <;> omega
  · rw [UP_at]; split <;> omega
  · rw [x10] at b
    unfold bkA
    rw [UP_ne (by omega), UP_ne (by omega)]
    exact o12 i a b
theorem DRW_OKS {A : Int → Int} {M : Int} (hO : OKS A M) : OKS (DRW A) M := by
  have := hO.1.2.2.2.2.2.2.2.1
  exact UP_OKS hO (Or.inr ⟨rfl, by omega, by omega⟩)
theorem x_drawn {S : St} {j : Nat} {wf M : Int} {A : Int → Int} (hO : OKS A M) (hX : SHX S j wf A) : ∃ S', f_X4_drawn j S = some (jj (A 7), S') ∧ SHX S' j wf (DRW A) ∧ FX (fun f j' => f = 408 ∧ j' = j) S S' := by
  have b0 := hO.1.2.2.2.2.2.2.2.1
  have b1 := hO.1.2.2.2.2.2.2.2.2.1
  unfold f_X4_drawn
  rw [hX.2.2.1]
  simp only [lt, jj_of, jj_mul, jj_add]
  rw [jj_rem (by omega) (by omega) (by decide) (by decide)]
  exact ⟨_, rfl, SHX_draw hX, FX_sI (FX_refl _ _) ⟨rfl, rfl⟩⟩
theorem r_drawn {S : St} {M m : Int} {A : Int → Int} (hO : OKS A M) (hA : AR 1000 S A) (m0 : 0 < m) (m1 : m ≤ 1000) : ∃ S', f_X10_drawnBy S (jj m) = some (jj (A 7 % m), S') ∧ AR 1000 S' (DRW A) ∧ FX (fun f _ => f = 1000) S S' := by
  have b0 := hO.1.2.2.2.2.2.2.2.1
  have b1 := hO.1.2.2.2.2.2.2.2.2.1
  have e7 : gI S 1000 0 7 = jj (A 7) := hA 7 (by decide) (by decide)
  unfold f_X10_drawnBy
  rw [chk_true (jj_nz (by omega) (by omega) (by omega)), e7, jj_rem (by omega) (by omega) (by omega) (by omega), jj_long (by omega) (by omega)]
  simp only [lt, kk_of, kk_mul, kk_add]
  rw [kk_rem (by omega) (by omega) (by decide) (by decide), kk_int]
  exact ⟨_, rfl, AR_set hA (k := 7) (by decide), FX_sI (FX_refl _ _) rfl⟩
def PSF (wf : Int) (em et : Sem) (A : Int → Int) : Int → Int :=
  if A 0 ≤ 0 then UP A 6 (A 6 + 1) else UP (if A (11 + A 7 % 12) ≤ 0 then DRW (DRW A) else STW wf em et (DRW (DRW A)) (A 6 % A 0) (A 7 % 12) (DRW A 7 % 2)) 6 (A 6 + 1)
theorem STG_ext {S : St} {A B : Int → Int} (h : STG S A) (e0 : A 0 = B 0) (e : ∀ k, 0 ≤ k → k < 4 → A (47 + k) = B (47 + k)) (h4 : A 0 ≤ 4) : STG S B := ⟨by rw [← e0]; exact h.1, fun k a b => by rw [← e0] at b; rw [← e k a (by omega)]; exact h.2 k a b⟩
theorem STG_FX {P : Nat → Nat → Prop} {S S1 : St} {A : Int → Int} (h : FX P S S1) (p4 : ¬ P 804 0) (p5 : ¬ P 805 0) (hG : STG S A) : STG S1 A := ⟨(h.1 805 0 0 p5).trans hG.1, fun k a b => (h.1 804 0 _ p4).trans (hG.2 k a b)⟩
theorem PSF_OKS {wf : Int} {em et : Sem} {A : Int → Int} {M : Int} (hO : OKS A M) (h6 : A 6 < 9999) : OKS (PSF wf em et A) M := by
  have t0 := hO.1.2.2.2.2.2.1
  have b0 := hO.1.2.2.2.2.2.2.2.1
  have hh := hO.2.2.1
  unfold PSF
  by_cases q : A 0 ≤ 0
  · rw [if_pos q]; exact UP_OKS hO (Or.inl ⟨rfl, by omega, by omega⟩)
  · rw [if_neg q]
    refine UP_OKS ?_ (Or.inl ⟨rfl, by omega, by omega⟩)
    have o2 := DRW_OKS (DRW_OKS hO)
    by_cases w : A (11 + A 7 % 12) ≤ 0
    · rw [if_pos w]; exact o2
    · rw [if_neg w]
      have := Int.emod_nonneg (A 6) (show A 0 ≠ 0 by omega)
      have := Int.emod_lt_of_pos (A 6) (show 0 < A 0 by omega)
      exact STW_OKS o2 ⟨by omega, by have := hh.2.1; omega⟩ (by omega) (by omega) (by omega)
theorem x_pass {S : St} {j N : Nat} {em et : Sem} {A : Int → Int} {wf wr M : Int} (hN : 4000 < N) (hj : j < 66) (hO : OKS A M) (hX : SHX S j wf A) (hG : STG S A) (hC : CLW S em et) (hf : wf = 0 ∨ wf = 1) (hw : gI S 403 j 0 = jj wr) (w0 : 0 ≤ wr) (w1 : wr < 100000000) : ∃ S' wr', f_X2_passTurn N j S = some S' ∧ SHX S' j wf (PSF wf em et A) ∧ FX (PUP j) S S' ∧ gI S' 403 j 0 = jj wr' ∧ 0 ≤ wr' ∧ wr' ≤ wr + 1 := by
  have t0 := hO.1.2.2.2.2.2.1
  have t1 := hO.1.2.2.2.2.2.2.1
  have hh := hO.2.2.1
  have h00 := hh.1
  have h04 := hh.2.1
  have fin : ∀ (S1 : St) (B : Int → Int) (wr' : Int), SHX S1 j wf B → B 6 = A 6 → FX (PUP j) S S1 → gI S1 403 j 0 = jj wr' → 0 ≤ wr' → wr' ≤ wr + 1 → ∃ S' wr', f_X2_passTurn_b63 N j S1 = some S' ∧ SHX S' j wf (UP B 6 (A 6 + 1)) ∧ FX (PUP j) S S' ∧ gI S' 403 j 0 = jj wr' ∧ 0 ≤ wr' ∧ wr' ≤ wr + 1 := by
    intro S1 B wr' X1 e6 F1 W1 a b
    unfold f_X2_passTurn_b63
    rw [X1.1.2.2.2, e6, jj_of, jj_add]
    exact ⟨_, wr', rfl, SHX_turn X1, FX_sI F1 (by unfold PUP; omega), by rw [gI_sI, if_neg (by omega)]; exact W1, a, b⟩
  unfold f_X2_passTurn PSF
  rw [hG.1]
  simp (disch := omega) only [jj_of, jj_add, jj_sub, jj_mul, jj_neg, jj_le, jj_lt, jj_eq, jj_nat, chk_true (jj_inb _ _ _), chk_true (jj_nz _ _ _), lt]
  by_cases q : A 0 ≤ 0
  · rw [if_pos q, if_pos q]
    exact fin S A wr hX rfl (FX_refl _ _) hw (by omega) (by omega)
  · rw [if_neg q, if_neg q]
    obtain ⟨S1, e1, X1, F1⟩ := x_drawn hO hX
    have O1 := DRW_OKS hO
    obtain ⟨S2, e2, X2, F2⟩ := x_drawn O1 X1
    have O2 := DRW_OKS O1
    have b0 := hO.1.2.2.2.2.2.2.2.1
    have b1 := hO.1.2.2.2.2.2.2.2.2.1
    have d7 := DRW_7 b0
    rw [bnd_of e1]
    simp only
    rw [bnd_of e2]
    simp only
    rw [jj_rem b0 (by omega) (by decide) (by decide), jj_rem d7.1 (by omega) (by decide) (by decide)]
    have FF : FX (PUP j) S S2 := FX_trans (FX_sub F1 (fun f j' q => by unfold PUP; omega)) (FX_sub F2 (fun f j' q => by unfold PUP; omega))
    have W2 : gI S2 403 j 0 = jj wr := by rw [F2.1 403 j 0 (by omega), F1.1 403 j 0 (by omega)]; exact hw
    have G2 := STG_FX FF (by unfold PUP; omega) (by unfold PUP; omega) hG
    have two : (if jj (DRW A 7 % 2) = jj 1 then f_X2_passTurn_b33 N j (jj (A 7 % 12)) (jj 1) S2 else f_X2_passTurn_b33 N j (jj (A 7 % 12)) (jj 0) S2) = f_X2_passTurn_b33 N j (jj (A 7 % 12)) (jj (DRW A 7 % 2)) S2 := by
      simp (disch := omega) only [jj_eq]
      by_cases w : DRW A 7 % 2 = 1
      · rw [if_pos w, w]
      · rw [if_neg w, show DRW A 7 % 2 = 0 by omega]
    rw [two]
    unfold f_X2_passTurn_b33
    have e11 := X2.1.1 (A 7 % 12) (by omega) (by omega)
    rw [DRW_ne (by omega), DRW_ne (by omega)] at e11
    have e6 := X2.1.2.2.2
    rw [DRW_ne (by omega), DRW_ne (by omega)] at e6
    have c0 := (OKR_CB hO.1 hO.2.2.2) (A 7 % 12) (by omega) (by omega)
    simp only at c0
    rw [chk_true (jj_inb (by omega) (by omega) (by omega)), jj_nat (by omega) (by omega), e11, G2.1, e6]
    simp (disch := omega) only [jj_of, jj_add, jj_sub, jj_mul, jj_neg, jj_le, jj_lt, jj_eq, jj_nat, chk_true (jj_inb _ _ _), chk_true (jj_nz _ _ _), lt]
    by_cases w : A (11 + A 7 % 12) ≤ 0
    · rw [if_pos w, if_pos w]
      exact fin S2 _ wr X2 (by rw [DRW_ne (by omega), DRW_ne (by omega)]) FF W2 (by omega) (by omega)
    · rw [if_neg w, if_neg w, jj_rem t0 (by omega) (by omega) (by omega)]
      have m0 := Int.emod_nonneg (A 6) (show A 0 ≠ 0 by omega)
      have m1 := Int.emod_lt_of_pos (A 6) (show 0 < A 0 by omega)
      have x0 : DRW (DRW A) 0 = A 0 := by rw [DRW_ne (by omega), DRW_ne (by omega)]
      obtain ⟨S3, e3, X3, F3, W3⟩ := x_stroke (em := em) (et := et) (h := A 6 % A 0) (c := A 7 % 12) (rt := DRW A 7 % 2) hN hj O2 X2 (STG_ext G2 x0.symm (fun k a b => by rw [DRW_ne (by omega), DRW_ne (by omega)]) h04) (FX_CLW FF (by unfold PUP; omega) (by unfold PUP; omega) (by unfold PUP; omega) hC) ⟨by omega, by rw [x0]; exact m1⟩ (by omega) (by omega) (by omega) hf W2 w0 w1
      rw [bnd_of e3]
      have n0 := O2.1.2.2.2.2.2.2.2.2.2.1
      have n1 := O2.1.2.2.2.2.2.2.2.2.2.2.1
      exact fin S3 _ (NXW wr) X3 (by rw [STW_far n0 n1 (by omega) (by omega) (by omega) 6 (by omega), DRW_ne (by omega), DRW_ne (by omega)]) (FX_trans FF F3) W3 (NXW_b w0).1 (NXW_b w0).2
