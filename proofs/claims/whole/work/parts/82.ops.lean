/-! WHAT IS DONE: strokes, trimming, patching, turns, on both sides. -/
def AGR (A B : Int → Int) : Prop := ∀ i : Int, 0 ≤ i → i < 2955 → (i < 6 ∨ 41 ≤ i) → A i = B i
def WRT (S : St) (W : Int) : Prop := ∀ j : Nat, j < 66 → ∃ wr : Int, gI S 403 j 0 = jj wr ∧ 0 ≤ wr ∧ wr ≤ W
def XC (S : St) (A : Int → Int) (M W : Int) (em et : Sem) : Prop := WLD S 0 A ∧ NUM A M ∧ WRT S W ∧ CLW S em et
def XOP (f j : Nat) : Prop := (200 ≤ f ∧ f ≤ 205) ∨ (400 ≤ f ∧ f ≤ 408 ∧ j ≤ 30) ∨ ((802 ≤ f ∧ f ≤ 806 ∨ f = 810 ∨ f = 811) ∧ j = 0)
def ROP (f _j : Nat) : Prop := f = 1000 ∨ (1020 ≤ f ∧ f ≤ 1022) ∨ f = 1024
theorem AGR_rec {A B : Int → Int} {M : Int} (h : AGR A B) (hN : NUM A M) : ∀ k : Int, 0 ≤ k → k < A 4 → (∀ i, 6 ≤ i → i < 41 → rrow A k i = rrow B k i) ∧ (∀ i, 0 ≤ i → i < 6 → rhm A k i = rhm B k i) ∧ (∀ i, 0 ≤ i → i < 60 → rbk A k i = rbk B k i) := by
  intro k a b
  have a4 := hN.2.2.2.2.2.2.1
  refine ⟨fun i c d => h _ (by omega) (by omega) (by omega), fun t c d => ?_, fun i c d => h _ (by omega) (by omega) (by omega)⟩
  unfold rhm
  rw [h 1 (by omega) (by omega) (by omega), h (75 + 96 * k) (by omega) (by omega) (by omega), h (105 + 96 * k + t) (by omega) (by omega) (by omega), h (41 + t) (by omega) (by omega) (by omega)]
theorem STPS_FX {P : Nat → Nat → Prop} {S S1 : St} {w : Nat} {A : Int → Int} (h : FX P S S1) (p : ∀ f, 802 ≤ f → f ≤ 803 → ¬ P f w) (p2 : ∀ f j, 400 ≤ f → f ≤ 408 → 31 * w + 1 ≤ j → j ≤ 31 * w + 30 → ¬ P f j) (hS : STPS S w A) : STPS S1 w A := by
  obtain ⟨h4, ns, n0, n1, h2, h3⟩ := hS
  exact ⟨(h.1 803 w 0 (p _ (by omega) (by omega))).trans h4, ns, n0, n1, (h.1 802 w 0 (p _ (by omega) (by omega))).trans h2, fun k a b => FX_SHT h (fun f c d => p2 f _ c d (by omega) (by omega)) (h3 k a b)⟩
theorem STPS_ext {S : St} {w : Nat} {A B : Int → Int} {M : Int} (hA : AGR A B) (hN : NUM A M) (hS : STPS S w A) : STPS S w B := by
  obtain ⟨h4, ns, n0, n1, h2, h3⟩ := hS
  have e4 := hA 4 (by decide) (by decide) (by decide)
  refine ⟨by rw [← e4]; exact h4, ns, n0, n1, h2, fun k a b => ?_⟩
  rw [← e4] at b ⊢
  obtain ⟨r1, r2, r3⟩ := AGR_rec hA hN k a b
  exact SHT_ext (h3 k a b) (fun i c d => r1 i c (by omega)) r2 r3
theorem WLD_step {P : Nat → Nat → Prop} {S S1 : St} {A B : Int → Int} {M : Int} (hN : NUM A M) (hW : WLD S 0 A) (h : FX P S S1) (p : ∀ f, 802 ≤ f → f ≤ 811 → ¬ P f 0) (p2 : ∀ f j, 400 ≤ f → f ≤ 408 → 1 ≤ j → j ≤ 30 → ¬ P f j) (hX : SHX S1 0 1 B) (hA : AGR A B) : WLD S1 0 B := by
  obtain ⟨h1, h2, h3⟩ := hW
  have a0 := hN.1.2.2.1.2.1
  have a5 := hN.2.2.2.2.2.2.2.2.1
  exact ⟨HDR_ext (HDR_FX h (fun f a b => p f (by omega) b) h1) a0 a5 (fun i a b c => hA i a (by omega) (by omega)), hX, STPS_ext hA hN (STPS_FX h (fun f a b => p f a (by omega)) (fun f j a b c d => p2 f j a b (by omega) (by omega)) h3)⟩
theorem NUM_step {A B : Int → Int} {M : Int} (hN : NUM A M) (hA : AGR A B) (hO : OKS B M) : NUM B M := by
  obtain ⟨o, a2, a2', a3, a3', a4, a4', a5, a5', hT, hS, hR⟩ := id hN
  have t6 := o.2.1.2.1
  refine ⟨hO, by rw [← hA 2 (by decide) (by decide) (by decide)]; exact a2, by rw [← hA 2 (by decide) (by decide) (by decide)]; exact a2', by rw [← hA 3 (by decide) (by decide) (by decide)]; exact a3, by rw [← hA 2 (by decide) (by decide) (by decide), ← hA 3 (by decide) (by decide) (by decide)]; exact a3', by rw [← hA 4 (by decide) (by decide) (by decide)]; exact a4, by rw [← hA 4 (by decide) (by decide) (by decide)]; exact a4', by rw [← hA 5 (by decide) (by decide) (by decide)]; exact a5, by rw [← hA 5 (by decide) (by decide) (by decide)]; exact a5', fun t a b => ?_, fun k a b => ?_, fun k a b => ?_⟩
  · rw [← hA 1 (by decide) (by decide) (by decide)] at b
    rw [← hA (41 + t) (by omega) (by omega) (by omega)]
    exact hT t a b
  · rw [← hA 5 (by decide) (by decide) (by decide)] at b
    rw [← hA 0 (by decide) (by decide) (by decide), ← hA (51 + 3 * k) (by omega) (by omega) (by omega), ← hA (52 + 3 * k) (by omega) (by omega) (by omega), ← hA (53 + 3 * k) (by omega) (by omega) (by omega)]
    exact hS k a b
  · rw [← hA 4 (by decide) (by decide) (by decide)] at b
    obtain ⟨r1, r2, r3⟩ := AGR_rec hA hN k a b
    obtain ⟨s1, s2, s3, s4⟩ := hR k a b
    rw [← hA 1 (by decide) (by decide) (by decide), ← hA (75 + 96 * k) (by omega) (by omega) (by omega)]
    refine ⟨OKR_ext s1 (fun i c d => r1 i c (by omega)) r3, s2, s3, fun t c d => ?_⟩
    rw [← hA (105 + 96 * k + t) (by omega) (by omega) (by omega)]
    exact s4 t c d
theorem WRT_FX {P : Nat → Nat → Prop} {S S1 : St} {W : Int} (h : FX P S S1) (p : ∀ j, ¬ P 403 j) (hW : WRT S W) : WRT S1 W := fun j hj => by
  obtain ⟨wr, a, b, c⟩ := hW j hj
  exact ⟨wr, (h.1 403 j 0 (p j)).trans a, b, c⟩
theorem WRT_mono {S : St} {W W' : Int} (h : WRT S W) (hw : W ≤ W') : WRT S W' := fun j hj => by
  obtain ⟨wr, a, b, c⟩ := h j hj
  exact ⟨wr, a, b, by omega⟩
/-- keeping -/
theorem c_keep {S : St} {A : Int → Int} {M W : Int} {em et : Sem} (h : XC S A M W em et) : ∃ S', f_X8_keepStep 0 S = some S' ∧ XC S' (KPF A) M W em et ∧ FX XOP S S' := by
  obtain ⟨h1, h2, h3, h4⟩ := h
  obtain ⟨S', e, g1, g2, g3⟩ := x_keep h2 h1
  refine ⟨S', e, ⟨g1, NUM_KPF h2, fun j hj => ?_, FX_CLW g2 (by unfold KPP; omega) (by unfold KPP; omega) (by unfold KPP; omega) h4⟩, FX_sub g2 (fun f j q => by unfold KPP at q; unfold XOP; omega)⟩
  rcases g3 j hj with w | w
  · obtain ⟨wr, a, b, c⟩ := h3 j hj
    exact ⟨wr, w.trans a, b, c⟩
  · obtain ⟨wr, a, b, c⟩ := h3 0 (by decide)
    exact ⟨wr, w.trans a, b, c⟩
theorem STW_AGR {wf : Int} {em et : Sem} {A : Int → Int} {h c rt M : Int} (hO : OKS A M) (h1 : 0 ≤ c) (h2 : c < 12) (hr : rt = 0 ∨ rt = 1) : AGR A (STW wf em et A h c rt) := fun i a b d => (STW_far hO.1.2.2.2.2.2.2.2.2.2.1 hO.1.2.2.2.2.2.2.2.2.2.2.1 h1 h2 hr i (by omega)).symm
theorem AGR_trans {A B C : Int → Int} (h : AGR A B) (h2 : AGR B C) : AGR A C := fun i a b c => (h i a b c).trans (h2 i a b c)
theorem DRW_AGR {A : Int → Int} : AGR A (DRW A) := fun i a b c => (DRW_ne (by omega)).symm
theorem PSF_AGR {wf : Int} {em et : Sem} {A : Int → Int} {M : Int} (hO : OKS A M) : AGR A (PSF wf em et A) := by
  have b0 := hO.1.2.2.2.2.2.2.2.1
  unfold PSF
  by_cases q : A 0 ≤ 0
  · rw [if_pos q]; exact fun i a b c => (UP_ne (by omega)).symm
  · rw [if_neg q]
    have o2 := DRW_OKS (DRW_OKS hO)
    refine AGR_trans (B := if A (11 + A 7 % 12) ≤ 0 then DRW (DRW A) else STW wf em et (DRW (DRW A)) (A 6 % A 0) (A 7 % 12) (DRW A 7 % 2)) ?_ (fun i a b c => (UP_ne (by omega)).symm)
    by_cases w : A (11 + A 7 % 12) ≤ 0
    · rw [if_pos w]; exact AGR_trans DRW_AGR DRW_AGR
    · rw [if_neg w]
      exact AGR_trans (AGR_trans DRW_AGR DRW_AGR) (STW_AGR o2 (by omega) (by omega) (by omega))
/-- a stroke on now's sheet -/
theorem c_push {S : St} {N : Nat} {A : Int → Int} {M W h c rt : Int} {em et : Sem} (hN : 4000 < N) (hC : XC S A M W em et) (hW : W < 100000000) (h0 : 0 ≤ h ∧ h < A 0) (h1 : 0 ≤ c) (h2 : c < 12) (hr : rt = 0 ∨ rt = 1) : ∃ S', f_X2_push N 0 S (jj h) (jj c) (jj rt) = some (jj (mvv em A (sgA A) h c rt), S') ∧ XC S' (STW 1 em et A h c rt) M (W + 1) em et ∧ FX XOP S S' := by
  obtain ⟨g1, g2, g3, g4⟩ := hC
  obtain ⟨wr, w1, w2, w3⟩ := g3 0 (by decide)
  obtain ⟨S', e, x1, x2, x3⟩ := x_stroke (em := em) (et := et) (wf := 1) hN (by decide) g2.1 g1.2.1 (HDR_STG g1.1) g4 h0 h1 h2 hr (Or.inr rfl) w1 w2 (by omega)
  have ag := STW_AGR (wf := 1) (em := em) (et := et) (h := h) g2.1 h1 h2 hr
  have ok := STW_OKS (wf := 1) (em := em) (et := et) (h := h) g2.1 ⟨h0.1, by have := g2.1.2.2.1.2.1; omega⟩ h1 h2 hr
  refine ⟨S', e, ⟨WLD_step g2 g1 x2 (fun f a b => by unfold PUP; omega) (fun f j a b c d => by unfold PUP; omega) x1 ag, NUM_step g2 ag ok, fun j hj => ?_, FX_CLW x2 (by unfold PUP; omega) (by unfold PUP; omega) (by unfold PUP; omega) g4⟩, FX_sub x2 (fun f j q => by unfold PUP at q; unfold XOP; omega)⟩
  by_cases q : j = 0
  · subst q; exact ⟨NXW wr, x3, (NXW_b w2).1, by have := (NXW_b w2).2; omega⟩
  · obtain ⟨wr', a, b, c⟩ := g3 j hj
    exact ⟨wr', (x2.1 403 j 0 (by unfold PUP; omega)).trans a, b, by omega⟩
theorem c_pass {S : St} {N : Nat} {A : Int → Int} {M W : Int} {em et : Sem} (hN : 4000 < N) (hC : XC S A M W em et) (hW : W < 100000000) (h6 : A 6 < 9999) : ∃ S', f_X2_passTurn N 0 S = some S' ∧ XC S' (PSF 1 em et A) M (W + 1) em et ∧ FX XOP S S' := by
  obtain ⟨g1, g2, g3, g4⟩ := hC
  obtain ⟨wr, w1, w2, w3⟩ := g3 0 (by decide)
  obtain ⟨S', wr', e, x1, x2, x3, x4, x5⟩ := x_pass (em := em) (et := et) (wf := 1) hN (by decide) g2.1 g1.2.1 (HDR_STG g1.1) g4 (Or.inr rfl) w1 w2 (by omega)
  have ag := PSF_AGR (wf := 1) (em := em) (et := et) g2.1
  have ok := PSF_OKS (wf := 1) (em := em) (et := et) g2.1 h6
  refine ⟨S', e, ⟨WLD_step g2 g1 x2 (fun f a b => by unfold PUP; omega) (fun f j a b c d => by unfold PUP; omega) x1 ag, NUM_step g2 ag ok, fun j hj => ?_, FX_CLW x2 (by unfold PUP; omega) (by unfold PUP; omega) (by unfold PUP; omega) g4⟩, FX_sub x2 (fun f j q => by unfold PUP at q; unfold XOP; omega)⟩
  by_cases q : j = 0
  · subst q; exact ⟨wr', x3, by omega, by omega⟩
  · obtain ⟨wr', a, b, c⟩ := g3 j hj
    exact ⟨wr', (x2.1 403 j 0 (by unfold PUP; omega)).trans a, b, by omega⟩
/-- trimming, patching -/
def TRF (A : Int → Int) : Int → Int := UP (UP A 8 (A 8 + A 9)) 9 0
def PTF (A : Int → Int) (c n : Int) : Int → Int := UP (UP (UP A (11 + c) (A (11 + c) + n)) 8 (A 8 - n)) (23 + c) 0
theorem TRF_AGR {A : Int → Int} : AGR A (TRF A) := fun i a b c => by unfold TRF; rw [UP_ne (by omega), UP_ne (by omega)]
theorem PTF_AGR {A : Int → Int} {c n : Int} (h1 : 0 ≤ c) (h2 : c < 12) : AGR A (PTF A c n) := fun i a b d => by unfold PTF; rw [UP_ne (by omega), UP_ne (by omega), UP_ne (by omega)]
theorem OKS_row {A B : Int → Int} {M : Int} (hO : OKS A M) (e : ∀ i, 0 ≤ i → (i < 8 ∨ i = 10 ∨ 35 ≤ i) → A i = B i) (h1 : ∀ c : Int, 0 ≤ c → c < 12 → 0 ≤ B (11 + c)) (h2 : ∀ c : Int, 0 ≤ c → c < 12 → B (23 + c) = 0 ∨ B (23 + c) = 1) (h9 : 0 ≤ B 9) (h8 : 0 ≤ B 8) (hs : pre (fun c => B (11 + c)) 12 + B 9 + B 8 ≤ M) : OKS B M := by
  obtain ⟨⟨o1, o2, o3, o4, o5, o6, o7, o8, o9, o10, o11, o12⟩, ⟨t1, t2, t3⟩, ⟨g1, g2, g3⟩, hM⟩ := hO
  have x0 := e 0 (by decide) (by decide)
  have x1 := e 1 (by decide) (by decide)
  have x6 := e 6 (by decide) (by decide)
  have x7 := e 7 (by decide) (by decide)
  have x10 := e 10 (by decide) (by decide)
  refine ⟨⟨h1, h2, h9, h8, hs, by rw [← x6]; exact o6, by rw [← x6]; exact o7, by rw [← x7]; exact o8, by rw [← x7]; exact o9, by rw [← x10]; exact o10, by rw [← x10]; exact o11, fun i a b => ?_⟩, ⟨by rw [← x1]; exact t1, by rw [← x1]; exact t2, fun t a b => ?_⟩, ⟨by rw [← x0]; exact g1, by rw [← x0]; exact g2, fun t a b => ?_⟩, hM⟩
  · rw [← x10] at b
    show 0 ≤ B (2955 + 2 * i) ∧ B (2955 + 2 * i) < 960000 ∧ 0 ≤ B (2955 + (2 * i + 1)) ∧ B (2955 + (2 * i + 1)) ≤ 100000000
    rw [← e (2955 + 2 * i) (by omega) (by omega), ← e (2955 + (2 * i + 1)) (by omega) (by omega)]
    exact o12 i a b
  · rw [← x1] at b
    rw [← e (35 + t) (by omega) (by omega)]
    exact t3 t a b
  · rw [← x0] at b
    rw [← e (47 + t) (by omega) (by omega)]
    exact g3 t a b
theorem TRF_OKS {A : Int → Int} {M : Int} (hO : OKS A M) : OKS (TRF A) M := by
  obtain ⟨o1, o2, o3, o4, o5, -⟩ := id hO.1
  have e11 : pre (fun i => TRF A (11 + i)) 12 = pre (fun i => A (11 + i)) 12 := pre_ext 12 (fun i a b => by unfold TRF; rw [UP_ne (by omega), UP_ne (by omega)])
  have e9 : TRF A 9 = 0 := UP_hit
  have e8 : TRF A 8 = A 8 + A 9 := by unfold TRF; rw [UP_ne (by omega), UP_hit]
  refine OKS_row hO (fun i a b => by unfold TRF; rw [UP_ne (by omega), UP_ne (by omega)]) (fun c a b => by unfold TRF; rw [UP_ne (by omega), UP_ne (by omega)]; exact o1 c a b) (fun c a b => by unfold TRF; rw [UP_ne (by omega), UP_ne (by omega)]; exact o2 c a b) (by omega) (by omega) (by omega)
theorem PTF_OKS {A : Int → Int} {c n M : Int} (hO : OKS A M) (h1 : 0 ≤ c) (h2 : c < 12) (n0 : 0 ≤ n) (n1 : n ≤ A 8) : OKS (PTF A c n) M := by
  obtain ⟨o1, o2, o3, o4, o5, -⟩ := id hO.1
  have e11 : pre (fun i => PTF A c n (11 + i)) 12 = pre (UP (fun i => A (11 + i)) c (A (11 + c) + n)) 12 := pre_ext 12 (fun i a b => by
    unfold PTF
    rw [UP_ne (by omega), UP_ne (by omega), UP_at, UP_at]
    by_cases w : i = c
    · rw [if_pos w, if_pos (by omega)]
    · rw [if_neg w, if_neg (by omega)])
  have e9 : PTF A c n 9 = A 9 := by unfold PTF; rw [UP_ne (by omega), UP_ne (by omega), UP_ne (by omega)]
  have e8 : PTF A c n 8 = A 8 - n := by unfold PTF; rw [UP_ne (by omega), UP_hit]
  refine OKS_row hO (fun i a b => by unfold PTF; rw [UP_ne (by omega), UP_ne (by omega), UP_ne (by omega)]) (fun d a b => ?_) (fun d a b => ?_) (by omega) (by omega) ?_
  · have := o1 d a b
    unfold PTF
    rw [UP_ne (by omega), UP_ne (by omega), UP_at]
    split
    · have := o1 c h1 h2; omega
    · exact this
  · unfold PTF
    rw [UP_at]
    split
    · exact Or.inl rfl
    · rw [UP_ne (by omega), UP_ne (by omega)]; exact o2 d a b
  · rw [e11, e9, e8, pre_UP h1, if_pos (by omega)]
    omega
theorem TRF_far {A : Int → Int} {i : Int} (h : i ≠ 8) (h2 : i ≠ 9) : TRF A i = A i := by unfold TRF; rw [UP_ne h2, UP_ne h]
theorem x_cut {S : St} {A : Int → Int} (hX : SHX S 0 1 A) : ∃ S', f_X4_cutOff 0 S = some S' ∧ SHX S' 0 1 (TRF A) ∧ FX (fun f j => (f = 405 ∨ f = 406) ∧ j = 0) S S' := by
  obtain ⟨⟨a1, a2, a3, a4⟩, X2, X3, X4, X5⟩ := hX
  unfold f_X4_cutOff
  rw [X2, a3, jj_add]
  refine ⟨_, rfl, ⟨⟨fun c q q2 => ?_, ?_, ?_, ?_⟩, ?_, ?_, fun t q q2 => ?_, fun w => ?_⟩, FX_sI (FX_sI (FX_refl _ _) (by omega)) (by omega)⟩
  · rw [gI_sI, if_neg (by omega), gI_sI, if_neg (by omega), a1 c q q2]; unfold TRF; rw [UP_ne (by omega), UP_ne (by omega)]
  · rw [gI_sI, if_neg (by omega), gI_sI, if_neg (by omega)]; exact tb_ext a2 (fun c q q2 => by unfold TRF; rw [UP_ne (by omega), UP_ne (by omega)])
  · rw [gI_sI, if_pos ⟨rfl, rfl, rfl⟩]; rfl
  · rw [gI_sI, if_neg (by omega), gI_sI, if_neg (by omega), a4]; rfl
  · rw [gI_sI, if_neg (by omega), gI_sI, if_pos ⟨rfl, rfl, rfl⟩]; rfl
  · rw [gI_sI, if_neg (by omega), gI_sI, if_neg (by omega), X3]; rfl
  · rw [gI_sI, if_neg (by omega), gI_sI, if_neg (by omega), X4 t q q2]
    unfold hmA TRF
    rw [UP_ne (by omega), UP_ne (by omega), UP_ne (by omega), UP_ne (by omega)]
  · obtain ⟨wr, h1, h2, h3, h4, h5⟩ := X5 w
    exact ⟨wr, by rw [gI_sI, if_neg (by omega), gI_sI, if_neg (by omega)]; exact h1, h2, h3, h4, fun i q q2 => by rw [gL_sI, gL_sI]; unfold bkA; rw [TRF_far (by omega) (by omega), TRF_far (by omega) (by omega), TRF_far (by omega) (by omega)]; exact h5 i q q2⟩
theorem x_mend {S : St} {A : Int → Int} {c n : Int} (hX : SHX S 0 1 A) (c0 : 0 ≤ c) (c1 : c < 12) : ∃ S', f_X4_mend 0 S (jj c) (jj n) = some S' ∧ SHX S' 0 1 (PTF A c n) ∧ FX (fun f j => (f = 400 ∨ f = 404 ∨ f = 406) ∧ j = 0) S S' := by
  obtain ⟨⟨a1, a2, a3, a4⟩, X2, X3, X4, X5⟩ := hX
  unfold f_X4_mend
  simp only [lt]
  rw [X2, chk_true (jj_inb c0 (by omega) (by omega)), chk_true (jj_inb c0 (by omega) (by omega)), jj_nat (by omega) (by omega), jj_sub]
  rw [gI_sI, if_neg (by omega), a1 c c0 c1, jj_add]
  have far : ∀ i, i ≠ 11 + c → i ≠ 8 → i ≠ 23 + c → PTF A c n i = A i := fun i p q r => by unfold PTF; rw [UP_ne r, UP_ne q, UP_ne p]
  refine ⟨_, rfl, ⟨⟨fun d q q2 => ?_, ?_, ?_, ?_⟩, ?_, ?_, fun t q q2 => ?_, fun w => ?_⟩, FX_sI (FX_sI (FX_sI (FX_refl _ _) (by omega)) (by omega)) (by omega)⟩
  · rw [gI_sI, if_neg (by omega), gI_sI]
    by_cases w : d = c
    · rw [if_pos ⟨rfl, rfl, by rw [w]⟩, w]
      unfold PTF; rw [UP_ne (by omega), UP_ne (by omega), UP_hit]
    · rw [if_neg (fun z => w (by have := z.2.2; omega)), gI_sI, if_neg (by omega), a1 d q q2, far _ (by omega) (by omega) (by omega)]
  · rw [gI_sI, if_pos ⟨rfl, rfl, rfl⟩, gI_sI, if_neg (by omega), gI_sI, if_neg (by omega)]
    refine tb_ext (tb_clr a2 c0 c1) (fun d q q2 => ?_)
    rw [UP_at]
    by_cases w : d = c
    · rw [if_pos w, w]; unfold PTF; rw [UP_hit]
    · rw [if_neg w, far _ (by omega) (by omega) (by omega)]
  · rw [gI_sI, if_neg (by omega), gI_sI, if_neg (by omega), gI_sI, if_neg (by omega), a3, far _ (by omega) (by omega) (by omega)]
  · rw [gI_sI, if_neg (by omega), gI_sI, if_neg (by omega), gI_sI, if_neg (by omega), a4, far _ (by omega) (by omega) (by omega)]
  · rw [gI_sI, if_neg (by omega), gI_sI, if_neg (by omega), gI_sI, if_pos ⟨rfl, rfl, rfl⟩]; unfold PTF; rw [UP_ne (by omega), UP_hit]
  · rw [gI_sI, if_neg (by omega), gI_sI, if_neg (by omega), gI_sI, if_neg (by omega), X3, far _ (by omega) (by omega) (by omega)]
  · rw [gI_sI, if_neg (by omega), gI_sI, if_neg (by omega), gI_sI, if_neg (by omega), X4 t q q2]
    unfold hmA
    rw [far _ (by omega) (by omega) (by omega), far _ (by omega) (by omega) (by omega)]
  · obtain ⟨wr, h1, h2, h3, h4, h5⟩ := X5 w
    rw [far _ (by omega) (by omega) (by omega)]
    exact ⟨wr, by rw [gI_sI, if_neg (by omega), gI_sI, if_neg (by omega), gI_sI, if_neg (by omega)]; exact h1, h2, h3, h4, fun i q q2 => by rw [gL_sI, gL_sI, gL_sI]; unfold bkA; rw [far _ (by omega) (by omega) (by omega), far _ (by omega) (by omega) (by omega)]; exact h5 i q q2⟩
theorem XC_step {P : Nat → Nat → Prop} {S S1 : St} {A B : Int → Int} {M W : Int} {em et : Sem} (hC : XC S A M W em et) (h : FX P S S1) (p : ∀ f, 802 ≤ f → f ≤ 811 → ¬ P f 0) (p2 : ∀ f j, 400 ≤ f → f ≤ 408 → 1 ≤ j → j ≤ 30 → ¬ P f j) (p3 : ∀ j, ¬ P 403 j) (hX : SHX S1 0 1 B) (hA : AGR A B) (hO : OKS B M) : XC S1 B M W em et :=
  ⟨WLD_step hC.2.1 hC.1 h p p2 hX hA, NUM_step hC.2.1 hA hO, WRT_FX h p3 hC.2.2.1, FX_CLW h (p 807 (by omega) (by omega)) (p 808 (by omega) (by omega)) (p 809 (by omega) (by omega)) hC.2.2.2⟩
theorem r_trim {S : St} {A : Int → Int} (hA : AR 1000 S A) : ∃ S', f_X10_trimNow S = some S' ∧ AR 1000 S' (TRF A) ∧ FX (fun f _ => f = 1000) S S' := by
  have e8 : gI S 1000 0 8 = jj (A 8) := hA 8 (by decide) (by decide)
  have e9 : gI S 1000 0 9 = jj (A 9) := hA 9 (by decide) (by decide)
  unfold f_X10_trimNow
  rw [e8, e9, jj_add]
  simp only [lt, jj_of]
  exact ⟨_, rfl, AR_set (AR_set hA (k := 8) (by decide)) (k := 9) (by decide), FX_sI (FX_sI (FX_refl _ _) rfl) rfl⟩
theorem r_patch {S : St} {A : Int → Int} {c n : Int} (hA : AR 1000 S A) (c0 : 0 ≤ c) (c1 : c < 12) : ∃ S', f_X10_patchNow S (jj c) (jj n) = some S' ∧ AR 1000 S' (PTF A c n) ∧ FX (fun f _ => f = 1000) S S' := by
  have e11 := hA (11 + c) (by omega) (by omega)
  have e8 : gI S 1000 0 8 = jj (A 8) := hA 8 (by decide) (by decide)
  unfold f_X10_patchNow
  simp (disch := omega) only [jj_of, jj_add, jj_sub, jj_mul, jj_neg, jj_le, jj_lt, jj_eq, jj_nat, chk_true (jj_inb _ _ _), chk_true (jj_nz _ _ _), lt, e11]
  have A1 := AR_set hA (k := 11 + c) (v := A (11 + c) + n) (by omega)
  have e8' : gI (sI S 1000 0 (11 + c).toNat (jj (A (11 + c) + n))) 1000 0 8 = jj (A 8) := (A1 8 (by decide) (by decide)).trans (by rw [UP_ne (by omega)])
  rw [e8', jj_sub]
  exact ⟨_, rfl, AR_set (AR_set A1 (k := 8) (by decide)) (by omega), FX_sI (FX_sI (FX_sI (FX_refl _ _) rfl) rfl) rfl⟩
