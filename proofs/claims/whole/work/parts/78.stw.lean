/-! STROKES with the book: what holds of a row behind one; the class's sheet against it. -/
def hmA (A : Int → Int) : Int → Int := fun t => if t < A 1 then A (35 + t) else -2
def bkA (A : Int → Int) : Int → Int := fun i => A (2955 + i)
def SHX (S : St) (j : Nat) (wf : Int) (A : Int → Int) : Prop := LAY S j A ∧ gI S 406 j 0 = jj (A 8) ∧ gI S 408 j 0 = jj (A 7) ∧ HOM S j (hmA A) ∧ (wf = 1 → BKS S j (A 10) (bkA A))
def TOK (A : Int → Int) : Prop := 0 ≤ A 1 ∧ A 1 ≤ 6 ∧ ∀ t : Int, 0 ≤ t → t < A 1 → -1 ≤ A (35 + t) ∧ A (35 + t) ≤ 11
def HOK (A : Int → Int) : Prop := 0 ≤ A 0 ∧ A 0 ≤ 4 ∧ ∀ h : Int, 0 ≤ h → h < A 0 → 1 ≤ A (47 + h) ∧ A (47 + h) ≤ 9
def OKS (A : Int → Int) (M : Int) : Prop := OKR A (bkA A) M ∧ TOK A ∧ HOK A ∧ M ≤ 100000000
/-- the hands of the class -/
def STG (S : St) (A : Int → Int) : Prop := gI S 805 0 0 = jj (A 0) ∧ ∀ h : Int, 0 ≤ h → h < A 0 → gI S 804 0 h.toNat = jj (A (47 + h))
theorem LAY_ext2 {S : St} {j : Nat} {r r' : Int → Int} (h : LAY S j r) (e : ∀ i, 6 ≤ i → i < 35 → i ≠ 7 → i ≠ 8 → i ≠ 10 → r i = r' i) : LAY S j r' := by
  obtain ⟨h1, h2, h3, h4⟩ := h
  refine ⟨fun c q q2 => by rw [← e (11 + c) (by omega) (by omega) (by omega) (by omega) (by omega)]; exact h1 c q q2, tb_ext h2 (fun c q q2 => e (23 + c) (by omega) (by omega) (by omega) (by omega) (by omega)), by rw [← e 9 (by decide) (by decide) (by decide) (by omega) (by omega)]; exact h3, by rw [← e 6 (by decide) (by decide) (by decide) (by omega) (by omega)]; exact h4⟩
theorem STR_far {em et : Sem} {sg A : Int → Int} {h c rt : Int} (h1 : 0 ≤ c) (h2 : c < 12) (hr : rt = 0 ∨ rt = 1) (i : Int) (hi : i < 9 ∨ i = 10 ∨ 41 ≤ i) : STR em et sg A h c rt i = A i := by
  have hd := dst_b h1 h2 hr
  have e2 : ST2 em sg A h c rt i = A i := by
    unfold ST2
    rw [UP_ne (by omega), UP_ne (by omega)]
    by_cases q : A (11 + c) < 2 * mvv em A sg h c rt
    · rw [if_pos q]; exact if_neg (fun w => by omega)
    · rw [if_neg q]
  unfold STR
  by_cases q : A (23 + c) = 0 ∧ A (11 + c) - mvv em A sg h c rt < trr et (ST2 em sg A h c rt) c
  · rw [if_pos q, UP_ne (by omega), e2]
  · rw [if_neg q, e2]
theorem STR_tn {em et : Sem} {sg A : Int → Int} {h c rt : Int} (h1 : 0 ≤ c) (h2 : c < 12) (hr : rt = 0 ∨ rt = 1) (i : Int) (hi : 35 ≤ i) (hi2 : i < 41) : STR em et sg A h c rt i = if A (11 + c) < 2 * mvv em A sg h c rt ∧ i < 35 + A 1 ∧ A i = c then bsd c rt else A i := by
  have hd := dst_b h1 h2 hr
  have e2 : ST2 em sg A h c rt i = if A (11 + c) < 2 * mvv em A sg h c rt ∧ i < 35 + A 1 ∧ A i = c then bsd c rt else A i := by
    unfold ST2
    rw [UP_ne (by omega), UP_ne (by omega)]
    by_cases q : A (11 + c) < 2 * mvv em A sg h c rt
    · rw [if_pos q]
      unfold TWN
      by_cases w : i < 35 + A 1 ∧ A i = c
      · rw [if_pos ⟨hi, w.1, hi2, w.2⟩, if_pos ⟨q, w⟩]
      · rw [if_neg (fun z => w ⟨z.2.1, z.2.2.2⟩), if_neg (fun z => w z.2)]
    · rw [if_neg q, if_neg (fun z => q z.1)]
  unfold STR
  by_cases q : A (23 + c) = 0 ∧ A (11 + c) - mvv em A sg h c rt < trr et (ST2 em sg A h c rt) c
  · rw [if_pos q, UP_ne (by omega), e2]
  · rw [if_neg q, e2]
theorem STR_dough {em et : Sem} {sg A : Int → Int} {h c rt : Int} (h1 : 0 ≤ c) (i : Int) (hi : i < 23) : STR em et sg A h c rt i = ST2 em sg A h c rt i := by
  unfold STR
  by_cases q : A (23 + c) = 0 ∧ A (11 + c) - mvv em A sg h c rt < trr et (ST2 em sg A h c rt) c
  · rw [if_pos q, UP_ne (by omega)]
  · rw [if_neg q]
theorem STR_torn {em et : Sem} {sg A : Int → Int} {h c rt : Int} (h1 : 0 ≤ c) (h2 : c < 12) (hr : rt = 0 ∨ rt = 1) (i : Int) (hi : 0 ≤ i) (hi2 : i < 12) : STR em et sg A h c rt (23 + i) = A (23 + i) ∨ (i = c ∧ A (23 + i) = 0 ∧ STR em et sg A h c rt (23 + i) = 1) := by
  have hd := dst_b h1 h2 hr
  have e2 : ST2 em sg A h c rt (23 + i) = A (23 + i) := by rw [ST2_at _ (by omega), if_neg (by omega), if_neg (by omega)]
  unfold STR
  by_cases q : A (23 + c) = 0 ∧ A (11 + c) - mvv em A sg h c rt < trr et (ST2 em sg A h c rt) c
  · rw [if_pos q]
    by_cases w : i = c
    · subst w; exact Or.inr ⟨rfl, q.1, UP_hit⟩
    · rw [UP_ne (by omega)]; exact Or.inl e2
  · rw [if_neg q]; exact Or.inl e2
theorem WRB_far {A : Int → Int} {v m : Int} (n0 : 0 ≤ A 10) (n1 : A 10 ≤ 30) (i : Int) (h : i ≠ 10) (h2 : i < 2955 ∨ 3015 ≤ i) : WRB A v m i = A i := by
  have s : SHB A i = A i ∧ 0 ≤ SHB A 10 ∧ SHB A 10 ≤ 29 := by
    unfold SHB
    by_cases q : A 10 = 30
    · rw [if_pos q, if_neg h, if_neg (by omega), if_pos rfl]
      exact ⟨rfl, by decide, by decide⟩
    · rw [if_neg q]
      exact ⟨rfl, n0, by omega⟩
  unfold WRB
  rw [UP_ne h, UP_ne (by omega), UP_ne (by omega), s.1]
theorem WRB_10 {A : Int → Int} {v m : Int} : WRB A v m 10 = if A 10 = 30 then 30 else A 10 + 1 := by
  unfold WRB SHB
  rw [UP_hit]
  by_cases q : A 10 = 30
  · rw [if_pos q, if_pos q, if_pos rfl]; rfl
  · rw [if_neg q, if_neg q]
theorem WRB_book {A : Int → Int} {v m : Int} (n0 : 0 ≤ A 10) (n1 : A 10 ≤ 30) (i : Int) (h0 : 0 ≤ i) (h1 : i < 30) : (WRB A v m (2955 + 2 * i) = if i = (if A 10 = 30 then 29 else A 10) then v else if A 10 = 30 then A (2955 + 2 * (i + 1)) else A (2955 + 2 * i)) ∧ WRB A v m (2955 + (2 * i + 1)) = if i = (if A 10 = 30 then 29 else A 10) then m else if A 10 = 30 then A (2955 + (2 * (i + 1) + 1)) else A (2955 + (2 * i + 1)) := by
  have key : ∀ k, 2955 ≤ k → k < 3015 → WRB A v m k = if k = 2955 + 2 * SHB A 10 + 1 then m else if k = 2955 + 2 * SHB A 10 then v else SHB A k := by
    intro k a b
    unfold WRB
    rw [UP_ne (by omega), UP_at, UP_at]
  rw [key (2955 + 2 * i) (by omega) (by omega), key (2955 + (2 * i + 1)) (by omega) (by omega)]
  by_cases q : A 10 = 30
  · have s10 : SHB A 10 = 29 := by unfold SHB; rw [if_pos q, if_pos rfl]
    have sa : ∀ k, 2955 ≤ k → k < 3013 → SHB A k = A (k + 2) := fun k a b => by unfold SHB; rw [if_pos q, if_neg (by omega), if_pos ⟨a, b⟩]
    rw [s10]
    simp only [q, if_true]
    by_cases w : i = 29
    · simp only [w, if_true]
      constructor
      · rw [if_neg (by decide)]
      · rw [if_pos (by decide)]
    · simp only [w, if_false]
      constructor
      · rw [if_neg (by omega), if_neg (by omega), sa _ (by omega) (by omega)]
        congr 1; omega
      · rw [if_neg (by omega), if_neg (by omega), sa _ (by omega) (by omega)]
        congr 1; omega
  · have s : SHB A = A := if_neg q
    rw [s]
    simp only [q, if_false]
    by_cases w : i = A 10
    · simp only [w, if_true]
      constructor
      · rw [if_neg (by omega)]
      · rw [if_pos (by omega)]
    · simp only [w, if_false]
      constructor
      · rw [if_neg (by omega), if_neg (by omega)]
      · rw [if_neg (by omega), if_neg (by omega)]
/-- bounds behind a stroke -/
theorem STR_OKR {em et : Sem} {sg A b : Int → Int} {h c rt M : Int} (hO : OKR A b M) (hM : M ≤ 100000000) (h1 : 0 ≤ c) (h2 : c < 12) (hr : rt = 0 ∨ rt = 1) : OKR (STR em et sg A h c rt) b M := by
  have hR := OKR_RB hO hM
  obtain ⟨o1, o2, o3, o4, o5, o6, o7, o8, o9, o10, o11, o12⟩ := hO
  have hd := dst_b h1 h2 hr
  have R2 := ST2_RB (em := em) (sg := sg) (h := h) (c := c) (rt := rt) hR (by omega) h1 h2 hr
  have hs := ST2_sum (em := em) (sg := sg) (A := A) (h := h) h1 h2 hr
  have f := @STR_far em et sg A h c rt h1 h2 hr
  have e11 : pre (fun i => STR em et sg A h c rt (11 + i)) 12 = pre (fun i => ST2 em sg A h c rt (11 + i)) 12 := pre_ext 12 (fun i a b => STR_dough h1 _ (by omega))
  have e9 : STR em et sg A h c rt 9 = ST2 em sg A h c rt 9 := STR_dough h1 _ (by omega)
  refine ⟨fun i a b => by rw [STR_dough h1 _ (by omega)]; exact (R2.1 i a b).1, fun i a b => ?_, by rw [e9]; exact R2.2.2.1, by rw [f 8 (by decide)]; exact o4, ?_, by rw [f 6 (by decide)]; exact o6, by rw [f 6 (by decide)]; exact o7, by rw [f 7 (by decide)]; exact o8, by rw [f 7 (by decide)]; exact o9, by rw [f 10 (by decide)]; exact o10, by rw [f 10 (by decide)]; exact o11, by rw [f 10 (by decide)]; exact o12⟩
  · rcases STR_torn (em := em) (et := et) (sg := sg) (A := A) (h := h) h1 h2 hr i a b with w | w
    · rw [w]; exact o2 i a b
    · exact Or.inr w.2.2
  · rw [e11, e9, hs, f 8 (by decide)]
    exact o5
theorem WRB_OKR {A : Int → Int} {v m M : Int} (hO : OKR A (bkA A) M) (v0 : 0 ≤ v) (v1 : v < 960000) (m0 : 0 ≤ m) (m1 : m ≤ 100000000) : OKR (WRB A v m) (bkA (WRB A v m)) M := by
  obtain ⟨o1, o2, o3, o4, o5, o6, o7, o8, o9, o10, o11, o12⟩ := hO
  have f := @WRB_far A v m o10 o11
  have e11 : pre (fun i => WRB A v m (11 + i)) 12 = pre (fun i => A (11 + i)) 12 := pre_ext 12 (fun i a b => f _ (by omega) (by omega))
  refine ⟨fun i a b => by rw [f _ (by omega) (by omega)]; exact o1 i a b, fun i a b => by rw [f _ (by omega) (by omega)]; exact o2 i a b, by rw [f 9 (by decide) (by decide)]; exact o3, by rw [f 8 (by decide) (by decide)]; exact o4, by rw [e11, f 9 (by decide) (by decide), f 8 (by decide) (by decide)]; exact o5, by rw [f 6 (by decide) (by decide)]; exact o6, by rw [f 6 (by decide) (by decide)]; exact o7, by rw [f 7 (by decide) (by decide)]; exact o8, by rw [f 7 (by decide) (by decide)]; exact o9, ?_, ?_, fun i a b => ?_⟩
  · rw [WRB_10]; split <;> omega
  · rw [WRB_10]; split <;> omega
  · rw [WRB_10] at b
    obtain ⟨w1, w2⟩ := @WRB_book A v m o10 o11 i a (by split at b <;> omega)
    show 0 ≤ WRB A v m (2955 + 2 * i) ∧ WRB A v m (2955 + 2 * i) < 960000 ∧ 0 ≤ WRB A v m (2955 + (2 * i + 1)) ∧ WRB A v m (2955 + (2 * i + 1)) ≤ 100000000
    rw [w1, w2]
    by_cases q : A 10 = 30
    · simp only [q, if_true] at b ⊢
      by_cases w : i = 29
      · simp only [w, if_true]; omega
      · simp only [w, if_false]
        have := o12 (i + 1) (by omega) (by omega)
        exact this
    · simp only [q, if_false] at b ⊢
      by_cases w : i = A 10
      · simp only [w, if_true]; omega
      · simp only [w, if_false]
        exact o12 i a (by omega)
theorem STW_far {wf : Int} {em et : Sem} {A : Int → Int} {h c rt : Int} (n0 : 0 ≤ A 10) (n1 : A 10 ≤ 30) (h1 : 0 ≤ c) (h2 : c < 12) (hr : rt = 0 ∨ rt = 1) (i : Int) (hi : i < 9 ∨ (41 ≤ i ∧ i < 2955) ∨ 3015 ≤ i) : STW wf em et A h c rt i = A i := by
  have f := @STR_far em et (sgA A) A h c rt h1 h2 hr
  unfold STW
  by_cases q : wf = 0
  · rw [if_pos q, f i (by omega)]
  · rw [if_neg q, WRB_far (by rw [f 10 (by decide)]; exact n0) (by rw [f 10 (by decide)]; exact n1) i (by omega) (by omega), f i (by omega)]
theorem STW_mid {wf : Int} {em et : Sem} {A : Int → Int} {h c rt : Int} (n0 : 0 ≤ A 10) (n1 : A 10 ≤ 30) (h1 : 0 ≤ c) (h2 : c < 12) (hr : rt = 0 ∨ rt = 1) (i : Int) (hi : i ≠ 10) (hi2 : i < 2955) : STW wf em et A h c rt i = STR em et (sgA A) A h c rt i := by
  have f := @STR_far em et (sgA A) A h c rt h1 h2 hr
  unfold STW
  by_cases q : wf = 0
  · rw [if_pos q]
  · rw [if_neg q, WRB_far (by rw [f 10 (by decide)]; exact n0) (by rw [f 10 (by decide)]; exact n1) i (by omega) (by omega)]
theorem STW_OKS {wf : Int} {em et : Sem} {A : Int → Int} {h c rt M : Int} (hO : OKS A M) (h0 : 0 ≤ h ∧ h < 4) (h1 : 0 ≤ c) (h2 : c < 12) (hr : rt = 0 ∨ rt = 1) : OKS (STW wf em et A h c rt) M := by
  obtain ⟨hO, hT, hH, hM⟩ := hO
  have hR := OKR_RB hO hM
  have hm := mvv_b (em := em) (sg := sgA A) (h := h) (rt := rt) hR h1 h2
  have q1 := hR.1 c h1 h2
  have n0 := hO.2.2.2.2.2.2.2.2.2.1
  have n1 := hO.2.2.2.2.2.2.2.2.2.2.1
  have t0 := hO.2.2.2.2.2.1
  have t1 := hO.2.2.2.2.2.2.1
  have hb := bsd_b h1 h2 hr
  have h04 := hH.2.1
  have f := @STW_far wf em et A h c rt n0 n1 h1 h2 hr
  refine ⟨?_, ⟨by rw [f 1 (by decide)]; exact hT.1, by rw [f 1 (by decide)]; exact hT.2.1, fun t a b => ?_⟩, ⟨by rw [f 0 (by decide)]; exact hH.1, by rw [f 0 (by decide)]; exact hH.2.1, fun k a b => by rw [f 0 (by decide)] at b; rw [f (47 + k) (by omega)]; exact hH.2.2 k a b⟩, hM⟩
  · have o1 := STR_OKR (em := em) (et := et) (sg := sgA A) (h := h) (c := c) (rt := rt) hO hM h1 h2 hr
    have e6 := @STR_far em et (sgA A) A h c rt h1 h2 hr
    have o2 : OKR (STR em et (sgA A) A h c rt) (bkA (STR em et (sgA A) A h c rt)) M := OKR_ext o1 (fun _ _ _ => rfl) (fun i a b => (e6 (2955 + i) (by omega)).symm)
    unfold STW
    by_cases q : wf = 0
    · rw [if_pos q]; exact o2
    · rw [if_neg q]
      exact WRB_OKR o2 (by omega) (by omega) hm.1 (by omega)
  · rw [f 1 (by decide)] at b
    have := hT.2.2 t a b
    have ht := hT.2.1
    rw [STW_mid n0 n1 h1 h2 hr (35 + t) (by omega) (by omega), STR_tn h1 h2 hr (35 + t) (by omega) (by omega)]
    split <;> omega
/-- the class's stroke on a sheet that is the row's -/
theorem x_stroke {S : St} {j N : Nat} {em et : Sem} {A : Int → Int} {wf h c rt wr M : Int} (hN : 4000 < N) (hj : j < 66) (hO : OKS A M) (hX : SHX S j wf A) (hG : STG S A) (hC : CLW S em et) (h0 : 0 ≤ h ∧ h < A 0) (h1 : 0 ≤ c) (h2 : c < 12) (hr : rt = 0 ∨ rt = 1) (hf : wf = 0 ∨ wf = 1) (hw : gI S 403 j 0 = jj wr) (w0 : 0 ≤ wr) (w1 : wr < 100000000) : ∃ S', f_X2_push N j S (jj h) (jj c) (jj rt) = some (jj (mvv em A (sgA A) h c rt), S') ∧ SHX S' j wf (STW wf em et A h c rt) ∧ FX (PUP j) S S' ∧ gI S' 403 j 0 = jj (NXW wr) := by
  obtain ⟨hO, hT, hH, hM⟩ := hO
  have hR := OKR_RB hO hM
  have hs := hH.2.2 h h0.1 h0.2
  have h4 := hH.2.1
  have n0 := hO.2.2.2.2.2.2.2.2.2.1
  have n1 := hO.2.2.2.2.2.2.2.2.2.2.1
  have hsum := hO.2.2.2.2.1
  have h8 := hO.2.2.2.1
  obtain ⟨X1, X2, X3, X4, X5⟩ := hX
  obtain ⟨S', e, L, F, W, b6, b8, T, B⟩ := q_push (em := em) (et := et) (sg := sgA A) (r := A) (h := h) (c := c) (rt := rt) hN hj ⟨show 0 ≤ A (47 + h) by omega, hs.2⟩ ⟨h0.1, by omega⟩ h1 h2 hr hR (by omega) X1 (hG.2 h h0.1 h0.2) hC hw w0 (by omega)
  have f := @STW_far wf em et A h c rt n0 n1 h1 h2 hr
  have g := @STW_mid wf em et A h c rt n0 n1 h1 h2 hr
  refine ⟨S', e, ⟨LAY_ext2 L (fun i a b _ _ d => (g i d (by omega)).symm), by rw [b6, X2, f 8 (by decide)], by rw [b8, X3, f 7 (by decide)], fun t a b => ?_, fun hwf => ?_⟩, F, W⟩
  · rw [T t a b, X4 t a b]
    have t6 := hT.2.1
    unfold hmA
    rw [f 1 (by decide), g (35 + t) (by omega) (by omega), STR_tn h1 h2 hr (35 + t) (by omega) (by omega)]
    by_cases q : t < A 1
    · have := hT.2.2 t a q
      have q2 : 35 + t < 35 + A 1 := by omega
      simp only [q, q2, if_true, true_and]
      simp (disch := omega) only [jj_eq]
      split <;> rfl
    · have q2 : ¬ (-2 : Int) = c := by omega
      simp only [q, if_false]
      simp (disch := omega) only [jj_eq]
      simp only [q2, and_false, if_false]
  · obtain ⟨wr', x1, x2, x3, x4, x5⟩ := X5 hwf
    have : wr' = wr := jj_inj (by omega) (by omega) (by omega) (by omega) (x1.symm.trans hw)
    subst this
    subst hwf
    have e10 := (@STR_far em et (sgA A) A h c rt h1 h2 hr) 10 (by omega)
    have ew : STW 1 em et A h c rt = WRB (STR em et (sgA A) A h c rt) ((A 6 * 4 + h) * 24 + (2 * c + rt)) (mvv em A (sgA A) h c rt) := if_neg (by decide)
    have ef := @STR_far em et (sgA A) A h c rt h1 h2 hr
    have en : (if NXW wr' ≤ 30 then NXW wr' else 30) = (if wr' + 1 ≤ 30 then wr' + 1 else 30) := by
      by_cases q : 60 ≤ wr' + 1
      · rw [show NXW wr' = 30 from if_pos q, if_pos (show (30 : Int) ≤ 30 by decide), if_neg (show ¬ wr' + 1 ≤ 30 by omega)]
      · rw [show NXW wr' = wr' + 1 from if_neg q]
    have ec : ∀ x i : Int, (NXW wr' - x + i) % 30 = (wr' + 1 - x + i) % 30 := by
      intro x i
      by_cases q : 60 ≤ wr' + 1
      · rw [show NXW wr' = 30 from if_pos q]; omega
      · rw [show NXW wr' = wr' + 1 from if_neg q]
    have n59 : NXW wr' ≤ 59 := by
      by_cases q : 60 ≤ wr' + 1
      · rw [show NXW wr' = 30 from if_pos q]; decide
      · rw [show NXW wr' = wr' + 1 from if_neg q]; omega
    refine ⟨NXW wr', W, (NXW_b x2).1, n59, ?_, fun i a b => ?_⟩
    · rw [en, ew, WRB_10, e10, x4]
      by_cases q : wr' ≤ 30
      · rw [if_pos q]
        by_cases q2 : wr' = 30
        · rw [if_pos q2, if_neg (by omega)]
        · rw [if_neg q2, if_pos (by omega)]
      · rw [if_neg q, if_pos rfl, if_neg (by omega)]
    · rw [ec]
      rw [ew, WRB_10, e10] at b
      have i30 : i < 30 := by split at b <;> omega
      obtain ⟨y1, y2⟩ := @WRB_book (STR em et (sgA A) A h c rt) ((A 6 * 4 + h) * 24 + (2 * c + rt)) (mvv em A (sgA A) h c rt) (by rw [e10]; exact n0) (by rw [e10]; exact n1) i a i30
      show gL S' 402 j _ = ENT (STW 1 em et A h c rt (2955 + 2 * i)) (STW 1 em et A h c rt (2955 + (2 * i + 1)))
      rw [B, ew, y1, y2, WRB_10, e10]
      by_cases q : A 10 = 30
      · have q3 : ¬ wr' < 30 := by
          intro z
          rw [if_pos (by omega)] at x4
          omega
        simp only [q, if_true]
        have ei : (wr' + 1 - 30 + i) % 30 = (wr' + 1 + i) % 30 := by omega
        by_cases w : i = 29
        · simp only [w, if_true]
          rw [if_pos (by congr 1; omega)]
        · simp only [w, if_false]
          rw [if_neg (by omega), ef _ (by omega), ef _ (by omega)]
          have := x5 (i + 1) (by omega) (by omega)
          rw [q] at this
          rw [show wr' + 1 - 30 + i = wr' - 30 + (i + 1) by omega]
          exact this
      · have q3 : wr' = A 10 := by
          by_cases z : wr' ≤ 30
          · rw [if_pos z] at x4; exact x4.symm
          · rw [if_neg z] at x4; exact absurd x4 q
        simp only [q, if_false] at b ⊢
        by_cases w : i = A 10
        · simp only [w, if_true]
          rw [if_pos (by congr 1; omega)]
        · simp only [w, if_false]
          rw [if_neg (by omega), ef _ (by omega), ef _ (by omega)]
          have := x5 i a (by omega)
          rw [show (wr' + 1 - (A 10 + 1) + i) = wr' - A 10 + i by omega]
          exact this
