/-! SHEETS of the class against rows of the reference. -/
def LAY (S : St) (j : Nat) (r : Int → Int) : Prop := (∀ c : Int, 0 ≤ c → c < 12 → gI S 400 j c.toNat = jj (r (11 + c))) ∧ TB (gI S 404 j 0) (fun c => r (23 + c)) ∧ gI S 405 j 0 = jj (r 9) ∧ gI S 407 j 0 = jj (r 6)
def HOM (S : St) (j : Nat) (hm : Int → Int) : Prop := ∀ t : Int, 0 ≤ t → t < 6 → gI S 401 j t.toNat = jj (hm t)
/-- a stroke in the book -/
def ENT (v m : Int) : Int64 := kk ((v / 24 * 32 + v % 24) * 4294967296 + m)
def BKS (S : St) (j : Nat) (n : Int) (b : Int → Int) : Prop := ∃ wr : Int, gI S 403 j 0 = jj wr ∧ 0 ≤ wr ∧ wr ≤ 59 ∧ n = (if wr ≤ 30 then wr else 30) ∧ ∀ i : Int, 0 ≤ i → i < n → gL S 402 j ((wr - n + i) % 30).toNat = ENT (b (2 * i)) (b (2 * i + 1))
def SHT (S : St) (j : Nat) (r hm b : Int → Int) : Prop := LAY S j r ∧ gI S 406 j 0 = jj (r 8) ∧ gI S 408 j 0 = jj (r 7) ∧ HOM S j hm ∧ BKS S j (r 10) b
/-- bounds of a row -/
def OKR (r b : Int → Int) (M : Int) : Prop := (∀ c : Int, 0 ≤ c → c < 12 → 0 ≤ r (11 + c)) ∧ (∀ c : Int, 0 ≤ c → c < 12 → r (23 + c) = 0 ∨ r (23 + c) = 1) ∧ 0 ≤ r 9 ∧ 0 ≤ r 8 ∧ pre (fun c => r (11 + c)) 12 + r 9 + r 8 ≤ M ∧ 0 ≤ r 6 ∧ r 6 ≤ 9999 ∧ 0 ≤ r 7 ∧ r 7 < 30713 ∧ 0 ≤ r 10 ∧ r 10 ≤ 30 ∧ ∀ i : Int, 0 ≤ i → i < r 10 → 0 ≤ b (2 * i) ∧ b (2 * i) < 960000 ∧ 0 ≤ b (2 * i + 1) ∧ b (2 * i + 1) ≤ 100000000
def SHP (j0 : Nat) (f j : Nat) : Prop := 400 ≤ f ∧ f ≤ 408 ∧ j = j0
theorem FX_LAY {P : Nat → Nat → Prop} {S S1 : St} {j : Nat} {r : Int → Int} (h : FX P S S1) (p : ∀ f, 400 ≤ f → f ≤ 408 → ¬ P f j) (hL : LAY S j r) : LAY S1 j r := by
  obtain ⟨h1, h2, h3, h4⟩ := hL
  refine ⟨fun c q q2 => (h.1 400 j _ (p _ (by omega) (by omega))).trans (h1 c q q2), ?_, (h.1 405 j 0 (p _ (by omega) (by omega))).trans h3, (h.1 407 j 0 (p _ (by omega) (by omega))).trans h4⟩
  rw [h.1 404 j 0 (p _ (by omega) (by omega))]
  exact h2
theorem FX_HOM {P : Nat → Nat → Prop} {S S1 : St} {j : Nat} {r : Int → Int} (h : FX P S S1) (p : ¬ P 401 j) (hL : HOM S j r) : HOM S1 j r := fun t q q2 => (h.1 401 j _ p).trans (hL t q q2)
theorem FX_BKS {P : Nat → Nat → Prop} {S S1 : St} {j : Nat} {n : Int} {b : Int → Int} (h : FX P S S1) (p : ¬ P 402 j) (p2 : ¬ P 403 j) (hL : BKS S j n b) : BKS S1 j n b := by
  obtain ⟨wr, h1, h2, h3, h4, h5⟩ := hL
  exact ⟨wr, (h.1 403 j 0 p2).trans h1, h2, h3, h4, fun i q q2 => (h.2.1 402 j _ p).trans (h5 i q q2)⟩
theorem FX_SHT {P : Nat → Nat → Prop} {S S1 : St} {j : Nat} {r hm b : Int → Int} (h : FX P S S1) (p : ∀ f, 400 ≤ f → f ≤ 408 → ¬ P f j) (hL : SHT S j r hm b) : SHT S1 j r hm b :=
  ⟨FX_LAY h p hL.1, (h.1 406 j 0 (p _ (by omega) (by omega))).trans hL.2.1, (h.1 408 j 0 (p _ (by omega) (by omega))).trans hL.2.2.1, FX_HOM h (p _ (by omega) (by omega)) hL.2.2.2.1, FX_BKS h (p _ (by omega) (by omega)) (p _ (by omega) (by omega)) hL.2.2.2.2⟩
theorem LAY_ext {S : St} {j : Nat} {r r' : Int → Int} (h : LAY S j r) (e : ∀ i, 6 ≤ i → i < 35 → r i = r' i) : LAY S j r' := by
  obtain ⟨h1, h2, h3, h4⟩ := h
  refine ⟨fun c q q2 => by rw [← e (11 + c) (by omega) (by omega)]; exact h1 c q q2, tb_ext h2 (fun c q q2 => e (23 + c) (by omega) (by omega)), by rw [← e 9 (by omega) (by omega)]; exact h3, by rw [← e 6 (by omega) (by omega)]; exact h4⟩
theorem HOM_ext {S : St} {j : Nat} {r r' : Int → Int} (h : HOM S j r) (e : ∀ i, 0 ≤ i → i < 6 → r i = r' i) : HOM S j r' := fun t q q2 => by rw [← e t q q2]; exact h t q q2
theorem BKS_ext {S : St} {j : Nat} {n : Int} {b b' : Int → Int} (h : BKS S j n b) (e : ∀ i, 0 ≤ i → i < 60 → b i = b' i) : BKS S j n b' := by
  obtain ⟨wr, h1, h2, h3, h4, h5⟩ := h
  have h6 : n ≤ 30 := by
    rw [h4]
    by_cases q : wr ≤ 30
    · rw [if_pos q]; exact q
    · rw [if_neg q]; omega
  exact ⟨wr, h1, h2, h3, h4, fun i q q2 => by rw [← e (2 * i) (by omega) (by omega), ← e (2 * i + 1) (by omega) (by omega)]; exact h5 i q q2⟩
theorem SHT_ext {S : St} {j : Nat} {r hm b r' hm' b' : Int → Int} (h : SHT S j r hm b) (e : ∀ i, 6 ≤ i → i < 35 → r i = r' i) (e2 : ∀ i, 0 ≤ i → i < 6 → hm i = hm' i) (e3 : ∀ i, 0 ≤ i → i < 60 → b i = b' i) : SHT S j r' hm' b' := by
  obtain ⟨h1, h2, h3, h4, h5⟩ := h
  refine ⟨LAY_ext h1 e, by rw [← e 8 (by omega) (by omega)]; exact h2, by rw [← e 7 (by omega) (by omega)]; exact h3, HOM_ext h4 e2, ?_⟩
  rw [← e 10 (by omega) (by omega)]
  exact BKS_ext h5 e3
theorem pre_ext {f g : Int → Int} : ∀ m : Nat, (∀ i : Int, 0 ≤ i → i < m → f i = g i) → pre f m = pre g m := by
  intro m
  induction m with
  | zero => intro _; rfl
  | succ m ih =>
    intro h
    show pre f m + f m = pre g m + g m
    rw [ih (fun i q q2 => h i q (by omega)), h m (by omega) (by omega)]
theorem OKR_ext {r b r' b' : Int → Int} {M : Int} (h : OKR r b M) (e : ∀ i, 6 ≤ i → i < 35 → r i = r' i) (e3 : ∀ i, 0 ≤ i → i < 60 → b i = b' i) : OKR r' b' M := by
  obtain ⟨h1, h2, h3, h4, h5, h6, h7, h8, h9, h10, h11, h12⟩ := h
  rw [e 9 (by omega) (by omega)] at h3 h5
  rw [e 8 (by omega) (by omega)] at h4 h5
  rw [e 6 (by omega) (by omega)] at h6 h7
  rw [e 7 (by omega) (by omega)] at h8 h9
  rw [e 10 (by omega) (by omega)] at h10 h11 h12
  rw [pre_ext 12 (g := fun c => r' (11 + c)) (fun i q q2 => e (11 + i) (by omega) (by omega))] at h5
  refine ⟨fun c q q2 => by rw [← e (11 + c) (by omega) (by omega)]; exact h1 c q q2, fun c q q2 => by rw [← e (23 + c) (by omega) (by omega)]; exact h2 c q q2, h3, h4, h5, h6, h7, h8, h9, h10, h11, fun i q q2 => ?_⟩
  rw [← e3 (2 * i) (by omega) (by omega), ← e3 (2 * i + 1) (by omega) (by omega)]
  exact h12 i q q2
theorem OKR_mono {r b : Int → Int} {M M' : Int} (h : OKR r b M) (hm : M ≤ M') : OKR r b M' := by
  obtain ⟨h1, h2, h3, h4, h5, h6⟩ := h
  exact ⟨h1, h2, h3, h4, by omega, h6⟩
/-- sums of cells that aren't below 0 -/
theorem pre_pos {f : Int → Int} : ∀ m : Nat, (∀ i : Int, 0 ≤ i → i < m → 0 ≤ f i) → 0 ≤ pre f m ∧ ∀ i : Int, 0 ≤ i → i < m → f i ≤ pre f m := by
  intro m
  induction m with
  | zero => intro _; exact ⟨Int.le_refl _, fun i h h2 => by omega⟩
  | succ m ih =>
    intro h
    obtain ⟨h1, h2⟩ := ih (fun i q q2 => h i q (by omega))
    have h3 := h m (by omega) (by omega)
    refine ⟨show 0 ≤ pre f m + f m by omega, fun i q q2 => ?_⟩
    show f i ≤ pre f m + f m
    by_cases e : i = m
    · subst e; omega
    · have := h2 i q (by omega); omega
theorem OKR_CB {r b : Int → Int} {M : Int} (h : OKR r b M) (hM : M ≤ 100000000) : CB (fun c => r (11 + c)) := by
  obtain ⟨h1, h2, h3, h4, h5, h6⟩ := h
  have := pre_pos (f := fun c => r (11 + c)) 12 (fun i q q2 => h1 i q (by omega))
  intro i q q2
  have q3 := this.2 i q (by omega)
  have q4 := h1 i q q2
  exact ⟨q4, by simp only at q3 ⊢; omega⟩
theorem OKR_PB {r b : Int → Int} {M : Int} (h : OKR r b M) (hM : M ≤ 100000000) : PB (fun c => r (11 + c)) := by
  obtain ⟨h1, h2, h3, h4, h5, h6⟩ := h
  intro k q q2
  have h0 := pre_mono (f := fun c => r (11 + c)) (fun i q q2 => h1 i q q2) k.toNat 0 (by omega) (by omega)
  have h7 := pre_mono (f := fun c => r (11 + c)) (fun i q q2 => h1 i q q2) (12 - k).toNat k (by omega) (by omega)
  rw [show k + (((12 - k).toNat : Nat) : Int) = 12 by omega] at h7
  rw [show (0 : Int) + ((k.toNat : Nat) : Int) = k by omega] at h0
  change pre _ 0 ≤ _ at h0
  change _ ≤ pre _ 12 at h7
  have e0 : pre (fun c => r (11 + c)) 0 = 0 := rfl
  omega
theorem LAY_CC {S : St} {j : Nat} {r : Int → Int} (h : LAY S j r) : CC S j (fun c => r (11 + c)) := h.1
/-- copies of sheets -/
theorem q_laysAs (S : St) {j k : Nat} (hjk : j ≠ k) : ∃ S', f_X4_laysAs j k S = some S' ∧ (∀ i, gI S' 400 j i = gI S 400 k i) ∧ gI S' 404 j 0 = gI S 404 k 0 ∧ gI S' 405 j 0 = gI S 405 k 0 ∧ gI S' 407 j 0 = gI S 407 k 0 ∧ FX (fun f j' => (f = 400 ∨ f = 404 ∨ f = 405 ∨ f = 407) ∧ j' = j) S S' := by
  have hkj : k ≠ j := fun e => hjk e.symm
  refine ⟨_, rfl, fun i => ?_, ?_, ?_, ?_, ?_⟩
  · simp [gI_sI, gI_sIA]
  · simp [gI_sI, gI_sIA, hkj]
  · simp [gI_sI, gI_sIA, hkj]
  · simp [gI_sI, gI_sIA, hkj]
  · exact FX_sI (FX_sI (FX_sI (FX_sIA (FX_refl _ _) (by omega)) (by omega)) (by omega)) (by omega)
theorem q_becomes (S : St) {j k : Nat} (hjk : j ≠ k) : ∃ S', f_X4_becomes j k S = some S' ∧ (∀ i, gI S' 400 j i = gI S 400 k i) ∧ (∀ i, gI S' 401 j i = gI S 401 k i) ∧ (∀ i, gL S' 402 j i = gL S 402 k i) ∧ gI S' 403 j 0 = gI S 403 k 0 ∧ gI S' 404 j 0 = gI S 404 k 0 ∧ gI S' 405 j 0 = gI S 405 k 0 ∧ gI S' 406 j 0 = gI S 406 k 0 ∧ gI S' 407 j 0 = gI S 407 k 0 ∧ gI S' 408 j 0 = gI S 408 k 0 ∧ FX (SHP j) S S' := by
  have hkj : k ≠ j := fun e => hjk e.symm
  obtain ⟨S1, e1, a1, a2, a3, a4, a5⟩ := q_laysAs S hjk
  unfold f_X4_becomes
  rw [bnd_of e1]
  have n1 : ∀ f i, gI S1 f k i = gI S f k i := fun f i => a5.1 f k i (fun q => hkj q.2)
  have n2 : ∀ f i, gL S1 f k i = gL S f k i := fun f i => a5.2.1 f k i (fun q => hkj q.2)
  refine ⟨_, rfl, fun i => ?_, fun i => ?_, fun i => ?_, ?_, ?_, ?_, ?_, ?_, ?_, ?_⟩
  · simp [gI_sI, gI_sIA, gI_sLA, a1]
  · simp [gI_sI, gI_sIA, gI_sLA, n1]
  · simp [gL_sI, gL_sIA, gL_sLA, n2]
  · simp [gI_sI, gI_sIA, gI_sLA, hkj, n1]
  · simp [gI_sI, gI_sIA, gI_sLA, hkj, a2]
  · simp [gI_sI, gI_sIA, gI_sLA, hkj, a3]
  · simp [gI_sI, gI_sIA, gI_sLA, hkj, n1]
  · simp [gI_sI, gI_sIA, gI_sLA, hkj, a4]
  · simp [gI_sI, gI_sIA, gI_sLA, hkj, n1]
  · have b := FX_sub (Q := SHP j) a5 (fun f j' q => by unfold SHP; omega)
    exact FX_sI (FX_sI (FX_sI (FX_sLA (FX_sIA b (by unfold SHP; omega)) (by unfold SHP; omega)) (by unfold SHP; omega)) (by unfold SHP; omega)) (by unfold SHP; omega)
theorem becomes_SHT {S : St} {j k : Nat} (hjk : j ≠ k) {r hm b : Int → Int} (h : SHT S k r hm b) : ∃ S', f_X4_becomes j k S = some S' ∧ SHT S' j r hm b ∧ FX (SHP j) S S' ∧ gI S' 403 j 0 = gI S 403 k 0 := by
  obtain ⟨S1, e1, a0, a1, a2, a3, a4, a5, a6, a7, a8, a9⟩ := q_becomes S hjk
  obtain ⟨⟨h1, h2, h3, h4⟩, h5, h6, h7, wr, h8, h9, h10, h11, h12⟩ := h
  refine ⟨S1, e1, ⟨⟨fun c q q2 => (a0 _).trans (h1 c q q2), by rw [a4]; exact h2, a5.trans h3, a7.trans h4⟩, a6.trans h5, a8.trans h6, fun t q q2 => (a1 _).trans (h7 t q q2), wr, a3.trans h8, h9, h10, h11, fun i q q2 => (a2 _).trans (h12 i q q2)⟩, a9, a3⟩
theorem laysAs_LAY {S : St} {j k : Nat} (hjk : j ≠ k) {r : Int → Int} (h : LAY S k r) : ∃ S', f_X4_laysAs j k S = some S' ∧ LAY S' j r ∧ FX (fun f j' => (f = 400 ∨ f = 404 ∨ f = 405 ∨ f = 407) ∧ j' = j) S S' := by
  obtain ⟨S1, e1, a0, a4, a5, a7, a9⟩ := q_laysAs S hjk
  obtain ⟨h1, h2, h3, h4⟩ := h
  exact ⟨S1, e1, ⟨fun c q q2 => (a0 _).trans (h1 c q q2), by rw [a4]; exact h2, a5.trans h3, a7.trans h4⟩, a9⟩
