/-! WORLDS of the class against rows of the reference; what is kept. -/
def rrow (A : Int → Int) (k : Int) : Int → Int := fun i => A (70 + 96 * k + i)
def rbk (A : Int → Int) (k : Int) : Int → Int := fun i => A (111 + 96 * k + i)
def rhm (A : Int → Int) (k : Int) : Int → Int := fun t => if t < A (75 + 96 * k) then A (105 + 96 * k + t) else if t < A 1 then A (41 + t) else -2
def HDR (S : St) (w : Nat) (A : Int → Int) : Prop := gI S 805 w 0 = jj (A 0) ∧ gI S 806 w 0 = jj (A 1) ∧ gI S 808 w 0 = jj (A 2) ∧ gI S 809 w 0 = jj (A 3) ∧ gI S 811 w 0 = jj (A 5) ∧ (∀ h : Int, 0 ≤ h → h < A 0 → gI S 804 w h.toNat = jj (A (47 + h))) ∧ ∀ k : Int, 0 ≤ k → k < 3 * A 5 → gI S 810 w k.toNat = jj (A (51 + k))
def STPS (S : St) (w : Nat) (A : Int → Int) : Prop := gI S 803 w 0 = jj (A 4) ∧ ∃ ns : Int, 0 ≤ ns ∧ ns < 30 ∧ gI S 802 w 0 = jj ns ∧ ∀ k : Int, 0 ≤ k → k < A 4 → SHT S (31 * w + 1 + ((ns + 30 - A 4 + k) % 30).toNat) (rrow A k) (rhm A k) (rbk A k)
def WLD (S : St) (w : Nat) (A : Int → Int) : Prop := HDR S w A ∧ SHX S (31 * w) 1 A ∧ STPS S w A
/-- bounds of a whole row -/
def RCK (A : Int → Int) (M : Int) : Prop := ∀ k : Int, 0 ≤ k → k < A 4 → OKR (rrow A k) (rbk A k) M ∧ 0 ≤ A (75 + 96 * k) ∧ A (75 + 96 * k) ≤ A 1 ∧ ∀ t : Int, 0 ≤ t → t < A (75 + 96 * k) → -1 ≤ A (105 + 96 * k + t) ∧ A (105 + 96 * k + t) ≤ 11
def NUM (A : Int → Int) (M : Int) : Prop := OKS A M ∧ 0 ≤ A 2 ∧ A 2 ≤ 4 ∧ -1 ≤ A 3 ∧ A 3 < A 2 ∧ 0 ≤ A 4 ∧ A 4 ≤ 30 ∧ 0 ≤ A 5 ∧ A 5 ≤ 8 ∧ (∀ t : Int, 0 ≤ t → t < A 1 → 0 ≤ A (41 + t) ∧ A (41 + t) ≤ 11) ∧ (∀ k : Int, 0 ≤ k → k < A 5 → 0 ≤ A (51 + 3 * k) ∧ A (51 + 3 * k) < A 0 ∧ 0 ≤ A (52 + 3 * k) ∧ A (52 + 3 * k) < 12 ∧ 0 ≤ A (53 + 3 * k) ∧ A (53 + 3 * k) ≤ 9999) ∧ RCK A M
theorem HDR_STG {S : St} {A : Int → Int} (h : HDR S 0 A) : STG S A := ⟨h.1, h.2.2.2.2.2.1⟩
theorem HDR_FX {P : Nat → Nat → Prop} {S S1 : St} {w : Nat} {A : Int → Int} (h : FX P S S1) (p : ∀ f, 804 ≤ f → f ≤ 811 → ¬ P f w) (hD : HDR S w A) : HDR S1 w A := by
  obtain ⟨h1, h2, h3, h4, h5, h6, h7⟩ := hD
  exact ⟨(h.1 805 w 0 (p _ (by omega) (by omega))).trans h1, (h.1 806 w 0 (p _ (by omega) (by omega))).trans h2, (h.1 808 w 0 (p _ (by omega) (by omega))).trans h3, (h.1 809 w 0 (p _ (by omega) (by omega))).trans h4, (h.1 811 w 0 (p _ (by omega) (by omega))).trans h5, fun k a b => (h.1 804 w _ (p _ (by omega) (by omega))).trans (h6 k a b), fun k a b => (h.1 810 w _ (p _ (by omega) (by omega))).trans (h7 k a b)⟩
theorem HDR_ext {S : St} {w : Nat} {A B : Int → Int} (hD : HDR S w A) (h0 : A 0 ≤ 4) (h5 : A 5 ≤ 8) (e : ∀ i, 0 ≤ i → i < 75 → (i < 4 ∨ i = 5 ∨ 47 ≤ i) → A i = B i) : HDR S w B := by
  obtain ⟨h1, h2, h3, h4, h5', h6, h7⟩ := hD
  refine ⟨by rw [← e 0 (by decide) (by decide) (by decide)]; exact h1, by rw [← e 1 (by decide) (by decide) (by decide)]; exact h2, by rw [← e 2 (by decide) (by decide) (by decide)]; exact h3, by rw [← e 3 (by decide) (by decide) (by decide)]; exact h4, by rw [← e 5 (by decide) (by decide) (by decide)]; exact h5', fun k a b => ?_, fun k a b => ?_⟩
  · rw [← e 0 (by decide) (by decide) (by decide)] at b
    rw [← e (47 + k) (by omega) (by omega) (by omega)]
    exact h6 k a b
  · rw [← e 5 (by decide) (by decide) (by decide)] at b
    rw [← e (51 + k) (by omega) (by omega) (by omega)]
    exact h7 k a b
theorem SHX_SHT {S : St} {j : Nat} {A : Int → Int} (h : SHX S j 1 A) : SHT S j A (hmA A) (bkA A) := ⟨h.1, h.2.1, h.2.2.1, h.2.2.2.1, h.2.2.2.2 rfl⟩
theorem SHT_SHX {S : St} {j : Nat} {A : Int → Int} {wf : Int} (h : SHT S j A (hmA A) (bkA A)) : SHX S j wf A := ⟨h.1, h.2.1, h.2.2.1, h.2.2.2.1, fun _ => h.2.2.2.2⟩
theorem KSH_4 {A : Int → Int} (s0 : 0 ≤ A 4) (s1 : A 4 ≤ 30) : 0 ≤ KSH A 4 ∧ KSH A 4 < 30 ∧ (A 4 = 30 ∧ KSH A 4 = 29 ∨ A 4 < 30 ∧ KSH A 4 = A 4) := by
  unfold KSH
  by_cases q : A 4 = 30
  · rw [if_pos q, if_pos rfl]; omega
  · rw [if_neg q]; omega
theorem KPF_far {A : Int → Int} (s0 : 0 ≤ A 4) (s1 : A 4 ≤ 30) (i : Int) (h : i ≠ 4) (h2 : i < 75 ∨ 2955 ≤ i) : KPF A i = A i := by
  have k4 := KSH_4 s0 s1
  unfold KPF
  rw [if_neg h, if_neg (by omega), if_neg (by omega), if_neg (by omega)]
  unfold KSH
  by_cases q : A 4 = 30
  · rw [if_pos q, if_neg h, if_neg (by omega)]
  · rw [if_neg q]
theorem KPF_4 {A : Int → Int} : KPF A 4 = KSH A 4 + 1 := if_pos rfl
/-- elder records -/
theorem KPF_old {A : Int → Int} (s0 : 0 ≤ A 4) (s1 : A 4 ≤ 30) (k i : Int) (k0 : 0 ≤ k) (k1 : k < KSH A 4) (i0 : 75 + 96 * k ≤ i) (i1 : i < 171 + 96 * k) : KPF A i = if A 4 = 30 then A (i + 96) else A i := by
  have k4 := KSH_4 s0 s1
  unfold KPF
  rw [if_neg (by omega), if_neg (by omega), if_neg (by omega), if_neg (by omega)]
  unfold KSH
  by_cases q : A 4 = 30
  · rw [if_pos q, if_pos q, if_neg (by omega), if_pos (by omega)]
  · rw [if_neg q, if_neg q]
theorem KPF_new {A : Int → Int} (s0 : 0 ≤ A 4) (s1 : A 4 ≤ 30) : (∀ i, 6 ≤ i → i < 41 → rrow (KPF A) (KSH A 4) i = A i) ∧ (∀ i, 0 ≤ i → i < 60 → rbk (KPF A) (KSH A 4) i = A (2955 + i)) ∧ KPF A (75 + 96 * KSH A 4) = A 1 := by
  have k4 := KSH_4 s0 s1
  refine ⟨fun i a b => ?_, fun i a b => ?_, ?_⟩
  · unfold rrow KPF
    rw [if_neg (by omega), if_neg (by omega), if_pos (by omega)]
    congr 1; omega
  · unfold rbk KPF
    rw [if_neg (by omega), if_neg (by omega), if_neg (by omega), if_pos (by omega)]
    congr 1; omega
  · unfold KPF
    rw [if_neg (by omega), if_pos rfl]
theorem OKS_ext {A B : Int → Int} {M : Int} (h : OKS A M) (e : ∀ i, 0 ≤ i → i < 75 → (i < 2 ∨ 6 ≤ i ∧ i < 41 ∨ 47 ≤ i ∧ i < 51) → A i = B i) (e2 : ∀ i, 2955 ≤ i → i < 3015 → A i = B i) : OKS B M := by
  obtain ⟨h1, ⟨t1, t2, t3⟩, ⟨g1, g2, g3⟩, hM⟩ := h
  have x0 := e 0 (by decide) (by decide) (by decide)
  have x1 := e 1 (by decide) (by decide) (by decide)
  refine ⟨OKR_ext h1 (fun i a b => e i (by omega) (by omega) (by omega)) (fun i a b => e2 (2955 + i) (by omega) (by omega)), ⟨by rw [← x1]; exact t1, by rw [← x1]; exact t2, fun t a b => ?_⟩, ⟨by rw [← x0]; exact g1, by rw [← x0]; exact g2, fun t a b => ?_⟩, hM⟩
  · rw [← x1] at b
    rw [← e (35 + t) (by omega) (by omega) (by omega)]
    exact t3 t a b
  · rw [← x0] at b
    rw [← e (47 + t) (by omega) (by omega) (by omega)]
    exact g3 t a b
theorem NUM_KPF {A : Int → Int} {M : Int} (h : NUM A M) : NUM (KPF A) M := by
  obtain ⟨hO, a2, a2', a3, a3', a4, a4', a5, a5', hT, hS, hR⟩ := h
  have f := @KPF_far A a4 a4'
  have k4 := KSH_4 a4 a4'
  have t6 := hO.2.1.2.1
  refine ⟨OKS_ext hO (fun i a b c => (f i (by omega) (by omega)).symm) (fun i a b => (f i (by omega) (by omega)).symm), by rw [f 2 (by decide) (by decide)]; exact a2, by rw [f 2 (by decide) (by decide)]; exact a2', by rw [f 3 (by decide) (by decide)]; exact a3, by rw [f 2 (by decide) (by decide), f 3 (by decide) (by decide)]; exact a3', by rw [KPF_4]; omega, by rw [KPF_4]; omega, by rw [f 5 (by decide) (by decide)]; exact a5, by rw [f 5 (by decide) (by decide)]; exact a5', fun t a b => ?_, fun k a b => ?_, fun k a b => ?_⟩
  · rw [f 1 (by decide) (by decide)] at b
    rw [f (41 + t) (by omega) (by omega)]
    exact hT t a b
  · rw [f 5 (by decide) (by decide)] at b
    rw [f (51 + 3 * k) (by omega) (by omega), f (52 + 3 * k) (by omega) (by omega), f (53 + 3 * k) (by omega) (by omega), f 0 (by decide) (by decide)]
    exact hS k a b
  · rw [KPF_4] at b
    rw [f 1 (by decide) (by decide)]
    by_cases w : k = KSH A 4
    · subst w
      obtain ⟨n1, n2, n3⟩ := @KPF_new A a4 a4'
      refine ⟨OKR_ext hO.1 (fun i a b => (n1 i a (by omega)).symm) (fun i a b => (n2 i a b).symm), by rw [n3]; exact hO.2.1.1, by rw [n3]; exact Int.le_refl _, fun t a b => ?_⟩
      rw [n3] at b
      have := n1 (35 + t) (by omega) (by omega)
      unfold rrow at this
      rw [show 105 + 96 * KSH A 4 + t = 70 + 96 * KSH A 4 + (35 + t) by omega, this]
      exact hO.2.1.2.2 t a b
    · have o := fun i => @KPF_old A a4 a4' k i a (by omega)
      by_cases q : A 4 = 30
      · simp only [q, if_true] at o
        obtain ⟨r1, r2, r3, r4⟩ := hR (k + 1) (by omega) (by omega)
        have x : A (75 + 96 * (k + 1)) = KPF A (75 + 96 * k) := by rw [o _ (by omega) (by omega)]; congr 1; omega
        rw [x] at r2 r3 r4
        refine ⟨OKR_ext r1 (fun i a b => ?_) (fun i a b => ?_), r2, r3, fun t c d => ?_⟩
        · unfold rrow; rw [o _ (by omega) (by omega)]; congr 1; omega
        · unfold rbk; rw [o _ (by omega) (by omega)]; congr 1; omega
        · have := r4 t c d
          rw [o _ (by omega) (by omega), show 105 + 96 * k + t + 96 = 105 + 96 * (k + 1) + t by omega]
          exact this
      · simp only [q, if_false] at o
        obtain ⟨r1, r2, r3, r4⟩ := hR k (by omega) (by omega)
        have x : A (75 + 96 * k) = KPF A (75 + 96 * k) := (o _ (by omega) (by omega)).symm
        rw [x] at r2 r3 r4
        refine ⟨OKR_ext r1 (fun i a b => ?_) (fun i a b => ?_), r2, r3, fun t c d => ?_⟩
        · unfold rrow; rw [o _ (by omega) (by omega)]
        · unfold rbk; rw [o _ (by omega) (by omega)]
        · have := r4 t c d
          rw [o _ (by omega) (by omega)]
          exact this
def KPP (f j : Nat) : Prop := ((f = 802 ∨ f = 803) ∧ j = 0) ∨ (400 ≤ f ∧ f ≤ 408 ∧ 1 ≤ j ∧ j ≤ 30)
theorem x_keep {S : St} {A : Int → Int} {M : Int} (hA : NUM A M) (hW : WLD S 0 A) : ∃ S', f_X8_keepStep 0 S = some S' ∧ WLD S' 0 (KPF A) ∧ FX KPP S S' ∧ ∀ j, j < 66 → gI S' 403 j 0 = gI S 403 j 0 ∨ gI S' 403 j 0 = gI S 403 0 0 := by
  obtain ⟨hO, a2, a2', a3, a3', a4, a4', a5, a5', hT, hS, hR⟩ := hA
  obtain ⟨hH, hX, h4, ns, n0, n1, hns, hst⟩ := hW
  have f := @KPF_far A a4 a4'
  have k4 := KSH_4 a4 a4'
  have t6 := hO.2.1.2.1
  have h04 := hO.2.2.1.2.1
  obtain ⟨S1, e1, T1, F1, W1⟩ := becomes_SHT (j := 31 * 0 + 1 + ns.toNat) (k := 31 * 0) (by omega) (SHX_SHT hX)
  unfold f_X8_keepStep
  rw [hns, chk_true (jj_inb n0 (by omega) (by omega)), jj_nat (by omega) (by omega), bnd_of e1]
  have g2 : gI S1 802 0 0 = jj ns := (F1.1 802 0 0 (by unfold SHP; omega)).trans hns
  have g3 : gI S1 803 0 0 = jj (A 4) := (F1.1 803 0 0 (by unfold SHP; omega)).trans h4
  rw [g2]
  simp only [lt, jj_of, jj_add]
  have g3' : gI (sI S1 802 0 0 (jj ((ns + 1) % 30))) 803 0 0 = jj (A 4) := by rw [gI_sI, if_neg (by omega)]; exact g3
  rw [jj_rem (by omega) (by omega) (by decide) (by decide), g3', jj_add]
  have e30 : (if jj 30 < jj (A 4 + 1) then jj 30 else jj (A 4 + 1)) = jj (KPF A 4) := by
    rw [KPF_4]
    simp (disch := omega) only [jj_lt]
    by_cases q : 30 < A 4 + 1
    · rw [if_pos q]; congr 1; omega
    · rw [if_neg q]; congr 1; omega
  rw [e30]
  have FF : FX KPP S (sI (sI S1 802 0 0 (jj ((ns + 1) % 30))) 803 0 0 (jj (KPF A 4))) := FX_sI (FX_sI (FX_sub F1 (fun f j q => by unfold SHP at q; unfold KPP; omega)) (by unfold KPP; omega)) (by unfold KPP; omega)
  have same : FX (fun f j => (f = 802 ∨ f = 803) ∧ j = 0) S1 (sI (sI S1 802 0 0 (jj ((ns + 1) % 30))) 803 0 0 (jj (KPF A 4))) := FX_sI (FX_sI (FX_refl _ _) (by omega)) (by omega)
  refine ⟨_, rfl, ⟨HDR_ext (HDR_FX FF (fun f a b => by unfold KPP; omega) hH) (by omega) (by omega) (fun i a b c => (f i (by omega) (by omega)).symm), SHX_ext (SHX_FX FF (fun f a b => by unfold KPP; omega) hX) (f 1 (by decide) (by decide)).symm (fun i a b => (f i (by omega) (by omega)).symm) (fun i a b => (f i (by omega) (by omega)).symm), by rw [gI_sI, if_pos ⟨rfl, rfl, rfl⟩], (ns + 1) % 30, by omega, by omega, by rw [gI_sI, if_neg (by omega), gI_sI, if_pos ⟨rfl, rfl, rfl⟩], fun k a b => ?_⟩, FF, fun j hj => ?_⟩
  · have f1 : KPF A 1 = A 1 := f 1 (by decide) (by decide)
    by_cases w : k = KSH A 4
    · have ej : 31 * 0 + 1 + (((ns + 1) % 30 + 30 - KPF A 4 + k) % 30).toNat = 31 * 0 + 1 + ns.toNat := by
        rw [KPF_4]; omega
      rw [ej]
      obtain ⟨m1, m2, m3⟩ := @KPF_new A a4 a4'
      refine SHT_ext (FX_SHT same (fun f a b => by omega) T1) (fun i a b => ?_) (fun t a b => ?_) (fun i a b => ?_)
      · rw [w]; exact (m1 i a (by omega)).symm
      · rw [w]
        unfold rhm hmA
        rw [m3, f1]
        by_cases q : t < A 1
        · rw [if_pos q, if_pos q]
          have := m1 (35 + t) (by omega) (by omega)
          unfold rrow at this
          rw [show 105 + 96 * KSH A 4 + t = 70 + 96 * KSH A 4 + (35 + t) by omega, this]
        · rw [if_neg q, if_neg q, if_neg q]
      · rw [w]; exact (m2 i a b).symm
    · rw [KPF_4] at b
      have o := fun i => @KPF_old A a4 a4' k i a (by omega)
      by_cases q : A 4 = 30
      · simp only [q, if_true] at o
        have ej : 31 * 0 + 1 + (((ns + 1) % 30 + 30 - KPF A 4 + k) % 30).toNat = 31 * 0 + 1 + ((ns + 30 - A 4 + (k + 1)) % 30).toNat := by
          rw [KPF_4]; omega
        have old := hst (k + 1) (by omega) (by omega)
        rw [ej]
        have ne : 31 * 0 + 1 + ((ns + 30 - A 4 + (k + 1)) % 30).toNat ≠ 31 * 0 + 1 + ns.toNat := by omega
        refine SHT_ext (FX_SHT same (fun f a b => by omega) (FX_SHT F1 (fun f a b => by unfold SHP; omega) old)) (fun i a b => ?_) (fun t a b => ?_) (fun i a b => ?_)
        · unfold rrow; rw [o _ (by omega) (by omega)]; congr 1; omega
        · unfold rhm
          rw [o _ (by omega) (by omega), o _ (by omega) (by omega), f1, show 75 + 96 * k + 96 = 75 + 96 * (k + 1) by omega, show 105 + 96 * k + t + 96 = 105 + 96 * (k + 1) + t by omega, f _ (by omega) (by omega)]
        · unfold rbk; rw [o _ (by omega) (by omega)]; congr 1; omega
      · simp only [q, if_false] at o
        have ej : 31 * 0 + 1 + (((ns + 1) % 30 + 30 - KPF A 4 + k) % 30).toNat = 31 * 0 + 1 + ((ns + 30 - A 4 + k) % 30).toNat := by
          rw [KPF_4]; omega
        have old := hst k (by omega) (by omega)
        rw [ej]
        have ne : 31 * 0 + 1 + ((ns + 30 - A 4 + k) % 30).toNat ≠ 31 * 0 + 1 + ns.toNat := by omega
        refine SHT_ext (FX_SHT same (fun f a b => by omega) (FX_SHT F1 (fun f a b => by unfold SHP; omega) old)) (fun i a b => ?_) (fun t a b => ?_) (fun i a b => ?_)
        · unfold rrow; rw [o _ (by omega) (by omega)]
        · unfold rhm
          rw [o _ (by omega) (by omega), o _ (by omega) (by omega), f1, f _ (by omega) (by omega)]
        · unfold rbk; rw [o _ (by omega) (by omega)]
  · rw [gI_sI, if_neg (by omega), gI_sI, if_neg (by omega)]
    by_cases w : j = 31 * 0 + 1 + ns.toNat
    · rw [w]; exact Or.inr W1
    · exact Or.inl (F1.1 403 j 0 (by unfold SHP; omega))
