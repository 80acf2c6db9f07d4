/-! CALLS that do: stroke, trim, patch, turns. -/
theorem x_isHand {S : St} {A : Int → Int} {h : Int} (e : gI S 805 0 0 = jj (A 0)) (a0 : 0 ≤ A 0) (a4 : A 0 ≤ 4) (b1 : -2147483648 ≤ h) (b2 : h ≤ 2147483647) : f_X9_isHand S (jj h) = some (if 0 ≤ h ∧ h < A 0 then jj 1 else jj 0) := by
  unfold f_X9_isHand
  rw [e]
  simp (disch := omega) only [jj_of, jj_add, jj_sub, jj_mul, jj_neg, jj_le, jj_lt, jj_eq, jj_nat, chk_true (jj_inb _ _ _), chk_true (jj_nz _ _ _), lt]
  by_cases q : h < 0
  · rw [if_pos q, if_neg (by omega)]
  · rw [if_neg q]
    by_cases q2 : A 0 ≤ h
    · rw [if_pos q2, if_neg (by omega)]
    · rw [if_neg q2, if_pos (by omega)]
theorem r_isHand {S : St} {A : Int → Int} {h : Int} (hA : AR 1000 S A) (a0 : 0 ≤ A 0) (a4 : A 0 ≤ 4) (b1 : -2147483648 ≤ h) (b2 : h ≤ 2147483647) : f_X10_isHand S (jj h) = some (if 0 ≤ h ∧ h < A 0 then jj 1 else jj 0) := by
  have e0 : gI S 1000 0 0 = jj (A 0) := hA 0 (by decide) (by decide)
  unfold f_X10_isHand
  rw [e0]
  simp only [jj_of, jj_sub]
  rw [bnd_of (q_isIn2 b1 b2 (by decide) (by decide) (by omega) (by omega)), chk_true isz_if]
  congr 1
  by_cases q : 0 ≤ h ∧ h < A 0
  · rw [if_pos q, if_pos (by omega)]
  · rw [if_neg q, if_neg (by omega)]
theorem jz {p : Prop} [Decidable p] : ((if p then jj 1 else jj 0) = jj 0) = ¬ p := by
  by_cases h : p
  · rw [if_pos h]; exact propext ⟨fun e => absurd e (by decide), fun e => absurd h e⟩
  · rw [if_neg h]; exact propext ⟨fun _ => h, fun _ => rfl⟩
def sok (A : Int → Int) (h c : Int) : Prop := (0 ≤ h ∧ h < A 0) ∧ (0 ≤ c ∧ c ≤ 11) ∧ 0 < A (11 + c)
theorem keep_row {A : Int → Int} {M : Int} (hN : NUM A M) (i : Int) (h : i ≠ 4) (h2 : i < 75 ∨ 2955 ≤ i) : KPF A i = A i := KPF_far hN.2.2.2.2.2.1 hN.2.2.2.2.2.2.1 i h h2
theorem c_stroke1 {S : St} {N : Nat} {A : Int → Int} {M W h c rt : Int} {em et : Sem} (hN : 4000 < N) (hC : XC S A M W em et) (hW : W < 100000000) (hs : sok A h c) (hr : rt = 0 ∨ rt = 1) : ∃ S', f_X9_stroke N S (jj h) (jj c) (jj rt) = some (jj (mvv em (KPF A) (sgA (KPF A)) h c rt), S') ∧ XC S' (STW 1 em et (KPF A) h c rt) M (W + 1) em et ∧ FX XOP S S' := by
  obtain ⟨s1, s2, s3⟩ := id hs
  have a0 := hC.2.1.1.2.2.1.1
  have a4 := hC.2.1.1.2.2.1.2.1
  have cb := OKR_CB hC.2.1.1.1 hC.2.1.1.2.2.2 c (by omega) (by omega)
  simp only at cb
  obtain ⟨S1, e1, C1, F1⟩ := c_keep hC
  have k0 := keep_row hC.2.1 0 (by decide) (by decide)
  obtain ⟨S2, e2, C2, F2⟩ := c_push (h := h) (c := c) (rt := rt) hN C1 hW ⟨s1.1, by rw [k0]; exact s1.2⟩ (by omega) (by omega) hr
  refine ⟨S2, ?_, C2, FX_trans F1 F2⟩
  unfold f_X9_stroke
  rw [bnd_of (x_isHand hC.1.1.1 a0 a4 (by omega) (by omega)), if_pos s1, if_neg (by decide), bnd_of (q_isCell (by omega) (by omega)), if_pos s2, if_neg (by decide), chk_true (jj_inb (by omega) (by omega) (by omega)), jj_nat (by omega) (by omega), hC.1.2.1.1.1 c (by omega) (by omega)]
  simp (disch := omega) only [jj_of, jj_add, jj_sub, jj_mul, jj_neg, jj_le, jj_lt, jj_eq, jj_nat, chk_true (jj_inb _ _ _), chk_true (jj_nz _ _ _), lt]
  rw [if_pos s3, bnd_of e1, bnd_of e2]
theorem c_stroke0 {S : St} {N : Nat} {A : Int → Int} {M W h c : Int} {rt : Int32} {em et : Sem} (hC : XC S A M W em et) (hs : ¬ sok A h c) (b1 : -2147483648 ≤ h) (b2 : h ≤ 2147483647) (b3 : -2147483648 ≤ c) (b4 : c ≤ 2147483647) : f_X9_stroke N S (jj h) (jj c) rt = some (jj (-1), S) := by
  have a0 := hC.2.1.1.2.2.1.1
  have a4 := hC.2.1.1.2.2.1.2.1
  unfold f_X9_stroke
  rw [bnd_of (x_isHand hC.1.1.1 a0 a4 b1 b2), bnd_of (q_isCell b3 b4)]
  by_cases s1 : 0 ≤ h ∧ h < A 0
  · rw [if_pos s1, if_neg (by decide)]
    by_cases s2 : 0 ≤ c ∧ c ≤ 11
    · have cb := OKR_CB hC.2.1.1.1 hC.2.1.1.2.2.2 c (by omega) (by omega)
      simp only at cb
      have s3 : ¬ 0 < A (11 + c) := fun z => hs ⟨s1, s2, z⟩
      rw [if_pos s2, if_neg (by decide), chk_true (jj_inb (by omega) (by omega) (by omega)), jj_nat (by omega) (by omega), hC.1.2.1.1.1 c (by omega) (by omega)]
      simp (disch := omega) only [jj_of, jj_add, jj_sub, jj_mul, jj_neg, jj_le, jj_lt, jj_eq, jj_nat, chk_true (jj_inb _ _ _), chk_true (jj_nz _ _ _), lt]
      rw [if_neg s3]
    · rw [if_neg s2, if_pos (by decide)]
      rfl
  · rw [if_neg s1, if_pos (by decide)]
    rfl
def RC (S : St) (A : Int → Int) (em et : Sem) : Prop := AR 1000 S A ∧ RLW S (A 3) em et ∧ gI S 1023 0 0 = jj 1
theorem RC_step {P : Nat → Nat → Prop} {S S1 : St} {A B : Int → Int} {em et : Sem} (h : RC S A em et) (hF : FX P S S1) (p : ¬ P 1002 0) (p2 : ¬ P 1023 0) (hA : AR 1000 S1 B) (e3 : B 3 = A 3) : RC S1 B em et := ⟨hA, by rw [e3]; exact RLW_of h.2.1 (fun k => hF.1 1002 0 k p), (hF.1 1023 0 0 p2).trans h.2.2⟩
theorem RC_keep {S : St} {N : Nat} {A : Int → Int} {M : Int} {em et : Sem} (hN : 4000 < N) (hM : NUM A M) (h : RC S A em et) : ∃ S', f_X10_keep N S = some S' ∧ RC S' (KPF A) em et ∧ FX (fun f _ => f = 1000) S S' := by
  obtain ⟨S', e, a, b⟩ := r_keep hN h.1 hM.2.2.2.2.2.1 hM.2.2.2.2.2.2.1
  exact ⟨S', e, RC_step h b (by omega) (by omega) a (keep_row hM 3 (by decide) (by decide)), b⟩
theorem STW_3 {wf : Int} {em et : Sem} {A : Int → Int} {h c rt M : Int} (hO : OKS A M) (h1 : 0 ≤ c) (h2 : c < 12) (hr : rt = 0 ∨ rt = 1) : STW wf em et A h c rt 3 = A 3 := (STW_AGR hO h1 h2 hr 3 (by decide) (by decide) (by decide)).symm
theorem r_stroke1 {S : St} {N : Nat} {A : Int → Int} {M h c rt : Int} {em et : Sem} (hN : 4000 < N) (hM : NUM A M) (hC : RC S A em et) (hs : sok A h c) (hr : rt = 0 ∨ rt = 1) : ∃ S', f_X10_stroke N S (jj h) (jj c) (jj rt) = some (jj (mvv em (KPF A) (sgA (KPF A)) h c rt), S') ∧ RC S' (STW 1 em et (KPF A) h c rt) em et ∧ FX ROP S S' := by
  obtain ⟨s1, s2, s3⟩ := id hs
  have a0 := hM.1.2.2.1.1
  have a4 := hM.1.2.2.1.2.1
  have cb := OKR_CB hM.1.1 hM.1.2.2.2 c (by omega) (by omega)
  simp only at cb
  obtain ⟨S1, e1, C1, F1⟩ := RC_keep hN hM hC
  have k0 := keep_row hM 0 (by decide) (by decide)
  have NK := NUM_KPF hM
  obtain ⟨S2, e2, C2, F2, -⟩ := r_strokeS (h := h) (c := c) (rt := rt) (wf := 1) (tc := (gI S1 1024 0 0).toInt) hN NK.1 C1.1 C1.2.1 ⟨s1.1, by rw [k0]; exact s1.2⟩ (by omega) (by omega) hr (Or.inr rfl) C1.2.2 (jj_self _).symm
  refine ⟨S2, ?_, RC_step C1 F2 (by unfold STF; omega) (by unfold STF; omega) C2 (STW_3 NK.1 (by omega) (by omega) hr), FX_trans (FX_sub F1 (fun f _ q => by unfold ROP; omega)) (FX_sub F2 (fun f _ q => by unfold STF at q; unfold ROP; omega))⟩
  have e11 := hC.1 (11 + c) (by omega) (by omega)
  unfold f_X10_stroke f_X10_canStroke
  rw [bnd_of (r_isHand hC.1 a0 a4 (by omega) (by omega)), if_pos s1, if_neg (by decide), bnd_of (q_isCellM (by omega) (by omega)), if_pos s2, if_neg (by decide)]
  simp (disch := omega) only [jj_of, jj_add, jj_sub, jj_mul, jj_neg, jj_le, jj_lt, jj_eq, jj_nat, chk_true (jj_inb _ _ _), chk_true (jj_nz _ _ _), lt, e11]
  rw [if_neg (by omega), bnd_of rfl, if_neg (by decide), bnd_of e1, bnd_of e2]
theorem r_stroke0 {S : St} {N : Nat} {A : Int → Int} {M h c : Int} {rt : Int32} {em et : Sem} (hM : NUM A M) (hC : RC S A em et) (hs : ¬ sok A h c) (b1 : -2147483648 ≤ h) (b2 : h ≤ 2147483647) (b3 : -2147483648 ≤ c) (b4 : c ≤ 2147483647) : f_X10_stroke N S (jj h) (jj c) rt = some (jj (-1), S) := by
  have a0 := hM.1.2.2.1.1
  have a4 := hM.1.2.2.1.2.1
  unfold f_X10_stroke f_X10_canStroke
  rw [bnd_of (r_isHand hC.1 a0 a4 b1 b2), bnd_of (q_isCellM b3 b4)]
  by_cases s1 : 0 ≤ h ∧ h < A 0
  · rw [if_pos s1, if_neg (by decide)]
    by_cases s2 : 0 ≤ c ∧ c ≤ 11
    · have cb := OKR_CB hM.1.1 hM.1.2.2.2 c (by omega) (by omega)
      simp only at cb
      have s3 : ¬ 0 < A (11 + c) := fun z => hs ⟨s1, s2, z⟩
      have e11 := hC.1 (11 + c) (by omega) (by omega)
      rw [if_pos s2, if_neg (by decide)]
      simp (disch := omega) only [jj_of, jj_add, jj_sub, jj_mul, jj_neg, jj_le, jj_lt, jj_eq, jj_nat, chk_true (jj_inb _ _ _), chk_true (jj_nz _ _ _), lt, e11]
      rw [if_pos (by omega), bnd_of rfl, if_pos rfl]
    · rw [if_neg s2, if_pos (by decide), bnd_of rfl, if_pos (by decide)]
      rfl
  · rw [if_neg s1, if_pos (by decide), bnd_of rfl, if_pos (by decide)]
    rfl
/-- trimming -/
theorem c_trim {S : St} {A : Int → Int} {M W : Int} {em et : Sem} (hC : XC S A M W em et) : ∃ S', f_X9_trim S = some (jj (if 0 < A 9 then A 9 else -1), S') ∧ XC S' (if 0 < A 9 then TRF (KPF A) else A) M W em et ∧ FX XOP S S' := by
  have h9 := (OKR_RB hC.2.1.1.1 hC.2.1.1.2.2.2).2.2
  unfold f_X9_trim
  rw [hC.1.2.1.1.2.2.1]
  simp (disch := omega) only [jj_of, jj_add, jj_sub, jj_mul, jj_neg, jj_le, jj_lt, jj_eq, jj_nat, chk_true (jj_inb _ _ _), chk_true (jj_nz _ _ _), lt]
  by_cases q : 0 < A 9
  · rw [if_pos q, if_pos q, if_pos q]
    obtain ⟨S1, e1, C1, F1⟩ := c_keep hC
    obtain ⟨S2, e2, X2, F2⟩ := x_cut C1.1.2.1
    rw [bnd_of e1, bnd_of e2]
    exact ⟨S2, rfl, XC_step C1 F2 (fun f a b => by omega) (fun f j a b c d => by omega) (fun j => by omega) X2 TRF_AGR (TRF_OKS C1.2.1.1), FX_trans F1 (FX_sub F2 (fun f j q => by unfold XOP; omega))⟩
  · rw [if_neg q, if_neg q, if_neg q]
    exact ⟨S, rfl, hC, FX_refl _ _⟩
theorem rc_trim {S : St} {N : Nat} {A : Int → Int} {M : Int} {em et : Sem} (hN : 4000 < N) (hM : NUM A M) (hC : RC S A em et) : ∃ S', f_X10_trim N S = some (jj (if 0 < A 9 then A 9 else -1), S') ∧ RC S' (if 0 < A 9 then TRF (KPF A) else A) em et ∧ FX ROP S S' := by
  have h9 := (OKR_RB hM.1.1 hM.1.2.2.2).2.2
  have e9 : gI S 1000 0 9 = jj (A 9) := hC.1 9 (by decide) (by decide)
  unfold f_X10_trim
  rw [e9]
  simp (disch := omega) only [jj_of, jj_add, jj_sub, jj_mul, jj_neg, jj_le, jj_lt, jj_eq, jj_nat, chk_true (jj_inb _ _ _), chk_true (jj_nz _ _ _), lt]
  by_cases q : 0 < A 9
  · rw [if_neg (by omega), if_pos q, if_pos q]
    obtain ⟨S1, e1, C1, F1⟩ := RC_keep hN hM hC
    obtain ⟨S2, e2, A2, F2⟩ := r_trim C1.1
    rw [bnd_of e1, bnd_of e2]
    exact ⟨S2, rfl, RC_step C1 F2 (by omega) (by omega) A2 (TRF_far (by decide) (by decide)), FX_trans (FX_sub F1 (fun f _ q => by unfold ROP; omega)) (FX_sub F2 (fun f _ q => by unfold ROP; omega))⟩
  · rw [if_pos (by omega), if_neg q, if_neg q]
    exact ⟨S, rfl, hC, FX_refl _ _⟩
/-- patching -/
def pok (A : Int → Int) (c n : Int) : Prop := (0 ≤ c ∧ c ≤ 11) ∧ (1 ≤ n ∧ n ≤ 99) ∧ A (23 + c) = 1 ∧ n ≤ A 8
theorem x_canMend {S : St} {A : Int → Int} {c n M : Int} (hO : OKS A M) (hX : SHX S 0 1 A) (c0 : 0 ≤ c) (c1 : c ≤ 11) (n0 : 0 ≤ n) (n1 : n ≤ 1000) : f_X4_canMend 0 S (jj c) (jj n) = some (if A (23 + c) = 1 ∧ n ≤ A 8 then jj 1 else jj 0) := by
  have h8 := hO.1.2.2.2.1
  have hs := hO.1.2.2.2.2.1
  have h9 := hO.1.2.2.1
  have pp := (pre_pos (f := fun c => A (11 + c)) 12 (fun i q q2 => hO.1.1 i q (by omega))).1
  have hM := hO.2.2.2
  have e01 := hO.1.2.1 c c0 (by omega)
  unfold f_X4_canMend
  rw [tb_get hX.1.2.1 c0 (by omega), hX.2.1]
  simp (disch := omega) only [jj_of, jj_add, jj_sub, jj_mul, jj_neg, jj_le, jj_lt, jj_eq, jj_nat, chk_true (jj_inb _ _ _), chk_true (jj_nz _ _ _), lt]
  by_cases q : A (23 + c) = 1
  · rw [if_pos q]
    by_cases q2 : A 8 < n
    · rw [if_pos q2, if_neg (by omega)]
    · rw [if_neg q2, if_pos (by omega)]
  · rw [if_neg q, if_neg (by omega)]
theorem r_canPatch {S : St} {A : Int → Int} {c n M : Int} (hO : OKS A M) (hA : AR 1000 S A) (b1 : -2147483648 ≤ c) (b2 : c ≤ 2147483647) (b3 : -2147483648 ≤ n) (b4 : n ≤ 2147483647) : f_X10_canPatch S (jj c) (jj n) = some (if (0 ≤ c ∧ c ≤ 11) ∧ (1 ≤ n ∧ n ≤ 99) ∧ A (23 + c) = 1 ∧ n ≤ A 8 then jj 1 else jj 0) := by
  have h8 := hO.1.2.2.2.1
  have hs := hO.1.2.2.2.2.1
  have h9 := hO.1.2.2.1
  have pp := (pre_pos (f := fun c => A (11 + c)) 12 (fun i q q2 => hO.1.1 i q (by omega))).1
  have hM := hO.2.2.2
  have e8 : gI S 1000 0 8 = jj (A 8) := hA 8 (by decide) (by decide)
  unfold f_X10_canPatch
  rw [bnd_of (q_isCellM b1 b2)]
  simp only [jj_of]
  rw [bnd_of (q_isIn2 b3 b4 (by decide) (by decide) (by decide) (by decide)), e8]
  by_cases q : 0 ≤ c ∧ c ≤ 11
  · rw [if_pos q, if_neg (by decide)]
    by_cases q2 : 1 ≤ n ∧ n ≤ 99
    · rw [if_pos q2, if_neg (by decide)]
      have e23 := hA (23 + c) (by omega) (by omega)
      have e01 := hO.1.2.1 c q.1 (by omega)
      simp (disch := omega) only [jj_of, jj_add, jj_sub, jj_mul, jj_neg, jj_le, jj_lt, jj_eq, jj_nat, chk_true (jj_inb _ _ _), chk_true (jj_nz _ _ _), lt, e23]
      by_cases q3 : A (23 + c) = 1
      · rw [if_pos q3]
        by_cases q4 : A 8 < n
        · rw [if_pos q4, if_neg (fun z => by omega)]
        · rw [if_neg q4, if_pos ⟨q, q2, q3, by omega⟩]
      · rw [if_neg q3, if_neg (fun z => q3 z.2.2.1)]
    · rw [if_neg q2, if_pos rfl, if_neg (fun z => q2 z.2.1)]
  · rw [if_neg q, if_pos rfl, if_neg (fun z => q z.1)]
theorem c_patch1 {S : St} {A : Int → Int} {M W c n : Int} {em et : Sem} (hC : XC S A M W em et) (hp : pok A c n) : ∃ S', f_X9_patch S (jj c) (jj n) = some (jj 1, S') ∧ XC S' (PTF (KPF A) c n) M W em et ∧ FX XOP S S' := by
  obtain ⟨p1, p2, p3, p4⟩ := id hp
  obtain ⟨S1, e1, C1, F1⟩ := c_keep hC
  obtain ⟨S2, e2, X2, F2⟩ := x_mend (n := n) C1.1.2.1 p1.1 (by omega)
  have k8 := keep_row hC.2.1 8 (by decide) (by decide)
  refine ⟨S2, ?_, XC_step C1 F2 (fun f a b => by omega) (fun f j a b c d => by omega) (fun j => by omega) X2 (PTF_AGR p1.1 (by omega)) (PTF_OKS C1.2.1.1 p1.1 (by omega) (by omega) (by omega)), FX_trans F1 (FX_sub F2 (fun f j q => by unfold XOP; omega))⟩
  unfold f_X9_patch
  rw [bnd_of (q_isCell (by omega) (by omega)), if_pos p1, if_neg (by decide)]
  simp (disch := omega) only [jj_of, jj_add, jj_sub, jj_mul, jj_neg, jj_le, jj_lt, jj_eq, jj_nat, chk_true (jj_inb _ _ _), chk_true (jj_nz _ _ _), lt]
  rw [if_neg (by omega), if_neg (by omega), bnd_of (x_canMend hC.2.1.1 hC.1.2.1 p1.1 p1.2 (by omega) (by omega)), if_pos (show A (23 + c) = 1 ∧ n ≤ A 8 from ⟨p3, p4⟩), if_neg (by decide), bnd_of e1, bnd_of e2]
theorem c_patch0 {S : St} {A : Int → Int} {M W c n : Int} {em et : Sem} (hC : XC S A M W em et) (hp : ¬ pok A c n) (b1 : -2147483648 ≤ c) (b2 : c ≤ 2147483647) (b3 : -2147483648 ≤ n) (b4 : n ≤ 2147483647) : f_X9_patch S (jj c) (jj n) = some (jj 0, S) := by
  unfold f_X9_patch
  rw [bnd_of (q_isCell b1 b2)]
  simp (disch := omega) only [jj_of, jj_add, jj_sub, jj_mul, jj_neg, jj_le, jj_lt, jj_eq, jj_nat, chk_true (jj_inb _ _ _), chk_true (jj_nz _ _ _), lt]
  by_cases q : 0 ≤ c ∧ c ≤ 11
  · rw [if_pos q, if_neg (by decide)]
    by_cases q2 : n < 1
    · rw [if_pos q2]
    · rw [if_neg q2]
      by_cases q3 : 99 < n
      · rw [if_pos q3]
      · rw [if_neg q3, bnd_of (x_canMend hC.2.1.1 hC.1.2.1 q.1 q.2 (by omega) (by omega)), if_neg (fun z => hp ⟨q, ⟨by omega, by omega⟩, z⟩), if_pos rfl]
  · rw [if_neg q, if_pos rfl]
theorem r_patch1 {S : St} {N : Nat} {A : Int → Int} {M c n : Int} {em et : Sem} (hN : 4000 < N) (hM : NUM A M) (hC : RC S A em et) (hp : pok A c n) : ∃ S', f_X10_patch N S (jj c) (jj n) = some (jj 1, S') ∧ RC S' (PTF (KPF A) c n) em et ∧ FX ROP S S' := by
  obtain ⟨p1, p2, p3, p4⟩ := id hp
  obtain ⟨S1, e1, C1, F1⟩ := RC_keep hN hM hC
  obtain ⟨S2, e2, A2, F2⟩ := r_patch (n := n) C1.1 p1.1 (by omega)
  refine ⟨S2, ?_, RC_step C1 F2 (by omega) (by omega) A2 (PTF_AGR p1.1 (by omega) 3 (by decide) (by decide) (by decide)).symm, FX_trans (FX_sub F1 (fun f _ q => by unfold ROP; omega)) (FX_sub F2 (fun f _ q => by unfold ROP; omega))⟩
  unfold f_X10_patch
  rw [bnd_of (r_canPatch hM.1 hC.1 (by omega) (by omega) (by omega) (by omega)), if_pos (show (0 ≤ c ∧ c ≤ 11) ∧ (1 ≤ n ∧ n ≤ 99) ∧ A (23 + c) = 1 ∧ n ≤ A 8 from hp), if_neg (by decide), bnd_of e1, bnd_of e2]
  rfl
theorem r_patch0 {S : St} {N : Nat} {A : Int → Int} {M c n : Int} {em et : Sem} (hM : NUM A M) (hC : RC S A em et) (hp : ¬ pok A c n) (b1 : -2147483648 ≤ c) (b2 : c ≤ 2147483647) (b3 : -2147483648 ≤ n) (b4 : n ≤ 2147483647) : f_X10_patch N S (jj c) (jj n) = some (jj 0, S) := by
  unfold f_X10_patch
  rw [bnd_of (r_canPatch hM.1 hC.1 b1 b2 b3 b4), if_neg (show ¬ ((0 ≤ c ∧ c ≤ 11) ∧ (1 ≤ n ∧ n ≤ 99) ∧ A (23 + c) = 1 ∧ n ≤ A 8) from hp), if_pos (by decide)]
  rfl
