/-! CALLS that tell: dough of the reference, towns. -/
theorem c_dough0 {S : St} {N : Nat} {c v : Int} (hd : ¬ dok c v) (b1 : -2147483648 ≤ c) (b2 : c ≤ 2147483647) (b3 : -2147483648 ≤ v) (b4 : v ≤ 2147483647) : f_X9_dough N S (jj c) (jj v) = some (jj 0, S) := by
  unfold f_X9_dough
  rw [bnd_of (q_isCell b1 b2)]
  simp (disch := omega) only [jj_of, jj_add, jj_sub, jj_mul, jj_neg, jj_le, jj_lt, jj_eq, jj_nat, chk_true (jj_inb _ _ _), chk_true (jj_nz _ _ _), lt]
  by_cases q : 0 ≤ c ∧ c ≤ 11
  · rw [if_pos q, if_neg (by decide)]
    by_cases q2 : v < 0
    · rw [if_pos q2]
    · rw [if_neg q2, if_neg (show ¬ v ≤ 999 from fun z => hd ⟨q, by omega, z⟩)]
  · rw [if_neg q, if_pos rfl]
theorem rc_dough1 {S : St} {N : Nat} {A : Int → Int} {M c v : Int} {em et : Sem} (hN : 4000 < N) (hM : NUM A M) (hC : RC S A em et) (hd : dok c v) : ∃ S', f_X10_dough N S (jj c) (jj v) = some (jj 1, S') ∧ RC S' (DGF A c v) em et ∧ FX ROP S S' := by
  obtain ⟨⟨c0, c1⟩, v0, v1⟩ := id hd
  have a4 := hM.2.2.2.2.2.1
  have a4' := hM.2.2.2.2.2.2.1
  unfold f_X10_dough
  simp only [jj_of]
  rw [bnd_of (q_isCellM (by omega) (by omega)), if_pos (show 0 ≤ c ∧ c ≤ 11 from ⟨c0, c1⟩), if_neg (by decide), bnd_of (q_isIn2 (by omega) (by omega) (by decide) (by decide) (by decide) (by decide)), if_pos (show 0 ≤ v ∧ v ≤ 999 from ⟨v0, v1⟩), if_neg (by decide)]
  simp (disch := omega) only [jj_of, jj_add, jj_sub, jj_mul, jj_neg, jj_le, jj_lt, jj_eq, jj_nat, chk_true (jj_inb _ _ _), chk_true (jj_nz _ _ _), lt]
  have A0 : AR 1000 (sI S 1000 0 (11 + c).toNat (jj v)) (dgI A c v 0) := AR_ext (AR_set hC.1 (by omega)) (fun i a b => by
    rw [UP_at]
    unfold dgI
    by_cases w : i = 11 + c
    · rw [if_pos w, if_pos w]
    · rw [if_neg w, if_neg w, if_neg (by omega)])
  have F0 : FX (fun f _ => f = 1000) S (sI S 1000 0 (11 + c).toNat (jj v)) := FX_sI (FX_refl _ _) rfl
  generalize sI S 1000 0 (11 + c).toNat (jj v) = S0 at A0 F0 ⊢
  have := wp_up (F := fun n S1 k => f_X10_dough_b32 N n (jj c) (jj v) (jj k) S1) (P := fun k S1 => 0 ≤ k ∧ FX (fun f _ => f = 1000) S S1 ∧ AR 1000 S1 (dgI A c v k)) (Q := fun r => r.1 = jj 1 ∧ AR 1000 r.2 (DGF A c v) ∧ FX (fun f _ => f = 1000) S r.2) (E := A 4) (by
    intro n S1 ⟨k0, F1, A1⟩
    have g4 : gI S1 1000 0 4 = jj (A 4) := (A1 4 (by decide) (by decide)).trans (by unfold dgI; rw [if_neg (by omega), if_neg (by omega)])
    rw [f_X10_dough_b32]
    rw [g4, if_pos (Int32.le_refl _)]
    exact wp_some ⟨rfl, A1, F1⟩) (by
    intro n S1 k hk ⟨k0, F1, A1⟩ ih
    have g4 : gI S1 1000 0 4 = jj (A 4) := (A1 4 (by decide) (by decide)).trans (by unfold dgI; rw [if_neg (by omega), if_neg (by omega)])
    have hk2 : ¬ A 4 ≤ k := by omega
    rw [f_X10_dough_b32]
    rw [g4]
    simp (disch := omega) only [jj_of, jj_add, jj_sub, jj_mul, jj_neg, jj_le, jj_lt, jj_eq, jj_nat, chk_true (jj_inb _ _ _), chk_true (jj_nz _ _ _), lt, if_true, if_false, reduceIte, hk2]
    refine ih _ ⟨by omega, FX_sI F1 rfl, AR_ext (AR_set A1 (by omega)) (fun i a b => ?_)⟩
    rw [UP_at]
    unfold dgI
    by_cases w : i = 75 + 96 * k + 1 + 11 + c - 6
    · rw [if_pos w, if_neg (by omega), if_pos ⟨by omega, by omega, by omega⟩]
    · rw [if_neg w]
      by_cases w1 : i = 11 + c
      · rw [if_pos w1, if_pos w1]
      · rw [if_neg w1, if_neg w1]
        by_cases w2 : 81 + c ≤ i ∧ i < 81 + c + 96 * k ∧ (i - 81 - c) % 96 = 0
        · rw [if_pos w2, if_pos ⟨w2.1, by omega, w2.2.2⟩]
        · rw [if_neg w2, if_neg (fun z => w2 ⟨z.1, by omega, z.2.2⟩)]) (A 4).toNat N 0 S0 (by omega) (by omega) ⟨by omega, F0, A0⟩
  obtain ⟨⟨v', S'⟩, e, h1, h2, h3⟩ := this
  simp only at h1
  rw [h1] at e
  exact ⟨S', e, RC_step hC h3 (by omega) (by omega) h2 (DGF_far 3 (by omega) (by omega) c0 c1 a4'), FX_sub h3 (fun f _ q => by unfold ROP; omega)⟩
theorem rc_dough0 {S : St} {N : Nat} {c v : Int} (hd : ¬ dok c v) (b1 : -2147483648 ≤ c) (b2 : c ≤ 2147483647) (b3 : -2147483648 ≤ v) (b4 : v ≤ 2147483647) : f_X10_dough N S (jj c) (jj v) = some (jj 0, S) := by
  unfold f_X10_dough
  simp only [jj_of]
  rw [bnd_of (q_isCellM b1 b2), bnd_of (q_isIn2 b3 b4 (by decide) (by decide) (by decide) (by decide))]
  by_cases q : 0 ≤ c ∧ c ≤ 11
  · rw [if_pos q, if_neg (by decide), if_neg (show ¬ (0 ≤ v ∧ v ≤ 999) from fun z => hd ⟨q, z⟩), if_pos rfl]
  · rw [if_neg q, if_pos rfl]
/-- towns -/
def tok (A : Int → Int) (c : Int) : Prop := (0 ≤ c ∧ c ≤ 11) ∧ A 1 < 6
def TNF (A : Int → Int) (c : Int) : Int → Int := UP (UP (UP A (41 + A 1) c) (35 + A 1) c) 1 (A 1 + 1)
theorem TNF_far {A : Int → Int} {c : Int} (i : Int) (h : i ≠ 1) (h1 : i ≠ 35 + A 1) (h2 : i ≠ 41 + A 1) : TNF A c i = A i := by
  unfold TNF
  rw [UP_ne h, UP_ne h1, UP_ne h2]
theorem TNF_t {A : Int → Int} {c : Int} (t : Int) (t0 : 0 ≤ t) (t1 : t < 6) (a0 : 0 ≤ A 1) (a1 : A 1 < 6) : TNF A c (35 + t) = (if t = A 1 then c else A (35 + t)) ∧ TNF A c (41 + t) = (if t = A 1 then c else A (41 + t)) := by
  unfold TNF
  constructor
  · rw [UP_ne (by omega), UP_at]
    by_cases w : t = A 1
    · rw [if_pos (by omega), if_pos w]
    · rw [if_neg (by omega), if_neg w, UP_ne (by omega)]
  · rw [UP_ne (by omega), UP_ne (by omega), UP_at]
    by_cases w : t = A 1
    · rw [if_pos (by omega), if_pos w]
    · rw [if_neg (by omega), if_neg w]
theorem NUM_TNF {A : Int → Int} {M c : Int} (hM : NUM A M) (h : tok A c) : NUM (TNF A c) M := by
  obtain ⟨hO, a2, a2', a3, a3', a4, a4', a5, a5', hT, hS, hR⟩ := id hM
  obtain ⟨o1, o2, o3, o4⟩ := id hO
  obtain ⟨⟨c0, c1⟩, t6⟩ := id h
  have t0 := o2.1
  have h04 := o3.2.1
  have f := @TNF_far A c
  have tt := @TNF_t A c
  have x1 : TNF A c 1 = A 1 + 1 := UP_hit
  have x0 := f 0 (by decide) (by omega) (by omega)
  have x2 := f 2 (by decide) (by omega) (by omega)
  have x3 := f 3 (by decide) (by omega) (by omega)
  have x4 := f 4 (by decide) (by omega) (by omega)
  have x5 := f 5 (by decide) (by omega) (by omega)
  refine ⟨⟨OKR_ext o1 (fun i a b => (f i (by omega) (by omega) (by omega)).symm) (fun i a b => (f _ (by omega) (by omega) (by omega)).symm), ⟨by omega, by omega, fun t a b => ?_⟩, ⟨by rw [x0]; exact o3.1, by rw [x0]; exact o3.2.1, fun k a b => by rw [x0] at b; rw [f _ (by omega) (by omega) (by omega)]; exact o3.2.2 k a b⟩, o4⟩, by rw [x2]; exact a2, by rw [x2]; exact a2', by rw [x3]; exact a3, by rw [x2, x3]; exact a3', by rw [x4]; exact a4, by rw [x4]; exact a4', by rw [x5]; exact a5, by rw [x5]; exact a5', fun t a b => ?_, fun k a b => ?_, fun k a b => ?_⟩
  · rw [x1] at b
    rw [(tt t a (by omega) t0 t6).1]
    by_cases w : t = A 1
    · rw [if_pos w]; omega
    · rw [if_neg w]; exact o2.2.2 t a (by omega)
  · rw [x1] at b
    rw [(tt t a (by omega) t0 t6).2]
    by_cases w : t = A 1
    · rw [if_pos w]; omega
    · rw [if_neg w]; exact hT t a (by omega)
  · rw [x5] at b
    rw [x0, f _ (by omega) (by omega) (by omega), f _ (by omega) (by omega) (by omega), f _ (by omega) (by omega) (by omega)]
    exact hS k a b
  · rw [x4] at b
    obtain ⟨s1, s2, s3, s4⟩ := hR k a b
    rw [x1, f (75 + 96 * k) (by omega) (by omega) (by omega)]
    refine ⟨OKR_ext s1 (fun i c d => (f _ (by omega) (by omega) (by omega)).symm) (fun i c d => (f _ (by omega) (by omega) (by omega)).symm), s2, by omega, fun t c d => ?_⟩
    rw [f _ (by omega) (by omega) (by omega)]
    exact s4 t c d
theorem x_tellTown {S : St} {N : Nat} {a c : Int} (hN : 4000 < N) (a0 : 0 ≤ a) (a1 : a < 6) (h : gI S 806 0 0 = jj a) : ∃ S', f_X8_tellTown N 0 S (jj c) = some S' ∧ FX (fun f j => f = 401 ∧ j ≤ 30 ∨ f = 806 ∧ j = 0) S S' ∧ gI S' 806 0 0 = jj (a + 1) ∧ ∀ j, j ≤ 30 → ∀ i, gI S' 401 j i = if i = a.toNat then jj c else gI S 401 j i := by
  unfold f_X8_tellTown
  rw [h]
  simp (disch := omega) only [jj_of, jj_add, jj_sub, jj_mul, jj_neg, jj_le, jj_lt, jj_eq, jj_nat, chk_true (jj_inb _ _ _), chk_true (jj_nz _ _ _), lt]
  rw [if_pos a1]
  exact wp_up (F := fun n S1 k => f_X8_tellTown_b25 N 0 n (jj c) (jj k) S1) (P := fun k S1 => 0 ≤ k ∧ FX (fun f j => f = 401 ∧ j ≤ 30) S S1 ∧ ∀ j, j ≤ 30 → ∀ i, gI S1 401 j i = if (j : Int) ≤ k ∧ i = a.toNat then jj c else gI S 401 j i) (Q := fun S' => FX (fun f j => f = 401 ∧ j ≤ 30 ∨ f = 806 ∧ j = 0) S S' ∧ gI S' 806 0 0 = jj (a + 1) ∧ ∀ j, j ≤ 30 → ∀ i, gI S' 401 j i = if i = a.toNat then jj c else gI S 401 j i) (E := 30) (by
    intro n S1 ⟨k0, F1, h2⟩
    have g : gI S1 806 0 0 = jj a := (F1.1 806 0 0 (by omega)).trans h
    simp only [f_X8_tellTown_b25]
    rw [g]
    simp (disch := omega) only [jj_of, jj_add, jj_sub, jj_mul, jj_neg, jj_le, jj_lt, jj_eq, jj_nat, chk_true (jj_inb _ _ _), chk_true (jj_nz _ _ _), lt, if_true, if_false, reduceIte, Int.le_refl]
    refine wp_some ⟨FX_sI (FX_sub F1 (fun f j q => by omega)) (by omega), by rw [gI_sI, if_pos ⟨rfl, rfl, rfl⟩], fun j hj i => ?_⟩
    rw [gI_sI, if_neg (by omega), h2 j hj i]
    have : (j : Int) ≤ 30 := by omega
    simp only [this, true_and]) (by
    intro n S1 k hk ⟨k0, F1, h2⟩ ih
    have hk2 : ¬ 30 ≤ k := by omega
    have g : gI S1 806 0 0 = jj a := (F1.1 806 0 0 (by omega)).trans h
    simp only [f_X8_tellTown_b25]
    rw [g]
    simp (disch := omega) only [jj_of, jj_add, jj_sub, jj_mul, jj_neg, jj_le, jj_lt, jj_eq, jj_nat, chk_true (jj_inb _ _ _), chk_true (jj_nz _ _ _), lt, if_true, if_false, reduceIte, hk2]
    refine ih _ ⟨by omega, FX_sI F1 (by omega), fun j hj i => ?_⟩
    rw [gI_sI]
    by_cases w : j = 31 * 0 + 1 + k.toNat ∧ i = a.toNat
    · rw [if_pos ⟨rfl, w⟩, if_pos ⟨by omega, w.2⟩]
    · rw [if_neg (fun z => w z.2), h2 j hj i]
      by_cases w2 : (j : Int) ≤ k ∧ i = a.toNat
      · rw [if_pos w2, if_pos ⟨by omega, w2.2⟩]
      · rw [if_neg w2, if_neg (fun z => w ⟨by omega, z.2⟩)]) 30 N 0 _ (by decide) (by omega) ⟨by decide, FX_sI (FX_refl _ _) (by omega), fun j hj i => by
      rw [gI_sI]
      by_cases w : j = 31 * 0 ∧ i = a.toNat
      · rw [if_pos ⟨rfl, w⟩, if_pos ⟨by omega, w.2⟩]
      · rw [if_neg (fun z => w z.2), if_neg (fun z => w ⟨by omega, z.2⟩)]⟩
theorem HOM_town {S S1 : St} {j : Nat} {hm : Int → Int} {a c : Int} (h : HOM S j hm) (a0 : 0 ≤ a) (e : ∀ i, gI S1 401 j i = if i = a.toNat then jj c else gI S 401 j i) : HOM S1 j (UP hm a c) := fun t p q => by
  rw [e, UP_at]
  by_cases w : t = a
  · rw [if_pos (by rw [w]), if_pos w]
  · rw [if_neg (by omega), if_neg w]; exact h t p q
theorem c_town1 {S : St} {N : Nat} {A : Int → Int} {M W c : Int} {em et : Sem} (hN : 4000 < N) (hC : XC S A M W em et) (h : tok A c) : ∃ S', f_X9_town N S (jj c) = some (jj (A 1), S') ∧ XC S' (TNF A c) M W em et ∧ FX XOP S S' := by
  obtain ⟨⟨c0, c1⟩, t6⟩ := id h
  obtain ⟨⟨hH, hX, hP⟩, hM, hW, hL⟩ := id hC
  obtain ⟨p1, p2, p3, p4, p5, p6, p7⟩ := id hH
  have a0 := hM.1.2.2.1.2.1
  have t0 := hM.1.2.1.1
  have a4' := hM.2.2.2.2.2.2.1
  have a5' := hM.2.2.2.2.2.2.2.2.1
  have f := @TNF_far A c
  have tt := @TNF_t A c
  have x1 : TNF A c 1 = A 1 + 1 := UP_hit
  obtain ⟨S1, e1, F1, g1, h1⟩ := x_tellTown (S := S) (c := c) hN t0 t6 p2
  refine ⟨S1, ?_, ⟨⟨⟨?_, ?_, ?_, ?_, ?_, fun k a b => ?_, fun k a b => ?_⟩, ?_, ?_⟩, NUM_TNF hM h, WRT_FX F1 (fun j => by omega) hW, FX_CLW F1 (by omega) (by omega) (by omega) hL⟩, FX_sub F1 (fun f j q => by unfold XOP; omega)⟩
  · unfold f_X9_town
    rw [bnd_of (q_isCell (by omega) (by omega)), if_pos (show 0 ≤ c ∧ c ≤ 11 from ⟨c0, c1⟩), if_neg (by decide), p2]
    simp (disch := omega) only [jj_of, jj_add, jj_sub, jj_mul, jj_neg, jj_le, jj_lt, jj_eq, jj_nat, chk_true (jj_inb _ _ _), chk_true (jj_nz _ _ _), lt]
    rw [if_pos t6, bnd_of e1, g1, jj_sub, show A 1 + 1 - 1 = A 1 by omega]
  · rw [F1.1 805 0 0 (by omega), f 0 (by omega) (by omega) (by omega)]; exact p1
  · rw [g1, x1]
  · rw [F1.1 808 0 0 (by omega), f 2 (by omega) (by omega) (by omega)]; exact p3
  · rw [F1.1 809 0 0 (by omega), f 3 (by omega) (by omega) (by omega)]; exact p4
  · rw [F1.1 811 0 0 (by omega), f 5 (by omega) (by omega) (by omega)]; exact p5
  · rw [f 0 (by omega) (by omega) (by omega)] at b
    rw [F1.1 804 0 _ (by omega), f _ (by omega) (by omega) (by omega)]
    exact p6 k a b
  · rw [f 5 (by omega) (by omega) (by omega)] at b
    rw [F1.1 810 0 _ (by omega), f _ (by omega) (by omega) (by omega)]
    exact p7 k a b
  · obtain ⟨X1, X2, X3, X4, X5⟩ := hX
    have L1 : LAY S1 (31 * 0) A := by
      obtain ⟨b1, b2, b3, b4⟩ := X1
      exact ⟨fun i p q => (F1.1 400 _ _ (by omega)).trans (b1 i p q), by rw [F1.1 404 _ 0 (by omega)]; exact b2, (F1.1 405 _ 0 (by omega)).trans b3, (F1.1 407 _ 0 (by omega)).trans b4⟩
    refine ⟨LAY_ext L1 (fun i a b => (f _ (by omega) (by omega) (by omega)).symm), by rw [F1.1 406 _ 0 (by omega), f 8 (by omega) (by omega) (by omega)]; exact X2, by rw [F1.1 408 _ 0 (by omega), f 7 (by omega) (by omega) (by omega)]; exact X3, HOM_ext (HOM_town X4 t0 (h1 0 (by decide))) (fun t a b => ?_), fun w => ?_⟩
    · unfold hmA
      rw [x1, (tt t a b t0 t6).1, UP_at]
      by_cases w : t = A 1
      · rw [if_pos w, if_pos (by omega), if_pos w]
      · rw [if_neg w]
        by_cases w2 : t < A 1
        · rw [if_pos w2, if_pos (by omega), if_neg w]
        · rw [if_neg w2, if_neg (by omega)]
    · rw [f 10 (by omega) (by omega) (by omega)]
      exact BKS_ext (FX_BKS F1 (by omega) (by omega) (X5 w)) (fun i a b => (f _ (by omega) (by omega) (by omega)).symm)
  · obtain ⟨h4, ns, n0, n1, h2, h3⟩ := hP
    have x4 := f 4 (by omega) (by omega) (by omega)
    refine ⟨by rw [x4, F1.1 803 0 0 (by omega)]; exact h4, ns, n0, n1, (F1.1 802 0 0 (by omega)).trans h2, fun k a b => ?_⟩
    rw [x4] at b ⊢
    obtain ⟨Y1, Y2, Y3, Y4, Y5⟩ := h3 k a b
    obtain ⟨s1, s2, s3, s4⟩ := hM.2.2.2.2.2.2.2.2.2.2.2 k a b
    have hj : 31 * 0 + 1 + ((ns + 30 - A 4 + k) % 30).toNat ≤ 30 := by omega
    generalize 31 * 0 + 1 + ((ns + 30 - A 4 + k) % 30).toNat = j at *
    have L1 : LAY S1 j (rrow A k) := by
      obtain ⟨b1, b2, b3, b4⟩ := Y1
      exact ⟨fun i p q => (F1.1 400 _ _ (by omega)).trans (b1 i p q), by rw [F1.1 404 _ 0 (by omega)]; exact b2, (F1.1 405 _ 0 (by omega)).trans b3, (F1.1 407 _ 0 (by omega)).trans b4⟩
    have rr : ∀ i, 6 ≤ i → i < 35 → rrow A k i = rrow (TNF A c) k i := fun i p q => by unfold rrow; rw [f _ (by omega) (by omega) (by omega)]
    refine ⟨LAY_ext L1 rr, by rw [F1.1 406 _ 0 (by omega), ← rr 8 (by omega) (by omega)]; exact Y2, by rw [F1.1 408 _ 0 (by omega), ← rr 7 (by omega) (by omega)]; exact Y3, HOM_ext (HOM_town Y4 t0 (h1 j hj)) (fun t p q => ?_), ?_⟩
    · unfold rhm
      rw [x1, f (75 + 96 * k) (by omega) (by omega) (by omega), f (105 + 96 * k + t) (by omega) (by omega) (by omega), (tt t p q t0 t6).2, UP_at]
      by_cases w : t = A 1
      · rw [if_pos w, if_neg (by omega), if_pos (by omega), if_pos w]
      · rw [if_neg w]
        by_cases w3 : t < A (75 + 96 * k)
        · rw [if_pos w3, if_pos w3]
        · rw [if_neg w3, if_neg w3]
          by_cases w2 : t < A 1
          · rw [if_pos w2, if_pos (by omega), if_neg w]
          · rw [if_neg w2, if_neg (by omega)]
    · rw [← rr 10 (by omega) (by omega)]
      exact BKS_ext (FX_BKS F1 (by omega) (by omega) Y5) (fun i p q => by unfold rbk; rw [f _ (by omega) (by omega) (by omega)])
theorem c_town0 {S : St} {N : Nat} {A : Int → Int} {M W c : Int} {em et : Sem} (hC : XC S A M W em et) (h : ¬ tok A c) (b1 : -2147483648 ≤ c) (b2 : c ≤ 2147483647) : f_X9_town N S (jj c) = some (jj (-1), S) := by
  have t0 := hC.2.1.1.2.1.1
  have t6 := hC.2.1.1.2.1.2.1
  unfold f_X9_town
  rw [bnd_of (q_isCell b1 b2), hC.1.1.2.1]
  simp (disch := omega) only [jj_of, jj_add, jj_sub, jj_mul, jj_neg, jj_le, jj_lt, jj_eq, jj_nat, chk_true (jj_inb _ _ _), chk_true (jj_nz _ _ _), lt]
  by_cases q : 0 ≤ c ∧ c ≤ 11
  · rw [if_pos q, if_neg (by decide), if_neg (show ¬ A 1 < 6 from fun z => h ⟨q, z⟩)]
  · rw [if_neg q, if_pos rfl]
theorem rc_town1 {S : St} {A : Int → Int} {M c : Int} {em et : Sem} (hM : NUM A M) (hC : RC S A em et) (h : tok A c) : ∃ S', f_X10_town S (jj c) = some (jj (A 1), S') ∧ RC S' (TNF A c) em et ∧ FX ROP S S' := by
  obtain ⟨⟨c0, c1⟩, t6⟩ := id h
  have t0 := hM.1.2.1.1
  have e1 : gI S 1000 0 1 = jj (A 1) := hC.1 1 (by decide) (by decide)
  unfold f_X10_town
  simp only [jj_of]
  rw [bnd_of (q_isCellM (by omega) (by omega)), if_pos (show 0 ≤ c ∧ c ≤ 11 from ⟨c0, c1⟩), if_neg (by decide), e1]
  simp (disch := omega) only [jj_of, jj_add, jj_sub, jj_mul, jj_neg, jj_le, jj_lt, jj_eq, jj_nat, chk_true (jj_inb _ _ _), chk_true (jj_nz _ _ _), lt]
  rw [if_neg (show ¬ A 1 = 6 by omega)]
  have A1 := AR_set hC.1 (k := 41 + A 1) (v := c) (by omega)
  have g1 : gI (sI S 1000 0 (41 + A 1).toNat (jj c)) 1000 0 1 = jj (A 1) := (A1 1 (by decide) (by decide)).trans (by rw [UP_ne (by omega)])
  rw [g1]
  simp (disch := omega) only [jj_of, jj_add, jj_sub, jj_mul, jj_neg, jj_le, jj_lt, jj_eq, jj_nat, chk_true (jj_inb _ _ _), chk_true (jj_nz _ _ _), lt]
  have A2 := AR_set A1 (k := 35 + A 1) (v := c) (by omega)
  have g2 : gI (sI (sI S 1000 0 (41 + A 1).toNat (jj c)) 1000 0 (35 + A 1).toNat (jj c)) 1000 0 1 = jj (A 1) := (A2 1 (by decide) (by decide)).trans (by rw [UP_ne (by omega), UP_ne (by omega)])
  rw [g2, jj_add]
  have FF : FX (fun f _ => f = 1000) S (sI (sI (sI S 1000 0 (41 + A 1).toNat (jj c)) 1000 0 (35 + A 1).toNat (jj c)) 1000 0 1 (jj (A 1 + 1))) := FX_sI (FX_sI (FX_sI (FX_refl _ _) rfl) rfl) rfl
  refine ⟨_, by rw [gI_sI, if_pos ⟨rfl, rfl, rfl⟩, jj_sub, show A 1 + 1 - 1 = A 1 by omega], RC_step hC FF (by omega) (by omega) (AR_set A2 (k := 1) (by decide)) (TNF_far 3 (by omega) (by omega) (by omega)), FX_sub FF (fun f _ q => by unfold ROP; omega)⟩
theorem rc_town0 {S : St} {A : Int → Int} {M c : Int} {em et : Sem} (hM : NUM A M) (hC : RC S A em et) (h : ¬ tok A c) (b1 : -2147483648 ≤ c) (b2 : c ≤ 2147483647) : f_X10_town S (jj c) = some (jj (-1), S) := by
  have t0 := hM.1.2.1.1
  have t6 := hM.1.2.1.2.1
  have e1 : gI S 1000 0 1 = jj (A 1) := hC.1 1 (by decide) (by decide)
  unfold f_X10_town
  simp only [jj_of]
  rw [bnd_of (q_isCellM b1 b2), e1]
  by_cases q : 0 ≤ c ∧ c ≤ 11
  · rw [if_pos q, if_neg (by decide)]
    simp (disch := omega) only [jj_of, jj_add, jj_sub, jj_mul, jj_neg, jj_le, jj_lt, jj_eq, jj_nat, chk_true (jj_inb _ _ _), chk_true (jj_nz _ _ _), lt]
    rw [if_pos (show A 1 = 6 by have : ¬ A 1 < 6 := fun z => h ⟨q, z⟩; omega)]
  · rw [if_neg q, if_pos rfl]
    rfl
