/-! CALLS that tell: hands, dough, towns. -/
def hok (A : Int → Int) (x : Int) : Prop := (1 ≤ x ∧ x ≤ 9) ∧ A 0 < 4
def HNF (A : Int → Int) (x : Int) : Int → Int := UP (UP A (47 + A 0) x) 0 (A 0 + 1)
theorem NUM_HNF {A : Int → Int} {M x : Int} (hM : NUM A M) (h : hok A x) : NUM (HNF A x) M := by
  obtain ⟨hO, a2, a2', a3, a3', a4, a4', a5, a5', hT, hS, hR⟩ := id hM
  obtain ⟨o1, o2, o3, o4⟩ := id hO
  have f : ∀ i, i ≠ 0 → i ≠ 47 + A 0 → HNF A x i = A i := fun i p q => by unfold HNF; rw [UP_ne p, UP_ne q]
  have x0 : HNF A x 0 = A 0 + 1 := UP_hit
  have h00 := o3.1
  have hh2 := h.2
  have x1 := f 1 (by decide) (by omega)
  have x2 := f 2 (by decide) (by omega)
  have x3 := f 3 (by decide) (by omega)
  have x4 := f 4 (by decide) (by omega)
  have x5 := f 5 (by decide) (by omega)
  refine ⟨⟨OKR_ext o1 (fun i a b => (f i (by omega) (by omega)).symm) (fun i a b => (f _ (by omega) (by omega)).symm), ⟨by rw [x1]; exact o2.1, by rw [x1]; exact o2.2.1, fun t a b => by rw [x1] at b; rw [f _ (by omega) (by have := o2.2.1; have := h.2; omega)]; exact o2.2.2 t a b⟩, ⟨by omega, by have := h.2; omega, fun k a b => ?_⟩, o4⟩, by rw [x2]; exact a2, by rw [x2]; exact a2', by rw [x3]; exact a3, by rw [x2, x3]; exact a3', by rw [x4]; exact a4, by rw [x4]; exact a4', by rw [x5]; exact a5, by rw [x5]; exact a5', fun t a b => ?_, fun k a b => ?_, fun k a b => ?_⟩
  · rw [x0] at b
    unfold HNF
    rw [UP_ne (by omega), UP_at]
    by_cases q : 47 + k = 47 + A 0
    · rw [if_pos q]; exact h.1
    · rw [if_neg q]; exact o3.2.2 k a (by omega)
  · rw [x1] at b
    have := o2.2.1
    rw [f _ (by omega) (by omega)]
    exact hT t a b
  · rw [x5] at b
    have := h.2
    rw [x0, f _ (by omega) (by omega), f _ (by omega) (by omega), f _ (by omega) (by omega)]
    have := hS k a b
    omega
  · rw [x4] at b
    have h2 := h.2
    obtain ⟨s1, s2, s3, s4⟩ := hR k a b
    rw [x1, f (75 + 96 * k) (by omega) (by omega)]
    refine ⟨OKR_ext s1 (fun i c d => (f _ (by omega) (by omega)).symm) (fun i c d => (f _ (by omega) (by omega)).symm), s2, s3, fun t c d => ?_⟩
    rw [f _ (by omega) (by omega)]
    exact s4 t c d
theorem c_hand1 {S : St} {A : Int → Int} {M W x : Int} {em et : Sem} (hC : XC S A M W em et) (h : hok A x) : ∃ S', f_X9_hand S (jj x) = some (jj (A 0), S') ∧ XC S' (HNF A x) M W em et ∧ FX XOP S S' := by
  obtain ⟨⟨hH, hX, hP⟩, hM, hW, hL⟩ := id hC
  obtain ⟨p1, p2, p3, p4, p5, p6, p7⟩ := id hH
  have a0 := hM.1.2.2.1.1
  have a1 := hM.1.2.1.2.1
  have a5' := hM.2.2.2.2.2.2.2.2.1
  obtain ⟨⟨q1, q2⟩, q3⟩ := id h
  have f : ∀ i, i ≠ 0 → i ≠ 47 + A 0 → HNF A x i = A i := fun i p q => by unfold HNF; rw [UP_ne p, UP_ne q]
  unfold f_X9_hand
  rw [p1]
  simp (disch := omega) only [jj_of, jj_add, jj_sub, jj_mul, jj_neg, jj_le, jj_lt, jj_eq, jj_nat, chk_true (jj_inb _ _ _), chk_true (jj_nz _ _ _), lt]
  rw [if_neg (by omega), if_neg (by omega), if_pos q3]
  have g0 : gI (sI S 804 0 (A 0).toNat (jj x)) 805 0 0 = jj (A 0) := by rw [gI_sI, if_neg (by omega)]; exact p1
  rw [g0, jj_add]
  have FF : FX (fun f j => (f = 804 ∨ f = 805) ∧ j = 0) S (sI (sI S 804 0 (A 0).toNat (jj x)) 805 0 0 (jj (A 0 + 1))) := FX_sI (FX_sI (FX_refl _ _) (by omega)) (by omega)
  refine ⟨_, by rw [gI_sI, if_pos ⟨rfl, rfl, rfl⟩, jj_sub, show A 0 + 1 - 1 = A 0 by omega], ⟨⟨⟨?_, ?_, ?_, ?_, ?_, fun k a b => ?_, fun k a b => ?_⟩, SHX_ext (SHX_FX FF (fun f a b => by omega) hX) (f 1 (by omega) (by omega)).symm (fun i a b => (f i (by omega) (by omega)).symm) (fun i a b => (f i (by omega) (by omega)).symm), ?_⟩, NUM_HNF hM h, WRT_FX FF (fun j => by omega) hW, FX_CLW FF (by omega) (by omega) (by omega) hL⟩, FX_sub FF (fun f j q => by unfold XOP; omega)⟩
  · rw [gI_sI, if_pos ⟨rfl, rfl, rfl⟩]; rfl
  · rw [FF.1 806 0 0 (by omega), f 1 (by omega) (by omega)]; exact p2
  · rw [FF.1 808 0 0 (by omega), f 2 (by omega) (by omega)]; exact p3
  · rw [FF.1 809 0 0 (by omega), f 3 (by omega) (by omega)]; exact p4
  · rw [FF.1 811 0 0 (by omega), f 5 (by omega) (by omega)]; exact p5
  · have x0 : HNF A x 0 = A 0 + 1 := UP_hit
    rw [x0] at b
    by_cases q : k = A 0
    · have e : HNF A x (47 + k) = x := by unfold HNF; rw [UP_ne (by omega), q, UP_hit]
      rw [e, gI_sI, if_neg (by omega), gI_sI, if_pos ⟨rfl, rfl, by rw [q]⟩]
    · rw [f _ (by omega) (by omega), gI_sI, if_neg (by omega), gI_sI, if_neg (fun z => q (by have := z.2.2; omega))]
      exact p6 k a (by omega)
  · rw [f 5 (by omega) (by omega)] at b
    rw [f _ (by omega) (by omega), FF.1 810 0 _ (by omega)]
    exact p7 k a b
  · obtain ⟨h4, ns, n0, n1, h2, h3⟩ := STPS_FX FF (fun f a b => by omega) (fun f j a b c d => by omega) hP
    have x4 := f 4 (by omega) (by omega)
    refine ⟨by rw [x4]; exact h4, ns, n0, n1, h2, fun k a b => ?_⟩
    rw [x4] at b ⊢
    refine SHT_ext (h3 k a b) (fun i c d => (f _ (by omega) (by omega)).symm) (fun t c d => ?_) (fun i c d => (f _ (by omega) (by omega)).symm)
    unfold rhm
    rw [f 1 (by omega) (by omega), f (75 + 96 * k) (by omega) (by omega), f (105 + 96 * k + t) (by omega) (by omega), f (41 + t) (by omega) (by omega)]
theorem c_hand0 {S : St} {A : Int → Int} {M W x : Int} {em et : Sem} (hC : XC S A M W em et) (h : ¬ hok A x) (b1 : -2147483648 ≤ x) (b2 : x ≤ 2147483647) : f_X9_hand S (jj x) = some (jj (-1), S) := by
  have a0 := hC.2.1.1.2.2.1.1
  have a4 := hC.2.1.1.2.2.1.2.1
  unfold f_X9_hand
  rw [hC.1.1.1]
  simp (disch := omega) only [jj_of, jj_add, jj_sub, jj_mul, jj_neg, jj_le, jj_lt, jj_eq, jj_nat, chk_true (jj_inb _ _ _), chk_true (jj_nz _ _ _), lt]
  by_cases q1 : x < 1
  · rw [if_pos q1]
  · rw [if_neg q1]
    by_cases q2 : 9 < x
    · rw [if_pos q2]
    · rw [if_neg q2, if_neg (show ¬ A 0 < 4 from fun z => h ⟨⟨by omega, by omega⟩, z⟩)]
theorem rc_hand1 {S : St} {A : Int → Int} {M x : Int} {em et : Sem} (hM : NUM A M) (hC : RC S A em et) (h : hok A x) : ∃ S', f_X10_hand S (jj x) = some (jj (A 0), S') ∧ RC S' (HNF A x) em et ∧ FX ROP S S' := by
  have a0 := hM.1.2.2.1.1
  obtain ⟨⟨q1, q2⟩, q3⟩ := id h
  have e0 : gI S 1000 0 0 = jj (A 0) := hC.1 0 (by decide) (by decide)
  unfold f_X10_hand
  simp only [jj_of]
  rw [bnd_of (q_isIn2 (by omega) (by omega) (by decide) (by decide) (by decide) (by decide)), if_pos (show 1 ≤ x ∧ x ≤ 9 from ⟨q1, q2⟩), if_neg (by decide), e0]
  simp (disch := omega) only [jj_of, jj_add, jj_sub, jj_mul, jj_neg, jj_le, jj_lt, jj_eq, jj_nat, chk_true (jj_inb _ _ _), chk_true (jj_nz _ _ _), lt]
  rw [if_neg (show ¬ A 0 = 4 by omega)]
  have A1 := AR_set hC.1 (k := 47 + A 0) (v := x) (by omega)
  have g0 : gI (sI S 1000 0 (47 + A 0).toNat (jj x)) 1000 0 0 = jj (A 0) := (A1 0 (by decide) (by decide)).trans (by rw [UP_ne (by omega)])
  rw [g0, jj_add]
  have FF : FX (fun f _ => f = 1000) S (sI (sI S 1000 0 (47 + A 0).toNat (jj x)) 1000 0 0 (jj (A 0 + 1))) := FX_sI (FX_sI (FX_refl _ _) rfl) rfl
  refine ⟨_, by rw [gI_sI, if_pos ⟨rfl, rfl, rfl⟩, jj_sub, show A 0 + 1 - 1 = A 0 by omega], RC_step hC FF (by omega) (by omega) (AR_set A1 (k := 0) (by decide)) (by unfold HNF; rw [UP_ne (by decide), UP_ne (by omega)]), FX_sub FF (fun f _ q => by unfold ROP; omega)⟩
theorem rc_hand0 {S : St} {A : Int → Int} {M x : Int} {em et : Sem} (hM : NUM A M) (hC : RC S A em et) (h : ¬ hok A x) (b1 : -2147483648 ≤ x) (b2 : x ≤ 2147483647) : f_X10_hand S (jj x) = some (jj (-1), S) := by
  have a0 := hM.1.2.2.1.1
  have a4 := hM.1.2.2.1.2.1
  have e0 : gI S 1000 0 0 = jj (A 0) := hC.1 0 (by decide) (by decide)
  unfold f_X10_hand
  simp only [jj_of]
  rw [bnd_of (q_isIn2 b1 b2 (by decide) (by decide) (by decide) (by decide)), e0]
  by_cases q1 : 1 ≤ x ∧ x ≤ 9
  · rw [if_pos q1, if_neg (by decide)]
    simp (disch := omega) only [jj_of, jj_add, jj_sub, jj_mul, jj_neg, jj_le, jj_lt, jj_eq, jj_nat, chk_true (jj_inb _ _ _), chk_true (jj_nz _ _ _), lt]
    rw [if_pos (show A 0 = 4 by have : ¬ A 0 < 4 := fun z => h ⟨q1, z⟩; omega)]
  · rw [if_neg q1, if_pos rfl]
    rfl
/-- dough -/
def dok (c v : Int) : Prop := (0 ≤ c ∧ c ≤ 11) ∧ 0 ≤ v ∧ v ≤ 999
def dgI (A : Int → Int) (c v k : Int) : Int → Int := fun i => if i = 11 + c then v else if 81 + c ≤ i ∧ i < 81 + c + 96 * k ∧ (i - 81 - c) % 96 = 0 then v else A i
def DGF (A : Int → Int) (c v : Int) : Int → Int := dgI A c v (A 4)
theorem DGF_far {A : Int → Int} {c v : Int} (i : Int) (h : i ≠ 11 + c) (h2 : i < 75 ∨ 2955 ≤ i) (c0 : 0 ≤ c) (c1 : c ≤ 11) (a4 : A 4 ≤ 30) : DGF A c v i = A i := by
  unfold DGF dgI
  rw [if_neg h, if_neg (by omega)]
theorem DGF_rec {A : Int → Int} {c v k : Int} (c0 : 0 ≤ c) (c1 : c ≤ 11) (k0 : 0 ≤ k) (k1 : k < A 4) (i : Int) (h : 75 + 96 * k ≤ i) (h2 : i < 171 + 96 * k) : DGF A c v i = if i = 81 + 96 * k + c then v else A i := by
  unfold DGF dgI
  rw [if_neg (by omega)]
  by_cases q : i = 81 + 96 * k + c
  · rw [if_pos q, if_pos ⟨by omega, by omega, by omega⟩]
  · rw [if_neg q, if_neg (fun z => q (by omega))]
theorem OKR_cell {r b : Int → Int} {M c v : Int} (h : OKR r b M) (c0 : 0 ≤ c) (c1 : c ≤ 11) (v0 : 0 ≤ v) (v1 : v ≤ 999) : OKR (UP r (11 + c) v) b (M + 999) := by
  obtain ⟨o1, o2, o3, o4, o5, o6, o7, o8, o9, o10, o11, o12⟩ := h
  have e11 : pre (fun i => UP r (11 + c) v (11 + i)) 12 = pre (UP (fun i => r (11 + i)) c v) 12 := pre_ext 12 (fun i a b => by
    rw [UP_at, UP_at]
    by_cases w : i = c
    · rw [if_pos w, if_pos (by omega)]
    · rw [if_neg w, if_neg (by omega)])
  have x : ∀ i, i < 11 → UP r (11 + c) v i = r i := fun i h => UP_ne (by omega)
  refine ⟨fun i a b => ?_, fun i a b => by rw [UP_ne (by omega)]; exact o2 i a b, by rw [x 9 (by decide)]; exact o3, by rw [x 8 (by decide)]; exact o4, ?_, by rw [x 6 (by decide)]; exact o6, by rw [x 6 (by decide)]; exact o7, by rw [x 7 (by decide)]; exact o8, by rw [x 7 (by decide)]; exact o9, by rw [x 10 (by decide)]; exact o10, by rw [x 10 (by decide)]; exact o11, by rw [x 10 (by decide)]; exact o12⟩
  · rw [UP_at]
    split
    · exact v0
    · exact o1 i a b
  · have := o1 c c0 (by omega)
    rw [e11, pre_UP c0, if_pos (by omega), x 9 (by decide), x 8 (by decide)]
    omega
theorem NUM_DGF {A : Int → Int} {M c v : Int} (hM : NUM A M) (hd : dok c v) (hb : M + 999 ≤ 100000000) : NUM (DGF A c v) (M + 999) := by
  obtain ⟨⟨c0, c1⟩, v0, v1⟩ := hd
  obtain ⟨hO, a2, a2', a3, a3', a4, a4', a5, a5', hT, hS, hR⟩ := id hM
  obtain ⟨o1, o2, o3, o4⟩ := id hO
  have f := fun i p q => @DGF_far A c v i p q c0 c1 a4'
  have x0 := f 0 (by omega) (by omega)
  have x1 := f 1 (by omega) (by omega)
  have x2 := f 2 (by omega) (by omega)
  have x3 := f 3 (by omega) (by omega)
  have x4 := f 4 (by omega) (by omega)
  have x5 := f 5 (by omega) (by omega)
  have t6 := o2.2.1
  have h4 := o3.2.1
  refine ⟨⟨OKR_ext (OKR_cell o1 c0 c1 v0 v1) (fun i a b => ?_) (fun i a b => (f _ (by omega) (by omega)).symm), ⟨by rw [x1]; exact o2.1, by rw [x1]; exact o2.2.1, fun t a b => by rw [x1] at b; rw [f _ (by omega) (by omega)]; exact o2.2.2 t a b⟩, ⟨by rw [x0]; exact o3.1, by rw [x0]; exact o3.2.1, fun k a b => by rw [x0] at b; rw [f _ (by omega) (by omega)]; exact o3.2.2 k a b⟩, hb⟩, by rw [x2]; exact a2, by rw [x2]; exact a2', by rw [x3]; exact a3, by rw [x2, x3]; exact a3', by rw [x4]; exact a4, by rw [x4]; exact a4', by rw [x5]; exact a5, by rw [x5]; exact a5', fun t a b => ?_, fun k a b => ?_, fun k a b => ?_⟩
  · rw [UP_at]
    by_cases w : i = 11 + c
    · rw [if_pos w]; unfold DGF dgI; rw [if_pos w]
    · rw [if_neg w, f _ w (by omega)]
  · rw [x1] at b
    rw [f _ (by omega) (by omega)]
    exact hT t a b
  · rw [x5] at b
    rw [x0, f _ (by omega) (by omega), f _ (by omega) (by omega), f _ (by omega) (by omega)]
    exact hS k a b
  · rw [x4] at b
    have r := @DGF_rec A c v k c0 c1 a b
    obtain ⟨s1, s2, s3, s4⟩ := hR k a b
    rw [x1, r (75 + 96 * k) (by omega) (by omega), if_neg (by omega)]
    refine ⟨OKR_ext (OKR_cell s1 c0 c1 v0 v1) (fun i p q => ?_) (fun i p q => ?_), s2, s3, fun t p q => ?_⟩
    · unfold rrow
      rw [r _ (by omega) (by omega), UP_at]
      by_cases w : i = 11 + c
      · rw [if_pos w, if_pos (by omega)]
      · rw [if_neg w, if_neg (by omega)]
    · unfold rbk
      rw [r _ (by omega) (by omega), if_neg (by omega)]
    · rw [r _ (by omega) (by omega), if_neg (by omega)]
      exact s4 t p q
theorem LAY_cell {S S1 : St} {j : Nat} {r : Int → Int} {c v : Int} (c0 : 0 ≤ c) (c1 : c ≤ 11) (h : LAY S j r) (e : ∀ i, gI S1 400 j i = if i = c.toNat then jj v else gI S 400 j i) (e2 : ∀ f, 401 ≤ f → f ≤ 408 → gI S1 f j 0 = gI S f j 0) : LAY S1 j (UP r (11 + c) v) := by
  obtain ⟨a1, a2, a3, a4⟩ := h
  refine ⟨fun i p q => ?_, ?_, by rw [e2 405 (by decide) (by decide), UP_ne (by omega)]; exact a3, by rw [e2 407 (by decide) (by decide), UP_ne (by omega)]; exact a4⟩
  · rw [e, UP_at]
    by_cases w : i = c
    · rw [if_pos (by rw [w]), if_pos (by omega)]
    · rw [if_neg (by omega), if_neg (by omega)]; exact a1 i p q
  · rw [e2 404 (by decide) (by decide)]
    exact tb_ext a2 (fun i p q => (UP_ne (by omega)).symm)
theorem x_tellDough {S : St} {N : Nat} {c v : Int} (hN : 4000 < N) (c0 : 0 ≤ c) (c1 : c ≤ 11) : ∃ S', f_X8_tellDough N 0 S (jj c) (jj v) = some S' ∧ FX (fun f j => f = 400 ∧ j ≤ 30) S S' ∧ ∀ j, j ≤ 30 → ∀ i, gI S' 400 j i = if i = c.toNat then jj v else gI S 400 j i := by
  unfold f_X8_tellDough
  rw [chk_true (jj_inb c0 (by omega) (by omega)), jj_nat (by omega) (by omega)]
  simp only [lt, jj_of]
  exact wp_up (F := fun n S1 k => f_X8_tellDough_b12 N 0 n (jj c) (jj v) (jj k) S1) (P := fun k S1 => 0 ≤ k ∧ FX (fun f j => f = 400 ∧ j ≤ 30) S S1 ∧ ∀ j, j ≤ 30 → ∀ i, gI S1 400 j i = if (j : Int) ≤ k ∧ i = c.toNat then jj v else gI S 400 j i) (Q := fun S' => FX (fun f j => f = 400 ∧ j ≤ 30) S S' ∧ ∀ j, j ≤ 30 → ∀ i, gI S' 400 j i = if i = c.toNat then jj v else gI S 400 j i) (E := 30) (by
    intro n S1 ⟨k0, F1, h⟩
    simp only [f_X8_tellDough_b12]
    simp (disch := omega) only [jj_of, jj_add, jj_sub, jj_mul, jj_neg, jj_le, jj_lt, jj_eq, jj_nat, chk_true (jj_inb _ _ _), chk_true (jj_nz _ _ _), lt, if_true, if_false, reduceIte, Int.le_refl]
    refine wp_some ⟨F1, fun j hj i => ?_⟩
    rw [h j hj i]
    have : (j : Int) ≤ 30 := by omega
    simp only [this, true_and]) (by
    intro n S1 k hk ⟨k0, F1, h⟩ ih
    have hk2 : ¬ 30 ≤ k := by omega
    simp only [f_X8_tellDough_b12]
    simp (disch := omega) only [jj_of, jj_add, jj_sub, jj_mul, jj_neg, jj_le, jj_lt, jj_eq, jj_nat, chk_true (jj_inb _ _ _), chk_true (jj_nz _ _ _), lt, if_true, if_false, reduceIte, hk2]
    refine ih _ ⟨by omega, FX_sI F1 (by omega), fun j hj i => ?_⟩
    rw [gI_sI]
    by_cases w : j = 31 * 0 + 1 + k.toNat ∧ i = c.toNat
    · rw [if_pos ⟨rfl, w⟩, if_pos ⟨by omega, w.2⟩]
    · rw [if_neg (fun z => w z.2), h j hj i]
      by_cases w2 : (j : Int) ≤ k ∧ i = c.toNat
      · rw [if_pos w2, if_pos ⟨by omega, w2.2⟩]
      · rw [if_neg w2, if_neg (fun z => w ⟨by omega, z.2⟩)]) 30 N 0 _ (by decide) (by omega) ⟨by decide, FX_sI (FX_refl _ _) (by omega), fun j hj i => by
      rw [gI_sI]
      by_cases w : j = 31 * 0 ∧ i = c.toNat
      · rw [if_pos ⟨rfl, w⟩, if_pos ⟨by omega, w.2⟩]
      · rw [if_neg (fun z => w z.2), if_neg (fun z => w ⟨by omega, z.2⟩)]⟩
theorem c_dough1 {S : St} {N : Nat} {A : Int → Int} {M W c v : Int} {em et : Sem} (hN : 4000 < N) (hC : XC S A M W em et) (hd : dok c v) (hb : M + 999 ≤ 100000000) : ∃ S', f_X9_dough N S (jj c) (jj v) = some (jj 1, S') ∧ XC S' (DGF A c v) (M + 999) W em et ∧ FX XOP S S' := by
  obtain ⟨⟨c0, c1⟩, v0, v1⟩ := id hd
  obtain ⟨⟨hH, hX, hP⟩, hM, hW, hL⟩ := id hC
  have a0 := hM.1.2.2.1.2.1
  have t6 := hM.1.2.1.2.1
  have a4' := hM.2.2.2.2.2.2.1
  have a5' := hM.2.2.2.2.2.2.2.2.1
  have f := fun i p q => @DGF_far A c v i p q c0 c1 a4'
  obtain ⟨S1, e1, F1, h1⟩ := x_tellDough (S := S) (v := v) hN c0 c1
  refine ⟨S1, ?_, ⟨⟨HDR_ext (HDR_FX F1 (fun f a b => by omega) hH) a0 a5' (fun i a b c => (f i (by omega) (by omega)).symm), ?_, ?_⟩, NUM_DGF hM hd hb, WRT_FX F1 (fun j => by omega) hW, FX_CLW F1 (by omega) (by omega) (by omega) hL⟩, FX_sub F1 (fun f j q => by unfold XOP; omega)⟩
  · unfold f_X9_dough
    rw [bnd_of (q_isCell (by omega) (by omega)), if_pos (show 0 ≤ c ∧ c ≤ 11 from ⟨c0, c1⟩), if_neg (by decide)]
    simp (disch := omega) only [jj_of, jj_add, jj_sub, jj_mul, jj_neg, jj_le, jj_lt, jj_eq, jj_nat, chk_true (jj_inb _ _ _), chk_true (jj_nz _ _ _), lt]
    rw [if_neg (show ¬ v < 0 by omega), if_pos (show v ≤ 999 by omega), bnd_of e1]
  · obtain ⟨X1, X2, X3, X4, X5⟩ := hX
    refine ⟨LAY_ext2 (LAY_cell c0 c1 X1 (h1 0 (by decide)) (fun f a b => F1.1 f _ 0 (by omega))) (fun i a b _ _ _ => ?_), by rw [F1.1 406 _ 0 (by omega), f 8 (by omega) (by omega)]; exact X2, by rw [F1.1 408 _ 0 (by omega), f 7 (by omega) (by omega)]; exact X3, HOM_ext (FX_HOM F1 (by omega) X4) (fun t a b => ?_), fun w => ?_⟩
    · rw [UP_at]
      by_cases w : i = 11 + c
      · rw [if_pos w]; unfold DGF dgI; rw [if_pos w]
      · rw [if_neg w, f _ w (by omega)]
    · unfold hmA
      rw [f 1 (by omega) (by omega), f _ (by omega) (by omega)]
    · rw [f 10 (by omega) (by omega)]
      exact BKS_ext (FX_BKS F1 (by omega) (by omega) (X5 w)) (fun i a b => (f _ (by omega) (by omega)).symm)
  · obtain ⟨h4, ns, n0, n1, h2, h3⟩ := hP
    have x4 := f 4 (by omega) (by omega)
    refine ⟨by rw [x4, F1.1 803 0 0 (by omega)]; exact h4, ns, n0, n1, (F1.1 802 0 0 (by omega)).trans h2, fun k a b => ?_⟩
    rw [x4] at b ⊢
    have r := @DGF_rec A c v k c0 c1 a b
    obtain ⟨Y1, Y2, Y3, Y4, Y5⟩ := h3 k a b
    have hj : 31 * 0 + 1 + ((ns + 30 - A 4 + k) % 30).toNat ≤ 30 := by omega
    generalize 31 * 0 + 1 + ((ns + 30 - A 4 + k) % 30).toNat = j at *
    have rr : ∀ i, 6 ≤ i → i < 35 → i ≠ 11 + c → rrow A k i = rrow (DGF A c v) k i := fun i p q z => by unfold rrow; rw [r _ (by omega) (by omega), if_neg (by omega)]
    refine ⟨LAY_ext2 (LAY_cell c0 c1 Y1 (h1 j hj) (fun f a b => F1.1 f _ 0 (by omega))) (fun i p q _ _ _ => ?_), by rw [F1.1 406 _ 0 (by omega), ← rr 8 (by omega) (by omega) (by omega)]; exact Y2, by rw [F1.1 408 _ 0 (by omega), ← rr 7 (by omega) (by omega) (by omega)]; exact Y3, HOM_ext (FX_HOM F1 (by omega) Y4) (fun t p q => ?_), ?_⟩
    · rw [UP_at]
      by_cases w : i = 11 + c
      · rw [if_pos w]; unfold rrow; rw [r _ (by omega) (by omega), if_pos (by omega)]
      · rw [if_neg w, rr i p q w]
    · unfold rhm
      rw [f 1 (by omega) (by omega), r (75 + 96 * k) (by omega) (by omega), if_neg (show ¬ 75 + 96 * k = 81 + 96 * k + c by omega), r (105 + 96 * k + t) (by omega) (by omega), if_neg (show ¬ 105 + 96 * k + t = 81 + 96 * k + c by omega), f (41 + t) (by omega) (by omega)]
    · rw [← rr 10 (by omega) (by omega) (by omega)]
      exact BKS_ext (FX_BKS F1 (by omega) (by omega) Y5) (fun i p q => by unfold rbk; rw [r _ (by omega) (by omega), if_neg (by omega)])
