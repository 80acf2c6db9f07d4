/-! CALLS: end, by, said, moves, of, apart. -/
theorem k_end {S : St} {T : Int} (t0 : 0 ≤ T) (t1 : T < 512) (hI : INV T S) (x : Int32) : TWO (fun S => f_X9_end S x) (fun S => f_X10_end S x) T S := by
  obtain ⟨A, B, hI⟩ := hI
  obtain ⟨i1, i2, i3, i4, i5, i6, i7, i8, ⟨n, b, p1, p2, p3, p4, p5⟩, i10, i11⟩ := id hI
  obtain ⟨z, rfl, b1, b2⟩ := jj_ex x
  show ∃ v S1 S2, f_X9_end S (jj z) = some (v, S1) ∧ f_X10_end S1 (jj z) = some (v, S2) ∧ INV (T + 1) S2
  unfold f_X9_end f_X10_end
  rw [p1]
  simp (disch := omega) only [jj_of, jj_add, jj_sub, jj_mul, jj_neg, jj_le, jj_lt, jj_eq, jj_nat, chk_true (jj_inb _ _ _), chk_true (jj_nz _ _ _), lt]
  by_cases q : 0 ≤ z ∧ z ≤ n
  · have F1 : FX (fun f _ => f = 501) S (sI S 501 0 0 (jj z)) := FX_sI (FX_refl _ _) rfl
    have F2 : FX (fun f _ => f = 501 ∨ f = 1004) S (sI (sI S 501 0 0 (jj z)) 1004 0 0 (jj z)) := FX_sI (FX_sub F1 (fun f _ q => Or.inl q)) (Or.inr rfl)
    rw [if_neg (show ¬ z < 0 by omega), if_pos (show z ≤ n by omega)]
    refine ⟨_, _, sI (sI S 501 0 0 (jj z)) 1004 0 0 (jj z), rfl, ?_, ?_⟩
    · rw [show gI (sI S 501 0 0 (jj z)) 1004 0 0 = jj n from (gI_sI _ _ _ _ _ _ _ _).trans (by rw [if_neg (by omega)]; exact p2)]
      rw [bnd_of (q_isIn2 b1 b2 (by decide) (by decide) (by omega) (by omega)), if_pos q, if_neg (by decide)]
    · refine ⟨A, B, FX_AR F2 (by omega) i1, FX_AR F2 (by omega) i2, WLD_step i5 i3 F2 (fun f a b => by omega) (fun f j a b c d => by omega) (SHX_FX F2 (fun f a b => by omega) i3.2.1) (fun _ _ _ _ => rfl), WLD_FX1 F2 (fun f a b => by omega) (fun f j a b c d => by omega) i4, NUM_mono i5 (by unfold MT; omega) (by unfold MT; omega), NUM_mono i6 (by unfold MT; omega) (by unfold MT; omega), WRT_mono (WRT_FX F2 (fun j => by omega) i7) (by unfold WT; omega), (F2.1 1023 0 0 (by omega)).trans i8, ⟨z, b, ?_, ?_, q.1, by omega, fun i c d => ?_⟩, FLT_FX F2 (by omega) (by omega) (by omega) (by omega) (by omega) i10, TXS_FX F2 (fun j => by omega) (by omega) (by omega) rfl i11⟩
      · rw [gI_sI, if_neg (by omega), gI_sI, if_pos ⟨rfl, rfl, rfl⟩]
      · rw [gI_sI, if_pos ⟨rfl, rfl, rfl⟩]
      · rw [F2.1 500 0 _ (by omega), F2.1 1003 0 _ (by omega)]
        exact p5 i c (by omega)
  · have e2 : (bnd (f_X10_isIn S (jj z) (jj 0) (gI S 1004 0 0)) fun q1 => if q1 = jj 0 then some (jj (-1), S) else some (jj z, sI S 1004 0 0 (jj z))) = some (jj (-1), S) := by
      rw [p2, bnd_of (q_isIn2 b1 b2 (by decide) (by decide) (by omega) (by omega)), if_neg q, if_pos rfl]
    by_cases q1 : z < 0
    · rw [if_pos q1]
      exact ⟨_, S, S, rfl, e2, INV_same hI t0 t1⟩
    · rw [if_neg q1, if_neg (show ¬ z ≤ n by omega)]
      exact ⟨_, S, S, rfl, e2, INV_same hI t0 t1⟩
theorem k_by {S : St} {T : Int} (t0 : 0 ≤ T) (t1 : T < 512) (hI : INV T S) (x : Int32) : TWO (fun S => f_X9_by S x) (fun S => f_X10_by S x) T S := by
  obtain ⟨A, B, hI⟩ := hI
  obtain ⟨em, et, hX, hR⟩ := INVA_get hI
  obtain ⟨z, rfl, b1, b2⟩ := jj_ex x
  have hM := hX.2.1
  have a2 := hM.2.1
  have a2' := hM.2.2.1
  have e2 : gI S 1000 0 2 = jj (A 2) := hR.1 2 (by decide) (by decide)
  have g8 := hX.1.1.2.2.1
  have tx := hI.2.2.2.2.2.2.2.2.2.2
  by_cases q : -1 ≤ z ∧ z < A 2
  · have F1 : FX (fun f _ => f = 809) S (sI S 809 0 0 (jj z)) := FX_sI (FX_refl _ _) rfl
    have F1' : FX (fun f j => f = 809 ∧ j = 0) S (sI S 809 0 0 (jj z)) := FX_sI (FX_refl _ _) ⟨rfl, rfl⟩
    have A1 : AR 1000 (sI S 809 0 0 (jj z)) A := FX_AR F1 (by omega) hR.1
    have F2 : FX (fun f _ => f = 1000) (sI S 809 0 0 (jj z)) (sI (sI S 809 0 0 (jj z)) 1000 0 3 (jj z)) := FX_sI (FX_refl _ _) rfl
    have A2 := AR_set A1 (k := 3) (v := z) (by decide)
    have un : ∀ i, i ≠ 3 → UP A 3 z i = A i := fun i h => UP_ne h
    refine ⟨jj 1, sI S 809 0 0 (jj z), sI (sI S 809 0 0 (jj z)) 1000 0 3 (jj z), ?_, ?_, ?_⟩
    · show f_X9_by S (jj z) = _
      unfold f_X9_by f_X9_isText
      rw [g8]
      simp (disch := omega) only [jj_of, jj_add, jj_sub, jj_mul, jj_neg, jj_le, jj_lt, jj_eq, jj_nat, chk_true (jj_inb _ _ _), chk_true (jj_nz _ _ _), lt]
      by_cases w : z = -1
      · rw [if_pos w]
      · have nz := (tx.2.1 z (by omega) q.2).2
        rw [if_neg w, if_neg (show ¬ z < 0 by omega), if_neg (show ¬ A 2 ≤ z by omega), if_neg nz, bnd_of rfl, if_neg (show ¬ jj 1 = jj 0 by decide)]
    · show f_X10_by (sI S 809 0 0 (jj z)) (jj z) = _
      unfold f_X10_by
      rw [show gI (sI S 809 0 0 (jj z)) 1000 0 2 = jj (A 2) from A1 2 (by decide) (by decide)]
      simp (disch := omega) only [jj_of, jj_add, jj_sub, jj_mul, jj_neg, jj_le, jj_lt, jj_eq, jj_nat, chk_true (jj_inb _ _ _), chk_true (jj_nz _ _ _), lt]
      rw [bnd_of (q_isIn2 b1 b2 (by decide) (by decide) (by omega) (by omega)), if_pos (show -1 ≤ z ∧ z ≤ A 2 - 1 by omega), if_neg (show ¬ jj 1 = jj 0 by decide)]
    · have hH := hX.1.1
      have M1 : NUM (UP A 3 z) (MT T) := by
        obtain ⟨o, c2, c2', c3, c3', c4, c4', c5, c5', hT, hS, hRk⟩ := id hM
        have t6 := o.2.1.2.1
        refine ⟨OKS_ext o (fun i a b c => (un i (by omega)).symm) (fun i a b => (un i (by omega)).symm), c2, c2', by rw [UP_hit]; exact q.1, by rw [UP_hit, un 2 (by decide)]; exact q.2, c4, c4', c5, c5', fun t a b => ?_, fun k a b => ?_, fun k a b => ?_⟩
        · rw [un _ (by omega)]; exact hT t a b
        · rw [un _ (by omega), un _ (by omega), un _ (by omega), un _ (by omega)]; exact hS k a b
        · obtain ⟨s1, s2, s3, s4⟩ := hRk k a b
          rw [un (75 + 96 * k) (by omega)]
          refine ⟨OKR_ext s1 (fun i c d => (un _ (by omega)).symm) (fun i c d => (un _ (by omega)).symm), s2, s3, fun t c d => ?_⟩
          rw [un _ (by omega)]; exact s4 t c d
      have W1 : WLD (sI S 809 0 0 (jj z)) 0 (UP A 3 z) := by
        obtain ⟨p1, p2, p3, p4, p5, p6, p7⟩ := hH
        refine ⟨⟨(F1'.1 805 0 0 (by omega)).trans p1, (F1'.1 806 0 0 (by omega)).trans p2, (F1'.1 808 0 0 (by omega)).trans p3, by rw [gI_sI, if_pos ⟨rfl, rfl, rfl⟩, UP_hit], (F1'.1 811 0 0 (by omega)).trans p5, fun k a b => (F1'.1 804 0 _ (by omega)).trans (by rw [un _ (by omega)]; exact p6 k a b), fun k a b => (F1'.1 810 0 _ (by omega)).trans (by rw [un _ (by omega)]; exact p7 k a b)⟩, SHX_ext (SHX_FX F1' (fun f a b => by omega) hX.1.2.1) (un 1 (by decide)).symm (fun i a b => (un i (by omega)).symm) (fun i a b => (un i (by omega)).symm), ?_⟩
        obtain ⟨h4, ns, n0, n1, h2, h3⟩ := STPS_FX F1' (fun f a b => by omega) (fun f j a b c d => by omega) hX.1.2.2
        refine ⟨h4, ns, n0, n1, h2, fun k a b => ?_⟩
        refine SHT_ext (h3 k a b) (fun i c d => (un _ (by omega)).symm) (fun t c d => ?_) (fun i c d => (un _ (by omega)).symm)
        unfold rhm
        rw [un 1 (by decide), un (75 + 96 * k) (by have : k < A 4 := b; omega), un (105 + 96 * k + t) (by omega), un (41 + t) (by omega)]
      exact INVA_next hI t0 t1 (FX_trans (FX_sub F1' (fun f j q => by unfold NPR PRT; omega)) (FX_sub F2 (fun f j q => by unfold NPR PRT; omega))) A2 (WLD_FXR F2 (fun f j a => by omega) W1) (NUM_mono M1 (by unfold MT; omega) (by unfold MT; omega)) (WRT_mono (WRT_FX F2 (fun j => by omega) (WRT_FX F1 (fun j => by omega) hX.2.2.1)) (by unfold WT; omega)) (by rw [F2.1 1023 0 0 (by omega), F1.1 1023 0 0 (by omega)]; exact hR.2.2) (un 2 (by decide))
  · refine ⟨jj 0, S, S, ?_, ?_, INV_same hI t0 t1⟩
    · show f_X9_by S (jj z) = _
      unfold f_X9_by f_X9_isText
      rw [g8]
      simp (disch := omega) only [jj_of, jj_add, jj_sub, jj_mul, jj_neg, jj_le, jj_lt, jj_eq, jj_nat, chk_true (jj_inb _ _ _), chk_true (jj_nz _ _ _), lt]
      rw [if_neg (show ¬ z = -1 by omega)]
      by_cases w : z < 0
      · rw [if_pos w, bnd_of rfl, if_pos rfl]
      · rw [if_neg w, if_pos (show A 2 ≤ z by omega), bnd_of rfl, if_pos rfl]
    · show f_X10_by S (jj z) = _
      unfold f_X10_by
      rw [e2]
      simp (disch := omega) only [jj_of, jj_add, jj_sub, jj_mul, jj_neg, jj_le, jj_lt, jj_eq, jj_nat, chk_true (jj_inb _ _ _), chk_true (jj_nz _ _ _), lt]
      rw [bnd_of (q_isIn2 b1 b2 (by decide) (by decide) (by omega) (by omega)), if_neg (show ¬ (-1 ≤ z ∧ z ≤ A 2 - 1) by omega), if_pos rfl]
/-- a call that only uses the class's and the reference's own numbers -/
def SCR (f j : Nat) : Prop := (200 ≤ f ∧ f ≤ 205) ∨ f = 300 ∨ f = 301 ∨ (704 ≤ f ∧ f ≤ 707) ∨ (1020 ≤ f ∧ f ≤ 1022) ∨ (1024 ≤ f ∧ f ≤ 1028) ∨ (400 ≤ f ∧ f ≤ 408 ∧ 62 ≤ j)
theorem INV_scr {S S1 : St} {A B : Int → Int} {T : Int} (hI : INVA T S A B) (t0 : 0 ≤ T) (t1 : T < 512) (h : FX SCR S S1) (hR : WRT S1 (WT (T + 1))) : INV (T + 1) S1 := by
  obtain ⟨i1, i2, i3, i4, i5, i6, i7, i8, i9, i10, i11⟩ := id hI
  exact INVA_next hI t0 t1 (FX_sub h (fun f j q => by unfold SCR at q; unfold NPR PRT; omega)) (FX_AR h (by unfold SCR; omega) i1) (WLD_step i5 i3 h (fun f a b => by unfold SCR; omega) (fun f j a b c d => by unfold SCR; omega) (SHX_FX h (fun f a b => by unfold SCR; omega) i3.2.1) (fun _ _ _ _ => rfl)) (NUM_mono i5 (by unfold MT; omega) (by unfold MT; omega)) hR ((h.1 1023 0 0 (by unfold SCR; omega)).trans i8) rfl
theorem WRT_scr {P : Nat → Nat → Prop} {S S1 : St} {A B : Int → Int} {T : Int} (hI : INVA T S A B) (h : FX P S S1) (p : ∀ j, ¬ P 403 j) (t0 : 0 ≤ T) : WRT S1 (WT (T + 1)) := WRT_mono (WRT_FX h p hI.2.2.2.2.2.2.1) (by unfold WT; omega)
theorem k_moves {S : St} {N : Nat} {T rt : Int} (hN : 4000 < N) (t0 : 0 ≤ T) (t1 : T < 512) (hI : INV T S) (x y : Int32) (hr : rt = 0 ∨ rt = 1) : TWO (fun S => f_X9_moves N S x y (jj rt)) (fun S => f_X10_moves N S x y (jj rt)) T S := by
  obtain ⟨A, B, hI⟩ := hI
  obtain ⟨em, et, hX, hR⟩ := INVA_get hI
  obtain ⟨z, rfl, b1, b2⟩ := jj_ex x
  obtain ⟨u, rfl, b3, b4⟩ := jj_ex y
  have hO := hX.2.1.1
  have a0 := hO.2.2.1.1
  have a4 := hO.2.2.1.2.1
  show ∃ v S1 S2, f_X9_moves N S (jj z) (jj u) (jj rt) = some (v, S1) ∧ f_X10_moves N S1 (jj z) (jj u) (jj rt) = some (v, S2) ∧ INV (T + 1) S2
  by_cases q : (0 ≤ z ∧ z < A 0) ∧ (0 ≤ u ∧ u ≤ 11)
  · obtain ⟨q1, q2⟩ := q
    have hs := hO.2.2.1.2.2 z q1.1 q1.2
    have hRB := OKR_RB hO.1 hO.2.2.2
    obtain ⟨⟨lw, hlw, hE⟩, -⟩ := hX.2.2.2
    obtain ⟨S1, e1, F1⟩ := q_amount (sg := sgA A) (h := z) (c := u) (rt := rt) hN (by decide) ⟨show 0 ≤ A (47 + z) by omega, hs.2⟩ ⟨q1.1, by omega⟩ q2.1 (by omega) hr hRB hX.1.2.1.1 (hX.1.1.2.2.2.2.2.1 z q1.1 q1.2) hE
    have R1 : RC S1 A em et := RC_step hR F1 (by omega) (by omega) (FX_AR F1 (by omega) hR.1) rfl
    obtain ⟨S2, e2, F2⟩ := r_moves (h := z) (c := u) (rt := rt) hN R1.1 R1.2.1.1 ⟨by omega, hs.2⟩ ⟨q1.1, by omega⟩ q2.1 (by omega) hr hRB
    refine ⟨jj (mvv em A (sgA A) z u rt), S1, S2, ?_, ?_, INV_scr hI t0 t1 (FX_trans (FX_sub F1 (fun f j q => by unfold SCR; omega)) (FX_sub F2 (fun f j q => by unfold SCR; omega))) (WRT_scr (P := fun f _ => 200 ≤ f ∧ f ≤ 205 ∨ 1020 ≤ f ∧ f ≤ 1022) hI (FX_trans (FX_sub F1 (fun f j q => by omega)) (FX_sub F2 (fun f j q => by omega))) (fun j => by omega) t0)⟩
    · unfold f_X9_moves
      rw [bnd_of (x_isHand hX.1.1.1 a0 a4 b1 b2), if_pos q1, if_neg (by decide), bnd_of (q_isCell b3 b4), if_pos q2, if_neg (by decide), bnd_of hlw, bnd_of e1]
    · unfold f_X10_moves
      rw [bnd_of (r_isHand R1.1 a0 a4 b1 b2), if_pos q1, if_neg (by decide), bnd_of (q_isCellM b3 b4), if_pos q2, if_neg (by decide), show gI S1 1000 0 3 = jj (A 3) from R1.1 3 (by decide) (by decide), bnd_of e2]
  · refine ⟨jj (-1), S, S, ?_, ?_, INV_same hI t0 t1⟩
    · unfold f_X9_moves
      rw [bnd_of (x_isHand hX.1.1.1 a0 a4 b1 b2), bnd_of (q_isCell b3 b4)]
      by_cases q1 : 0 ≤ z ∧ z < A 0
      · rw [if_pos q1, if_neg (by decide), if_neg (show ¬ (0 ≤ u ∧ u ≤ 11) from fun w => q ⟨q1, w⟩), if_pos (by decide)]
        rfl
      · rw [if_neg q1, if_pos (by decide)]
        rfl
    · unfold f_X10_moves
      rw [bnd_of (r_isHand hR.1 a0 a4 b1 b2), bnd_of (q_isCellM b3 b4)]
      by_cases q1 : 0 ≤ z ∧ z < A 0
      · rw [if_pos q1, if_neg (by decide), if_neg (show ¬ (0 ≤ u ∧ u ≤ 11) from fun w => q ⟨q1, w⟩), if_pos (by decide)]
        rfl
      · rw [if_neg q1, if_pos (by decide)]
        rfl
theorem k_of {S : St} {N : Nat} {T : Int} (hN : 4000 < N) (t0 : 0 ≤ T) (t1 : T < 512) (hI : INV T S) (x y : Int32) : TWO (fun S => f_X9_of N S x y) (fun S => f_X10_of N S x y) T S := by
  obtain ⟨A, B, hI⟩ := hI
  obtain ⟨em, et, hX, hR⟩ := INVA_get hI
  obtain ⟨z, rfl, b1, b2⟩ := jj_ex x
  obtain ⟨u, rfl, b3, b4⟩ := jj_ex y
  have hO := hX.2.1.1
  have hL := hX.1.2.1
  show ∃ v S1 S2, f_X9_of N S (jj z) (jj u) = some (v, S1) ∧ f_X10_of N S1 (jj z) (jj u) = some (v, S2) ∧ INV (T + 1) S2
  by_cases q : 0 ≤ z ∧ z ≤ 11
  · have x9 : ∀ S1, f_X9_isCell S1 (jj z) = some (jj 1) := fun S1 => by rw [q_isCell b1 b2, if_pos q]
    have x10 : ∀ S1, f_X10_isCell S1 (jj z) = some (jj 1) := fun S1 => by rw [q_isCellM b1 b2, if_pos q]
    have e11 := hR.1 (11 + z) (by omega) (by omega)
    have e23 := hR.1 (23 + z) (by omega) (by omega)
    unfold f_X9_of f_X10_of
    simp only [jj_of]
    rw [bnd_of (x9 S), if_neg (show ¬ jj 1 = jj 0 by decide)]
    have nn1 : ¬ jj 1 = jj 0 := by decide
    by_cases u0 : u = 0
    · subst u0
      rw [if_pos rfl, chk_true (jj_inb q.1 (by omega) (by omega)), jj_nat (by omega) (by omega), hL.1.1 z q.1 (by omega)]
      refine ⟨_, S, S, rfl, ?_, INV_same hI t0 t1⟩
      rw [bnd_of (x10 S), if_neg nn1, if_pos rfl]
      simp (disch := omega) only [jj_of, jj_add, jj_sub, jj_mul, jj_neg, jj_le, jj_lt, jj_eq, jj_nat, chk_true (jj_inb _ _ _), chk_true (jj_nz _ _ _), lt, e11]
    by_cases u1 : u = 1
    · subst u1
      have tg := tb_get hL.1.2.1 q.1 (show z < 12 by omega)
      simp only [jj_of] at tg
      rw [if_neg nn1, if_pos rfl, tg]
      refine ⟨_, S, S, rfl, ?_, INV_same hI t0 t1⟩
      rw [bnd_of (x10 S), if_neg nn1, if_neg nn1, if_pos rfl]
      simp (disch := omega) only [jj_of, jj_add, jj_sub, jj_mul, jj_neg, jj_le, jj_lt, jj_eq, jj_nat, chk_true (jj_inb _ _ _), chk_true (jj_nz _ _ _), lt, e23]
    by_cases u2 : u = 2
    · subst u2
      obtain ⟨w, g1, g2⟩ := towns_two (c := z) hN hO hL hR.1 (by omega) q.2
      rw [if_neg (by decide), if_neg (by decide), if_pos rfl, bnd_of g1]
      refine ⟨_, S, S, rfl, ?_, INV_same hI t0 t1⟩
      rw [bnd_of (x10 S), if_neg nn1, if_neg (by decide), if_neg (by decide), if_pos rfl, bnd_of g2]
    by_cases u3 : u = 3
    · subst u3
      have hRB := OKR_RB hO.1 hO.2.2.2
      obtain ⟨S1, e1, F1⟩ := q_tearing (j := 0) hN (by decide) q.1 (show z < 12 by omega) hRB hL.1 hX.2.2.2
      have R1 : RC S1 A em et := RC_step hR F1 (by omega) (by omega) (FX_AR F1 (by omega) hR.1) rfl
      obtain ⟨S2, e2, F2⟩ := r_tears hN R1.1 R1.2.1.2 q.1 (show z < 12 by omega) hRB
      rw [if_neg (by decide), if_neg (by decide), if_neg (by decide), if_pos rfl, bnd_of e1]
      refine ⟨_, S1, S2, rfl, ?_, INV_scr hI t0 t1 (FX_trans (FX_sub F1 (fun f j q => by unfold SCR; omega)) (FX_sub F2 (fun f j q => by unfold SCR; omega))) (WRT_scr (P := fun f _ => 200 ≤ f ∧ f ≤ 205 ∨ 1020 ≤ f ∧ f ≤ 1022) hI (FX_trans (FX_sub F1 (fun f j q => by omega)) (FX_sub F2 (fun f j q => by omega))) (fun j => by omega) t0)⟩
      rw [bnd_of (x10 S1), if_neg nn1, if_neg (by decide), if_neg (by decide), if_neg (by decide), if_pos rfl, bnd_of e2]
    · have k : ∀ i : Int, -100 ≤ i → i ≤ 100 → u ≠ i → ¬ jj u = jj i := fun i c d w => by rw [jj_eq b3 b4 (by omega) (by omega)]; exact w
      rw [if_neg (k 0 (by decide) (by decide) u0), if_neg (k 1 (by decide) (by decide) u1), if_neg (k 2 (by decide) (by decide) u2), if_neg (k 3 (by decide) (by decide) u3)]
      refine ⟨_, S, S, rfl, ?_, INV_same hI t0 t1⟩
      rw [bnd_of (x10 S), if_neg nn1, if_neg (k 0 (by decide) (by decide) u0), if_neg (k 1 (by decide) (by decide) u1), if_neg (k 2 (by decide) (by decide) u2), if_neg (k 3 (by decide) (by decide) u3)]
  · refine ⟨jj (-1), S, S, ?_, ?_, INV_same hI t0 t1⟩
    · unfold f_X9_of
      rw [bnd_of (q_isCell b1 b2), if_neg q, if_pos (by decide)]
      rfl
    · unfold f_X10_of
      rw [bnd_of (q_isCellM b1 b2), if_neg q, if_pos (by decide)]
      rfl
