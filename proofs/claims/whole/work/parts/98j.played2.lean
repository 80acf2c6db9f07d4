/-! CALLS: played: the whole. -/
theorem played_go {N n : Nat} {L : Int} {q1 : Nat} {fc tx : Nat → Int32} {em et : Sem} (hN : 4000 < N) (n24 : n ≤ 24) (l0 : 0 ≤ L) (l1 : L < 4) (htn : tx (681 * L).toNat = jj n) (hcl : ∀ k : Int, 0 ≤ k → k < n → ∃ kd a b : Int, 0 ≤ kd ∧ kd ≤ 9 ∧ 0 ≤ a ∧ a ≤ 9999 ∧ 0 ≤ b ∧ b ≤ 9999 ∧ fc (3 * k).toNat = jj kd ∧ tx (681 * L + 1 + 3 * k).toNat = jj kd ∧ ((2 ≤ kd → kd ≠ 7 → fc (3 * k + 1).toNat = jj a ∧ tx (681 * L + 1 + 3 * k + 1).toNat = jj a) ∧ ((kd = 3 ∨ kd = 5 ∨ kd = 6 ∨ kd = 8) → fc (3 * k + 2).toNat = jj b ∧ tx (681 * L + 1 + 3 * k + 2).toNat = jj b)) ∧ (kd = 9 → a ≤ 60)) :
    ∀ (m : Nat) (k : Int) (n1 n2 : Nat) (S R : St) (A : Int → Int) (M W : Int), 0 ≤ k → k + m = n → m < n1 → m < n2 → XC S A M W em et → RC R A em et → gA S q1 = some (3 * n, fc) → (∀ i, gI R 1002 0 i = tx i) → M + 999 * m ≤ 100000000 → W + 60 * m < 100000000 → ∃ v S' R' A', f_X9_played_b26 N n1 q1 (jj (3 * k)) S = some (v, S') ∧ f_X10_played_b21 N n2 (jj L) (jj k) R = some (v, R') ∧ XC S' A' (M + 999 * m) (W + 60 * m) em et ∧ RC R' A' em et ∧ FX XOP S S' ∧ FX ROP R R' ∧ A' 2 = A 2 := by
  intro m
  induction m with
  | zero =>
    intro k n1 n2 S R A M W k0 hk h1 h2 hX hR hg ht hM hW
    obtain ⟨n1, rfl⟩ : ∃ q, n1 = q + 1 := ⟨n1 - 1, by omega⟩
    obtain ⟨n2, rfl⟩ : ∃ q, n2 = q + 1 := ⟨n2 - 1, by omega⟩
    have hk : k = n := by omega
    refine ⟨jj (-1), S, R, A, ?_, ?_, by rw [show M + 999 * ((0 : Nat) : Int) = M by omega, show W + 60 * ((0 : Nat) : Int) = W by omega]; exact hX, hR, FX_refl _ _, FX_refl _ _, rfl⟩
    · rw [f_X9_played_b26]
      rw [bnd_of (gA_gN hg), nat_jj, jj_of, jj_add, if_pos (show jj ((3 * n : Nat) : Int) ≤ jj (3 * k + 2) by rw [jj_le (by omega) (by omega) (by omega) (by omega)]; omega)]
      rfl
    · rw [f_X10_played_b21]
      rw [jj_of, jj_mul, chk_true (jj_inb (by omega) (by omega) (by omega)), jj_nat (by omega) (by omega), ht, htn, if_pos (show jj (n : Int) ≤ jj k by rw [hk]; exact Int32.le_refl _)]
      rfl
  | succ m ih =>
    intro k n1 n2 S R A M W k0 hk h1 h2 hX hR hg ht hM hW
    obtain ⟨n1, rfl⟩ : ∃ q, n1 = q + 1 := ⟨n1 - 1, by omega⟩
    obtain ⟨n2, rfl⟩ : ∃ q, n2 = q + 1 := ⟨n2 - 1, by omega⟩
    obtain ⟨kd, a, b, g1, g2, g3, g4, g5, g6, g7, g8, g9, g10⟩ := hcl k k0 (by omega)
    obtain ⟨ok, S', R', A', hok, e1, e2, X', Rr', F1, F2, e2'⟩ := played_one (p := fc (3 * k + 1).toNat) (r := fc (3 * k + 2).toNat) (x := 681 * L + 1 + 3 * k) hN hX hR (by omega) (by omega) g1 g2 g3 g4 g5 g6 g10 (by omega) (by omega) (by rw [ht]; exact g8) (fun z w => ⟨(g9.1 z w).1, by rw [ht]; exact (g9.1 z w).2⟩) (fun z => ⟨(g9.2 z).1, by rw [ht]; exact (g9.2 z).2⟩)
    have c9 : f_X9_played_b26 N (n1 + 1) q1 (jj (3 * k)) S = if jj ok = (0 : Int32) then some (jj k, S') else f_X9_played_b26 N n1 q1 (jj (3 * (k + 1))) S' := by
      rw [f_X9_played_b26]
      rw [bnd_of (gA_gN hg), nat_jj, show jj (3 * k) + (2 : Int32) = jj (3 * k + 2) by rw [jj_of, jj_add], show jj (3 * k) + (1 : Int32) = jj (3 * k + 1) by rw [jj_of, jj_add], if_neg (show ¬ jj ((3 * n : Nat) : Int) ≤ jj (3 * k + 2) by rw [jj_le (by omega) (by omega) (by omega) (by omega)]; omega), bnd_of hg, chk_true (jj_inb (by omega) (by simp only; omega) (by omega)), bnd_of hg, chk_true (jj_inb (by omega) (by simp only; omega) (by omega)), bnd_of hg, chk_true (jj_inb (by omega) (by simp only; omega) (by omega)), jj_nat (by omega) (by omega), jj_nat (by omega) (by omega), jj_nat (by omega) (by omega)]
      simp only
      rw [g7, bnd_of e1]
      simp only [lt]
      rw [show jj (3 * k) / (3 : Int32) = jj k by rw [jj_of, jj_div (by omega) (by omega) (by decide) (by decide)]; congr 1; omega, show jj (3 * k) + (3 : Int32) = jj (3 * (k + 1)) by rw [jj_of, jj_add]; congr 1; omega]
    have c10 : f_X10_played_b21 N (n2 + 1) (jj L) (jj k) R = if jj ok = (0 : Int32) then some (jj k, R') else f_X10_played_b21 N n2 (jj L) (jj (k + 1)) R' := by
      rw [f_X10_played_b21]
      rw [show (681 : Int32) * jj L = jj (681 * L) by rw [jj_of, jj_mul], chk_true (jj_inb (by omega) (by omega) (by omega)), jj_nat (by omega) (by omega), ht, htn, if_neg (show ¬ jj (n : Int) ≤ jj k by rw [jj_le (by omega) (by omega) (by omega) (by omega)]; omega), show jj (681 * L) + (1 : Int32) + (3 : Int32) * jj k = jj (681 * L + 1 + 3 * k) by simp only [jj_of, jj_add, jj_mul], bnd_of e2]
      simp only [lt]
      rw [show jj k + (1 : Int32) = jj (k + 1) by rw [jj_of, jj_add]]
    rw [c9, c10]
    rcases hok with rfl | rfl
    · rw [if_pos (show jj 0 = (0 : Int32) from rfl), if_pos (show jj 0 = (0 : Int32) from rfl)]
      exact ⟨_, S', R', A', rfl, rfl, XC_up X' (by omega) hM (by omega), Rr', F1, F2, e2'⟩
    · rw [if_neg (show ¬ jj 1 = (0 : Int32) by decide), if_neg (show ¬ jj 1 = (0 : Int32) by decide)]
      obtain ⟨v, S2, R2, A2, y1, y2, y3, y4, y5, y6, y7⟩ := ih (k + 1) n1 n2 S' R' A' (M + 999) (W + 60) (by omega) (by omega) (by omega) (by omega) X' Rr' ((FX_gA F1 q1).trans hg) (fun i => (F2.1 1002 0 i (by unfold ROP; omega)).trans (ht i)) (by omega) (by omega)
      exact ⟨v, S2, R2, A2, y1, y2, by rw [show M + 999 * ((m + 1 : Nat) : Int) = M + 999 + 999 * m by omega, show W + 60 * ((m + 1 : Nat) : Int) = W + 60 + 60 * m by omega]; exact y3, y4, FX_trans F1 y5, FX_trans F2 y6, y7.trans e2'⟩
theorem k_played {S : St} {N : Nat} {T : Int} (hN : 4000 < N) (t0 : 0 ≤ T) (t1 : T < 512) (hI : INV T S) (x : Int32) : TWO (fun S => f_X9_played N S x) (fun S => f_X10_played N S x) T S := by
  obtain ⟨A, B, hI⟩ := hI
  obtain ⟨em, et, hX, hR⟩ := INVA_get hI
  obtain ⟨z, rfl, b1, b2⟩ := jj_ex x
  have a2 := hX.2.1.2.1
  have a2' := hX.2.1.2.2.1
  have g8 := hX.1.1.2.2.1
  have e2 : gI S 1000 0 2 = jj (A 2) := hR.1 2 (by decide) (by decide)
  show ∃ v S1 S2, f_X9_played N S (jj z) = some (v, S1) ∧ f_X10_played N S1 (jj z) = some (v, S2) ∧ INV (T + 1) S2
  by_cases q : 0 ≤ z ∧ z < A 2
  · obtain ⟨⟨p, n, fc, h1, h2, h3, h4, h5⟩, nz⟩ := hI.2.2.2.2.2.2.2.2.2.2.2.1 z q.1 q.2
    -- the class runs first; the reference's run is foreseen from the same row
    obtain ⟨v, S', R', A', y1, y2, y3, y4, y5, y6, y7⟩ := played_go (N := N) (L := z) (q1 := p.1) (fc := fc) (tx := fun i => gI S 1002 0 i) (em := em) (et := et) hN h3 q.1 (by omega) h4 h5 n 0 N N S S A (MT T) (WT T) (by decide) (by omega) (by omega) (by omega) hX hR h2 (fun i => rfl) (by unfold MT; omega) (by unfold WT; omega)
    obtain ⟨v', S2, R2, A2, z1, z2, z3, z4, z5, z6, z7⟩ := played_go (N := N) (L := z) (q1 := p.1) (fc := fc) (tx := fun i => gI S 1002 0 i) (em := em) (et := et) hN h3 q.1 (by omega) h4 h5 n 0 N N S S' A (MT T) (WT T) (by decide) (by omega) (by omega) (by omega) hX (RC_X hR y5) h2 (fun i => y5.1 1002 0 i (by unfold XOP; omega)) (by unfold MT; omega) (by unfold WT; omega)
    have : some (v, S') = some (v', S2) := y1.symm.trans z1
    simp only [Option.some.injEq, Prod.mk.injEq] at this
    obtain ⟨rfl, rfl⟩ := this
    refine ⟨v, S', R2, ?_, ?_, INV_op hI t0 t1 z3 z5 z4 z6 z7 (by unfold MT; omega) (by unfold WT; omega)⟩
    · unfold f_X9_played f_X9_isText
      rw [g8, if_neg (show ¬ jj z < (0 : Int32) by rw [jj_of, jj_lt b1 b2 (by decide) (by decide)]; omega), if_neg (show ¬ jj (A 2) ≤ jj z by rw [jj_le (by omega) (by omega) b1 b2]; omega), chk_true (jj_inb q.1 (by omega) (by omega)), jj_nat (by omega) (by omega), if_neg nz, bnd_of rfl, if_neg (show ¬ (1 : Int32) = 0 by decide), chk_true (jj_inb q.1 (by omega) (by omega)), if_neg nz, bnd_of h1]
      exact y1
    · unfold f_X10_played
      rw [show gI S' 1000 0 2 = jj (A 2) from (y5.1 1000 0 2 (by unfold XOP; omega)).trans e2]
      simp only [jj_of, jj_sub]
      rw [bnd_of (q_isIn2 b1 b2 (by decide) (by decide) (by omega) (by omega)), if_pos (show 0 ≤ z ∧ z ≤ A 2 - 1 by omega), if_neg (show ¬ jj 1 = jj 0 by decide)]
      exact z2
  · refine ⟨jj (-2), S, S, ?_, ?_, INV_same hI t0 t1⟩
    · unfold f_X9_played f_X9_isText
      rw [g8]
      simp (disch := omega) only [jj_of, jj_lt, jj_le, jj_neg]
      by_cases w : z < 0
      · rw [if_pos w, bnd_of rfl, if_pos rfl]
      · rw [if_neg w, if_pos (show A 2 ≤ z by omega), bnd_of rfl, if_pos rfl]
    · unfold f_X10_played
      rw [e2]
      simp only [jj_of, jj_sub]
      rw [bnd_of (q_isIn2 b1 b2 (by decide) (by decide) (by omega) (by omega)), if_neg (show ¬ (0 ≤ z ∧ z ≤ A 2 - 1) by omega), if_pos rfl]
      rfl
