/-! CALLS: played. -/
theorem XC_up {S : St} {A : Int → Int} {M M' W W' : Int} {em et : Sem} (h : XC S A M W em et) (hM : M ≤ M') (hb : M' ≤ 100000000) (hW : W ≤ W') : XC S A M' W' em et := ⟨h.1, NUM_mono h.2.1 hM hb, WRT_mono h.2.2.1 hW, h.2.2.2⟩
/-- one clause on both sides: the class at S, the reference at R -/
def STEP2 (X : Option (Int32 × St)) (Y : Option (Int32 × St)) (S R : St) (A : Int → Int) (M W : Int) (em et : Sem) : Prop := ∃ (ok : Int) (S' R' : St) (A' : Int → Int), (ok = 0 ∨ ok = 1) ∧ X = some (jj ok, S') ∧ Y = some (jj ok, R') ∧ XC S' A' M W em et ∧ RC R' A' em et ∧ FX XOP S S' ∧ FX ROP R R' ∧ A' 2 = A 2
theorem played_hand {S R : St} {A : Int → Int} {M W a : Int} {em et : Sem} (hX : XC S A M W em et) (hR : RC R A em et) (b1 : -2147483648 ≤ a) (b2 : a ≤ 2147483647) : STEP2 (bnd (f_X9_hand S (jj a)) fun q => if q.1 = (-1 : Int32) then some ((0 : Int32), q.2) else some ((1 : Int32), q.2)) (bnd (f_X10_hand R (jj a)) fun q => if q.1 < (0 : Int32) then some ((0 : Int32), q.2) else some ((1 : Int32), q.2)) S R A M W em et := by
  have a0 := hX.2.1.1.2.2.1.1
  have a4 := hX.2.1.1.2.2.1.2.1
  by_cases h : hok A a
  · obtain ⟨S1, e1, X1, F1⟩ := c_hand1 hX h
    obtain ⟨R1, e2, R2, F2⟩ := rc_hand1 hX.2.1 hR h
    refine ⟨1, S1, R1, HNF A a, Or.inr rfl, ?_, ?_, X1, R2, F1, F2, by unfold HNF; rw [UP_ne (by decide), UP_ne (by omega)]⟩
    · rw [bnd_of e1, if_neg (show ¬ jj (A 0) = (-1 : Int32) by rw [show (-1 : Int32) = jj (-1) from rfl, jj_eq (by omega) (by omega) (by decide) (by decide)]; omega)]; rfl
    · rw [bnd_of e2, if_neg (show ¬ jj (A 0) < (0 : Int32) by rw [jj_of, jj_lt (by omega) (by omega) (by decide) (by decide)]; omega)]; rfl
  · refine ⟨0, S, R, A, Or.inl rfl, ?_, ?_, hX, hR, FX_refl _ _, FX_refl _ _, rfl⟩
    · rw [bnd_of (c_hand0 hX h b1 b2)]; rfl
    · rw [bnd_of (rc_hand0 hX.2.1 hR h b1 b2)]; rfl
theorem played_town {S R : St} {N : Nat} {A : Int → Int} {M W a : Int} {em et : Sem} (hN : 4000 < N) (hX : XC S A M W em et) (hR : RC R A em et) (b1 : -2147483648 ≤ a) (b2 : a ≤ 2147483647) : STEP2 (bnd (f_X9_town N S (jj a)) fun q => if q.1 = (-1 : Int32) then some ((0 : Int32), q.2) else some ((1 : Int32), q.2)) (bnd (f_X10_town R (jj a)) fun q => if q.1 < (0 : Int32) then some ((0 : Int32), q.2) else some ((1 : Int32), q.2)) S R A M W em et := by
  have a0 := hX.2.1.1.2.1.1
  have a4 := hX.2.1.1.2.1.2.1
  by_cases h : tok A a
  · obtain ⟨S1, e1, X1, F1⟩ := c_town1 hN hX h
    obtain ⟨R1, e2, R2, F2⟩ := rc_town1 hX.2.1 hR h
    refine ⟨1, S1, R1, TNF A a, Or.inr rfl, ?_, ?_, X1, R2, F1, F2, TNF_far 2 (by decide) (by omega) (by omega)⟩
    · rw [bnd_of e1, if_neg (show ¬ jj (A 1) = (-1 : Int32) by rw [show (-1 : Int32) = jj (-1) from rfl, jj_eq (by omega) (by omega) (by decide) (by decide)]; omega)]; rfl
    · rw [bnd_of e2, if_neg (show ¬ jj (A 1) < (0 : Int32) by rw [jj_of, jj_lt (by omega) (by omega) (by decide) (by decide)]; omega)]; rfl
  · refine ⟨0, S, R, A, Or.inl rfl, ?_, ?_, hX, hR, FX_refl _ _, FX_refl _ _, rfl⟩
    · rw [bnd_of (c_town0 hX h b1 b2)]; rfl
    · rw [bnd_of (rc_town0 hX.2.1 hR h b1 b2)]; rfl
theorem played_dough {S R : St} {N : Nat} {A : Int → Int} {M W a b : Int} {em et : Sem} (hN : 4000 < N) (hX : XC S A M W em et) (hR : RC R A em et) (hb : M + 999 ≤ 100000000) (b1 : -2147483648 ≤ a) (b2 : a ≤ 2147483647) (b3 : -2147483648 ≤ b) (b4 : b ≤ 2147483647) : STEP2 (bnd (f_X9_dough N S (jj b) (jj a)) fun q => chk (isz q.1) (some (q.1, q.2))) (bnd (f_X10_dough N R (jj b) (jj a)) fun q => chk (isz q.1) (some (q.1, q.2))) S R A (M + 999) W em et := by
  by_cases h : dok b a
  · obtain ⟨S1, e1, X1, F1⟩ := c_dough1 hN hX h hb
    obtain ⟨R1, e2, R2, F2⟩ := rc_dough1 hN hX.2.1 hR h
    refine ⟨1, S1, R1, DGF A b a, Or.inr rfl, ?_, ?_, X1, R2, F1, F2, DGF_far 2 (by have := h.1; omega) (by decide) h.1.1 h.1.2 hX.2.1.2.2.2.2.2.2.1⟩
    · rw [bnd_of e1]; rfl
    · rw [bnd_of e2]; rfl
  · refine ⟨0, S, R, A, Or.inl rfl, ?_, ?_, XC_up hX (by omega) hb (Int.le_refl _), hR, FX_refl _ _, FX_refl _ _, rfl⟩
    · rw [bnd_of (c_dough0 h b3 b4 b1 b2)]; rfl
    · rw [bnd_of (rc_dough0 h b3 b4 b1 b2)]; rfl
theorem played_stroke {S R : St} {N : Nat} {A : Int → Int} {M W a b rt : Int} {em et : Sem} (hN : 4000 < N) (hX : XC S A M W em et) (hR : RC R A em et) (hW : W < 100000000) (hr : rt = 0 ∨ rt = 1) (b1 : -2147483648 ≤ a) (b2 : a ≤ 2147483647) (b3 : -2147483648 ≤ b) (b4 : b ≤ 2147483647) : STEP2 (bnd (f_X9_stroke N S (jj b) (jj a) (jj rt)) fun q => if q.1 = (-1 : Int32) then some ((0 : Int32), q.2) else some ((1 : Int32), q.2)) (bnd (f_X10_stroke N R (jj b) (jj a) (jj rt)) fun q => if q.1 < (0 : Int32) then some ((0 : Int32), q.2) else some ((1 : Int32), q.2)) S R A M (W + 1) em et := by
  by_cases h : sok A b a
  · obtain ⟨S1, e1, X1, F1⟩ := c_stroke1 hN hX hW h hr
    obtain ⟨R1, e2, R2, F2⟩ := r_stroke1 hN hX.2.1 hR h hr
    have hh := h.2.1
    have NK := NUM_KPF hX.2.1
    have cb := OKR_CB NK.1.1 NK.1.2.2.2 a (by omega) (by omega)
    simp only at cb
    have mb := mvv_b (em := em) (sg := sgA (KPF A)) (h := b) (rt := rt) (OKR_RB NK.1.1 NK.1.2.2.2) (show 0 ≤ a by omega) (show a < 12 by omega)
    refine ⟨1, S1, R1, STW 1 em et (KPF A) b a rt, Or.inr rfl, ?_, ?_, X1, R2, F1, F2, by rw [AGR_2 (STW_AGR NK.1 (by omega) (by omega) hr), keep_row hX.2.1 2 (by decide) (by decide)]⟩
    · rw [bnd_of e1, if_neg (show ¬ jj (mvv em (KPF A) (sgA (KPF A)) b a rt) = (-1 : Int32) by rw [show (-1 : Int32) = jj (-1) from rfl, jj_eq (by omega) (by omega) (by decide) (by decide)]; omega)]; rfl
    · rw [bnd_of e2, if_neg (show ¬ jj (mvv em (KPF A) (sgA (KPF A)) b a rt) < (0 : Int32) by rw [jj_of, jj_lt (by omega) (by omega) (by decide) (by decide)]; omega)]; rfl
  · refine ⟨0, S, R, A, Or.inl rfl, ?_, ?_, XC_up hX (Int.le_refl _) hX.2.1.1.2.2.2 (by omega), hR, FX_refl _ _, FX_refl _ _, rfl⟩
    · rw [bnd_of (c_stroke0 hX h b3 b4 b1 b2)]; rfl
    · rw [bnd_of (r_stroke0 hX.2.1 hR h b3 b4 b1 b2)]; rfl
theorem played_trim {S R : St} {N : Nat} {A : Int → Int} {M W : Int} {em et : Sem} (hN : 4000 < N) (hX : XC S A M W em et) (hR : RC R A em et) : STEP2 (bnd (f_X9_trim S) fun q => if q.1 = (-1 : Int32) then some ((0 : Int32), q.2) else some ((1 : Int32), q.2)) (bnd (f_X10_trim N R) fun q => if q.1 < (0 : Int32) then some ((0 : Int32), q.2) else some ((1 : Int32), q.2)) S R A M W em et := by
  obtain ⟨S1, e1, X1, F1⟩ := c_trim hX
  obtain ⟨R1, e2, R2, F2⟩ := rc_trim hN hX.2.1 hR
  have h9 := (OKR_RB hX.2.1.1.1 hX.2.1.1.2.2.2).2.2
  refine ⟨if 0 < A 9 then 1 else 0, S1, R1, _, by split; exact Or.inr rfl; exact Or.inl rfl, ?_, ?_, X1, R2, F1, F2, ?_⟩
  · rw [bnd_of e1]
    by_cases q : 0 < A 9
    · rw [if_pos q, if_pos q, if_neg (show ¬ jj (A 9) = (-1 : Int32) by rw [show (-1 : Int32) = jj (-1) from rfl, jj_eq (by omega) (by omega) (by decide) (by decide)]; omega)]; rfl
    · rw [if_neg q, if_neg q, if_pos (show jj (-1) = (-1 : Int32) from rfl)]; rfl
  · rw [bnd_of e2]
    by_cases q : 0 < A 9
    · rw [if_pos q, if_pos q, if_neg (show ¬ jj (A 9) < (0 : Int32) by rw [jj_of, jj_lt (by omega) (by omega) (by decide) (by decide)]; omega)]; rfl
    · rw [if_neg q, if_neg q, if_pos (show jj (-1) < (0 : Int32) by decide)]; rfl
  · split
    · rw [TRF_far (by decide) (by decide), keep_row hX.2.1 2 (by decide) (by decide)]
    · rfl
theorem played_patch {S R : St} {N : Nat} {A : Int → Int} {M W a b : Int} {em et : Sem} (hN : 4000 < N) (hX : XC S A M W em et) (hR : RC R A em et) (b1 : -2147483648 ≤ a) (b2 : a ≤ 2147483647) (b3 : -2147483648 ≤ b) (b4 : b ≤ 2147483647) : STEP2 (bnd (f_X9_patch S (jj b) (jj a)) fun q => chk (isz q.1) (some (q.1, q.2))) (bnd (f_X10_patch N R (jj b) (jj a)) fun q => chk (isz q.1) (some (q.1, q.2))) S R A M W em et := by
  by_cases h : pok A b a
  · obtain ⟨S1, e1, X1, F1⟩ := c_patch1 hX h
    obtain ⟨R1, e2, R2, F2⟩ := r_patch1 hN hX.2.1 hR h
    have hh := h.1
    refine ⟨1, S1, R1, PTF (KPF A) b a, Or.inr rfl, ?_, ?_, X1, R2, F1, F2, by rw [AGR_2 (PTF_AGR (by omega) (by omega)), keep_row hX.2.1 2 (by decide) (by decide)]⟩
    · rw [bnd_of e1]; rfl
    · rw [bnd_of e2]; rfl
  · refine ⟨0, S, R, A, Or.inl rfl, ?_, ?_, hX, hR, FX_refl _ _, FX_refl _ _, rfl⟩
    · rw [bnd_of (c_patch0 hX h b3 b4 b1 b2)]; rfl
    · rw [bnd_of (r_patch0 hX.2.1 hR h b3 b4 b1 b2)]; rfl
theorem played_turns {S R : St} {N : Nat} {A : Int → Int} {M W a : Int} {em et : Sem} (hN : 4000 < N) (hX : XC S A M W em et) (hR : RC R A em et) (hW : W + 60 < 100000000) (a0 : 0 ≤ a) (a1 : a ≤ 60) : STEP2 (bnd (f_X9_passTurns N S (jj a)) fun q => if q.1 = jj a then some ((1 : Int32), q.2) else some ((0 : Int32), q.2)) (bnd (f_X10_arePassed N R (jj a)) fun q => chk (isz q.1) (some (q.1, q.2))) S R A M (W + 60) em et := by
  obtain ⟨S1, e1, X1, F1⟩ := c_turns hN hX hW a0 a1
  obtain ⟨R1, e2, R2, F2, -⟩ := rc_turns hN hX.2.1 hR a0 a1
  have t0 := hX.2.1.1.1.2.2.2.2.2.1
  have t1 := hX.2.1.1.1.2.2.2.2.2.2.1
  refine ⟨if a ≤ 9999 - A 6 then 1 else 0, S1, R1, _, by split; exact Or.inr rfl; exact Or.inl rfl, ?_, ?_, X1, R2, F1, F2, (PTN_AGR2 _ A hX.2.1).1⟩
  · rw [bnd_of e1]
    by_cases q : a ≤ 9999 - A 6
    · rw [if_pos q, if_pos q, if_pos rfl]; rfl
    · rw [if_neg q, if_neg q, if_neg (show ¬ jj (9999 - A 6) = jj a by rw [jj_eq (by omega) (by omega) (by omega) (by omega)]; omega)]; rfl
  · rw [bnd_of e2]
    by_cases q : a ≤ 9999 - A 6
    · rw [if_pos q]; rfl
    · rw [if_neg q]; rfl
theorem STEP2_up {X Y : Option (Int32 × St)} {S R : St} {A : Int → Int} {M M' W W' : Int} {em et : Sem} (h : STEP2 X Y S R A M W em et) (hM : M ≤ M') (hb : M' ≤ 100000000) (hW : W ≤ W') : STEP2 X Y S R A M' W' em et := by
  obtain ⟨ok, S', R', A', h0, h1, h2, h3, h4⟩ := h
  exact ⟨ok, S', R', A', h0, h1, h2, XC_up h3 hM hb hW, h4⟩
theorem played_one {S R : St} {N : Nat} {A : Int → Int} {M W kd a b x : Int} {p r : Int32} {em et : Sem} (hN : 4000 < N) (hX : XC S A M W em et) (hR : RC R A em et) (hb : M + 999 ≤ 100000000) (hW : W + 60 < 100000000) (k0 : 0 ≤ kd) (k1 : kd ≤ 9) (a0 : 0 ≤ a) (a1 : a ≤ 9999) (b0 : 0 ≤ b) (b1 : b ≤ 9999) (h9 : kd = 9 → a ≤ 60) (x0 : 0 ≤ x) (x1 : x + 2 < 2724) (ex : gI R 1002 0 x.toNat = jj kd) (e2 : 2 ≤ kd → kd ≠ 7 → p = jj a ∧ gI R 1002 0 (x + 1).toNat = jj a) (e3 : (kd = 3 ∨ kd = 5 ∨ kd = 6 ∨ kd = 8) → r = jj b ∧ gI R 1002 0 (x + 2).toNat = jj b) : STEP2 (f_X9_isDone N S (jj kd) p r) (f_X10_isPlayed N R (jj x)) S R A (M + 999) (W + 60) em et := by
  have Mb := hX.2.1.1.2.2.2
  have c1 : jj x + (1 : Int32) = jj (x + 1) := by rw [jj_of, jj_add]
  have c2 : jj x + (2 : Int32) = jj (x + 2) := by rw [jj_of, jj_add]
  have n1 : (jj (x + 1)).toNatClampNeg = (x + 1).toNat := jj_nat (by omega) (by omega)
  have n2 : (jj (x + 2)).toNatClampNeg = (x + 2).toNat := jj_nat (by omega) (by omega)
  have n0 : (jj x).toNatClampNeg = x.toNat := jj_nat (by omega) (by omega)
  unfold f_X9_isDone f_X10_isPlayed
  rw [c1, c2, chk_true (jj_inb (by omega) (by omega) (by omega)), n1, n2, n0, ex]
  simp only [lt]
  rw [chk_true (jj_inb (by omega) (by omega) (by omega)), chk_true (jj_inb (by omega) (by omega) (by omega))]
  by_cases hk : 2 ≤ kd
  · have : kd = 2 ∨ kd = 3 ∨ kd = 4 ∨ kd = 5 ∨ kd = 6 ∨ kd = 7 ∨ kd = 8 ∨ kd = 9 := by omega
    rcases this with rfl | rfl | rfl | rfl | rfl | rfl | rfl | rfl
    · obtain ⟨rfl, ea⟩ := e2 (by decide) (by decide)
      rw [ea]
      rw [if_pos (show jj 2 = (2 : Int32) from rfl), if_pos (show jj 2 = (2 : Int32) from rfl)]
      exact STEP2_up (played_hand hX hR (by omega) (by omega)) (by omega) hb (by omega)
    · obtain ⟨rfl, ea⟩ := e2 (by decide) (by decide)
      obtain ⟨rfl, eb⟩ := e3 (by decide)
      rw [ea, eb]
      rw [if_neg (show ¬ jj 3 = (2 : Int32) by decide), if_pos (show jj 3 = (3 : Int32) from rfl), if_neg (show ¬ jj 3 = (2 : Int32) by decide), if_pos (show jj 3 = (3 : Int32) from rfl)]
      exact STEP2_up (played_dough hN hX hR hb (by omega) (by omega) (by omega) (by omega)) (by omega) hb (by omega)
    · obtain ⟨rfl, ea⟩ := e2 (by decide) (by decide)
      rw [ea]
      rw [if_neg (show ¬ jj 4 = (2 : Int32) by decide), if_neg (show ¬ jj 4 = (3 : Int32) by decide), if_pos (show jj 4 = (4 : Int32) from rfl), if_neg (show ¬ jj 4 = (2 : Int32) by decide), if_neg (show ¬ jj 4 = (3 : Int32) by decide), if_pos (show jj 4 = (4 : Int32) from rfl)]
      exact STEP2_up (played_town hN hX hR (by omega) (by omega)) (by omega) hb (by omega)
    · obtain ⟨rfl, ea⟩ := e2 (by decide) (by decide)
      obtain ⟨rfl, eb⟩ := e3 (by decide)
      rw [ea, eb]
      rw [if_neg (show ¬ jj 5 = (2 : Int32) by decide), if_neg (show ¬ jj 5 = (3 : Int32) by decide), if_neg (show ¬ jj 5 = (4 : Int32) by decide), if_pos (show jj 5 = (5 : Int32) from rfl), if_neg (show ¬ jj 5 = (2 : Int32) by decide), if_neg (show ¬ jj 5 = (3 : Int32) by decide), if_neg (show ¬ jj 5 = (4 : Int32) by decide), if_pos (show jj 5 = (5 : Int32) from rfl)]
      exact STEP2_up (played_stroke (rt := 0) hN hX hR (by omega) (Or.inl rfl) (by omega) (by omega) (by omega) (by omega)) (by omega) hb (by omega)
    · obtain ⟨rfl, ea⟩ := e2 (by decide) (by decide)
      obtain ⟨rfl, eb⟩ := e3 (by decide)
      rw [ea, eb]
      rw [if_neg (show ¬ jj 6 = (2 : Int32) by decide), if_neg (show ¬ jj 6 = (3 : Int32) by decide), if_neg (show ¬ jj 6 = (4 : Int32) by decide), if_neg (show ¬ jj 6 = (5 : Int32) by decide), if_pos (show jj 6 = (6 : Int32) from rfl), if_neg (show ¬ jj 6 = (2 : Int32) by decide), if_neg (show ¬ jj 6 = (3 : Int32) by decide), if_neg (show ¬ jj 6 = (4 : Int32) by decide), if_neg (show ¬ jj 6 = (5 : Int32) by decide), if_pos (show jj 6 = (6 : Int32) from rfl)]
      exact STEP2_up (played_stroke (rt := 1) hN hX hR (by omega) (Or.inr rfl) (by omega) (by omega) (by omega) (by omega)) (by omega) hb (by omega)
    · rw [if_neg (show ¬ jj 7 = (2 : Int32) by decide), if_neg (show ¬ jj 7 = (3 : Int32) by decide), if_neg (show ¬ jj 7 = (4 : Int32) by decide), if_neg (show ¬ jj 7 = (5 : Int32) by decide), if_neg (show ¬ jj 7 = (6 : Int32) by decide), if_pos (show jj 7 = (7 : Int32) from rfl), if_neg (show ¬ jj 7 = (2 : Int32) by decide), if_neg (show ¬ jj 7 = (3 : Int32) by decide), if_neg (show ¬ jj 7 = (4 : Int32) by decide), if_neg (show ¬ jj 7 = (5 : Int32) by decide), if_neg (show ¬ jj 7 = (6 : Int32) by decide), if_pos (show jj 7 = (7 : Int32) from rfl)]
      exact STEP2_up (played_trim hN hX hR) (by omega) hb (by omega)
    · obtain ⟨rfl, ea⟩ := e2 (by decide) (by decide)
      obtain ⟨rfl, eb⟩ := e3 (by decide)
      rw [ea, eb]
      rw [if_neg (show ¬ jj 8 = (2 : Int32) by decide), if_neg (show ¬ jj 8 = (3 : Int32) by decide), if_neg (show ¬ jj 8 = (4 : Int32) by decide), if_neg (show ¬ jj 8 = (5 : Int32) by decide), if_neg (show ¬ jj 8 = (6 : Int32) by decide), if_neg (show ¬ jj 8 = (7 : Int32) by decide), if_pos (show jj 8 = (8 : Int32) from rfl), if_neg (show ¬ jj 8 = (2 : Int32) by decide), if_neg (show ¬ jj 8 = (3 : Int32) by decide), if_neg (show ¬ jj 8 = (4 : Int32) by decide), if_neg (show ¬ jj 8 = (5 : Int32) by decide), if_neg (show ¬ jj 8 = (6 : Int32) by decide), if_neg (show ¬ jj 8 = (7 : Int32) by decide), if_pos (show jj 8 = (8 : Int32) from rfl)]
      exact STEP2_up (played_patch hN hX hR (by omega) (by omega) (by omega) (by omega)) (by omega) hb (by omega)
    · obtain ⟨rfl, ea⟩ := e2 (by decide) (by decide)
      rw [ea]
      rw [if_neg (show ¬ jj 9 = (2 : Int32) by decide), if_neg (show ¬ jj 9 = (3 : Int32) by decide), if_neg (show ¬ jj 9 = (4 : Int32) by decide), if_neg (show ¬ jj 9 = (5 : Int32) by decide), if_neg (show ¬ jj 9 = (6 : Int32) by decide), if_neg (show ¬ jj 9 = (7 : Int32) by decide), if_neg (show ¬ jj 9 = (8 : Int32) by decide), if_pos (show jj 9 = (9 : Int32) from rfl), if_neg (show ¬ jj 9 = (2 : Int32) by decide), if_neg (show ¬ jj 9 = (3 : Int32) by decide), if_neg (show ¬ jj 9 = (4 : Int32) by decide), if_neg (show ¬ jj 9 = (5 : Int32) by decide), if_neg (show ¬ jj 9 = (6 : Int32) by decide), if_neg (show ¬ jj 9 = (7 : Int32) by decide), if_neg (show ¬ jj 9 = (8 : Int32) by decide), if_pos (show jj 9 = (9 : Int32) from rfl)]
      exact STEP2_up (played_turns hN hX hR hW a0 (h9 rfl)) (by omega) hb (by omega)
  · have : kd = 0 ∨ kd = 1 := by omega
    refine ⟨1, S, R, A, Or.inr rfl, ?_, ?_, XC_up hX (by omega) hb (by omega), hR, FX_refl _ _, FX_refl _ _, rfl⟩
    · rcases this with rfl | rfl
      · rw [if_neg (show ¬ jj 0 = (2 : Int32) by decide), if_neg (show ¬ jj 0 = (3 : Int32) by decide), if_neg (show ¬ jj 0 = (4 : Int32) by decide), if_neg (show ¬ jj 0 = (5 : Int32) by decide), if_neg (show ¬ jj 0 = (6 : Int32) by decide), if_neg (show ¬ jj 0 = (7 : Int32) by decide), if_neg (show ¬ jj 0 = (8 : Int32) by decide), if_neg (show ¬ jj 0 = (9 : Int32) by decide)]
        rfl
      · rw [if_neg (show ¬ jj 1 = (2 : Int32) by decide), if_neg (show ¬ jj 1 = (3 : Int32) by decide), if_neg (show ¬ jj 1 = (4 : Int32) by decide), if_neg (show ¬ jj 1 = (5 : Int32) by decide), if_neg (show ¬ jj 1 = (6 : Int32) by decide), if_neg (show ¬ jj 1 = (7 : Int32) by decide), if_neg (show ¬ jj 1 = (8 : Int32) by decide), if_neg (show ¬ jj 1 = (9 : Int32) by decide)]
        rfl
    · rcases this with rfl | rfl
      · rw [if_neg (show ¬ jj 0 = (2 : Int32) by decide), if_neg (show ¬ jj 0 = (3 : Int32) by decide), if_neg (show ¬ jj 0 = (4 : Int32) by decide), if_neg (show ¬ jj 0 = (5 : Int32) by decide), if_neg (show ¬ jj 0 = (6 : Int32) by decide), if_neg (show ¬ jj 0 = (7 : Int32) by decide), if_neg (show ¬ jj 0 = (8 : Int32) by decide), if_neg (show ¬ jj 0 = (9 : Int32) by decide)]
        rfl
      · rw [if_neg (show ¬ jj 1 = (2 : Int32) by decide), if_neg (show ¬ jj 1 = (3 : Int32) by decide), if_neg (show ¬ jj 1 = (4 : Int32) by decide), if_neg (show ¬ jj 1 = (5 : Int32) by decide), if_neg (show ¬ jj 1 = (6 : Int32) by decide), if_neg (show ¬ jj 1 = (7 : Int32) by decide), if_neg (show ¬ jj 1 = (8 : Int32) by decide), if_neg (show ¬ jj 1 = (9 : Int32) by decide)]
        rfl
