/-! THE READER: choices, ones, all. -/
theorem m_choice {K : Ks} {rec : Nat → Int32 → Int32 → St → Option (Int32 × St)} {N o : Nat} (hT : TS K) (ho : o ≤ 8) (h4 : ∀ S i p, CT K S i p → p < i → wp (rec 4 (jj K.2.2.2.2) (jj (o : Int)) S) (OUT K S i p (6 + 5 * (8 - o)) (RFb K 0 5 o i) (RO4 K o i))) (h0 : ∀ S i p, CT K S i p → p < i → wp (rec 0 (jj K.2.2.2.2) (jj (o : Int)) S) (OUT K S i p (3 + 5 * (8 - o)) (RFv K 4 2 o i) (RO0 K o i))) : ∀ S i p, CT K S i p → p < i → wp (fg_X1_choice rec N S (jj K.2.2.2.2) (jj (o : Int))) (OUT K S i p (6 + 5 * (8 - o)) (RF3 K o i) (RO3 K o i)) := by
  intro S i p hC hp
  have nt := hT.2.1
  unfold fg_X1_choice
  refine wp_call (h4 S i p hC hp) ?_
  intro ⟨v, S1⟩ hv
  rcases hv with ⟨v0, f, jf, hfl, hrf⟩ | ⟨v1, j1, q1, E0, hok, hro⟩
  · simp only at v0 hfl
    rw [v0, if_pos rfl]
    exact wp_some (Or.inl ⟨rfl, f, jf, hfl, fun P D hc => hrf (41 :: P) D hc ahd_41 (CR_cons (by decide))⟩)
  simp only at v1 hok
  have qj1 := OKC_pq hok hp
  obtain ⟨C1, l1, pq1, le1, F1, bu1, sg1⟩ := id hok
  have jn1 := C1.2.1
  rw [v1, if_neg (show ¬ (1 : Int32) = 0 by decide)]
  -- what the reference has done when the asking is over
  have refA : ∀ P D, CX (41 :: P) o 5 → ∃ D1 Q, SB (D1 ++ zs Q) E0 ∧ opn (Q ++ 41 :: P) = 41 ∧ cmpd (Q ++ 41 :: P) = 1 ∧ btw (Q ++ 41 :: P) (K.1 j1) = -1 ∧ stl 1 (Q ++ 41 :: P) (D ++ D1) ((o : Int) + nots Q) = (41 :: P, D ++ (D1 ++ zs Q), (o : Int)) ∧ GO K (41 :: P, D, (o : Int)) 0 i (Q ++ 41 :: P, D ++ D1, (o : Int) + nots Q) 1 j1 := by
    intro P D hc
    obtain ⟨D1, Q, hQ, c1, m1, g1⟩ := hro.1.2.2 (41 :: P) D hc ahd_41 (CR_cons (by decide))
    have h1 : opn (Q ++ 41 :: P) = 41 := (opn_app Q hQ).trans (opn_op (by decide))
    refine ⟨D1, Q, m1, h1, c1, btw_c h1 c1 hro.1.2.1 hro.2.1 hro.2.2, ?_, g1⟩
    rw [stl_app Q _ _ hQ, stl_stop (by decide), List.append_assoc]
  by_cases t1 : ¬ K.1 j1 = 12
  · obtain ⟨S2, e2, fl⟩ := c_takes0 (k := 12) hT C1 qj1 t1 (by decide) (by decide)
    have e2 : f_X1_takes S1 12 = some (0, S2) := e2
    rw [bnd_of e2, if_pos rfl]
    refine wp_some (Or.inl ⟨rfl, 1, j1, FLC_trans F1 fl, fun P D hc => ?_⟩)
    obtain ⟨D1, Q, m1, h1, c1, b1, s1, g1⟩ := refA P D hc
    refine GO_FT g1 (ft_behind (by rw [b1]; decide) ?_ (by rw [h1]; decide))
    unfold ptk
    rw [if_neg (by omega), if_pos h1, if_neg t1]
    decide
  have t1 : K.1 j1 = 12 := Decidable.byContradiction t1
  obtain ⟨S2, e2, C2, F2, b2⟩ := c_takes1 (k := 12) hT C1 t1 (by decide)
  have e2 : f_X1_takes S1 12 = some (1, S2) := e2
  have jn2 := C2.2.1
  obtain ⟨S3, e3, C3, F3, nb3, at3⟩ := c_add (k := 43) (g := 0) C2 (by omega)
  have e3 : f_X1_add S2 43 0 = some S3 := e3
  rw [bnd_of e2, if_neg (show ¬ (1 : Int32) = 0 by decide)]
  simp only [lt]
  rw [C2.2.2.2.2, bnd_of e3]
  have refB : ∀ P D, CX (41 :: P) o 5 → ∃ D1, SB D1 E0 ∧ GO K (41 :: P, D, (o : Int)) 0 i (42 :: P, D ++ D1, (o : Int)) 0 (j1 + 1) := by
    intro P D hc
    obtain ⟨D1, Q, m1, h1, c1, b1, s1, g1⟩ := refA P D hc
    refine ⟨D1 ++ zs Q, m1, GO_trans g1 (go_part (x := 41) (by rw [b1]; decide) ?_ (by decide) s1)⟩
    unfold ptk
    rw [if_neg (by omega), if_pos h1, if_pos t1, c1]
    rfl
  have F03 := FX_trans F1 (FX_trans F2 F3)
  refine wp_call (h0 S3 (j1 + 1) (q1 + 1) C3 (by omega)) ?_
  intro ⟨w, S4⟩ hw
  have c42 : ∀ P, CX (41 :: P) o 5 → ∀ x : Int, CX (x :: P) o 2 := fun P hc x => ⟨by have := hc.1; simp only [List.length_cons] at this ⊢; omega, ho⟩
  rcases hw with ⟨w0, f, jf, hfl, hrf⟩ | ⟨w1, j2, q2, E1, hok2, hro2⟩
  · simp only at w0 hfl
    rw [w0, if_pos rfl]
    refine wp_some (Or.inl ⟨rfl, f, jf, FLC_trans F03 hfl, fun P D hc => ?_⟩)
    obtain ⟨D1, -, g1⟩ := refB P D hc
    exact GO_FT g1 (hrf (42 :: P) _ (c42 P hc 42) (CR_cons (by decide)) (Or.inr (ahd_op (by decide) (by decide))))
  simp only at w1 hok2
  have qj2 := OKC_pq hok2 (by omega)
  obtain ⟨C4, l4, pq4, le4, F4, bu4, sg4⟩ := id hok2
  have jn4 := C4.2.1
  rw [w1, if_neg (show ¬ (1 : Int32) = 0 by decide)]
  have refC : ∀ P D, CX (41 :: P) o 5 → ∃ D1 D2 Q, SB D1 E0 ∧ SM (D2 ++ zs Q) E1 ∧ opn (Q ++ 42 :: P) = 42 ∧ stl 1 (Q ++ 42 :: P) (D ++ D1 ++ D2) (o : Int) = (42 :: P, D ++ D1 ++ D2 ++ zs Q, (o : Int)) ∧ GO K (41 :: P, D, (o : Int)) 0 i (Q ++ 42 :: P, D ++ D1 ++ D2, (o : Int)) 1 j2 := by
    intro P D hc
    obtain ⟨D1, m1, g1⟩ := refB P D hc
    obtain ⟨D2, Q, hQ, m2, g2⟩ := hro2.1.2 (42 :: P) (D ++ D1) (c42 P hc 42) (CR_cons (by decide)) (Or.inr (ahd_op (by decide) (by decide)))
    have a := aft_sum (P := P) (D := D ++ D1 ++ D2) (o := (o : Int)) (x := 42) hQ (by decide)
    exact ⟨D1, D2, Q, m1, m2, a.1, a.2, GO_trans g1 g2⟩
  have F04 := FX_trans F03 F4
  by_cases t2 : ¬ K.1 j2 = 13
  · obtain ⟨S5, e5, fl⟩ := c_takes0 (k := 13) hT C4 qj2 t2 (by decide) (by decide)
    have e5 : f_X1_takes S4 13 = some (0, S5) := e5
    rw [bnd_of e5, if_pos rfl]
    refine wp_some (Or.inl ⟨rfl, 1, j2, FLC_trans F04 fl, fun P D hc => ?_⟩)
    obtain ⟨D1, D2, Q, m1, m2, h1, s1, g1⟩ := refC P D hc
    refine GO_FT g1 (ft_behind (by rw [btw_n (by omega) hro2.2]; decide) ?_ (by rw [h1]; decide))
    unfold ptk
    rw [if_neg (by omega), if_neg (by omega), if_pos h1, if_neg t2]
    decide
  have t2 : K.1 j2 = 13 := Decidable.byContradiction t2
  obtain ⟨S5, e5, C5, F5, b5⟩ := c_takes1 (k := 13) hT C4 t2 (by decide)
  have e5 : f_X1_takes S4 13 = some (1, S5) := e5
  have jn5 := C5.2.1
  obtain ⟨S6, e6, C6, F6, nb6, at6⟩ := c_add (k := 44) (g := 0) C5 (by omega)
  have e6 : f_X1_add S5 44 0 = some S6 := e6
  obtain ⟨S7, e7, C7, F7, nb7, at7⟩ := c_land (k := 43) (q := q1) C6 (by omega)
  have e7 : f_X1_land S6 (jj q1) 43 = some S7 := e7
  rw [bnd_of e5, if_neg (show ¬ (1 : Int32) = 0 by decide)]
  simp only [lt]
  rw [C5.2.2.2.2, bnd_of e6, bnd_of e7]
  have refD : ∀ P D, CX (41 :: P) o 5 → ∃ D1 D2, SB D1 E0 ∧ SM D2 E1 ∧ GO K (41 :: P, D, (o : Int)) 0 i (43 :: P, D ++ D1 ++ D2, (o : Int)) 0 (j2 + 1) := by
    intro P D hc
    obtain ⟨D1, D2, Q, m1, m2, h1, s1, g1⟩ := refC P D hc
    refine ⟨D1, D2 ++ zs Q, m1, m2, GO_trans g1 (go_part (x := 42) (by rw [btw_n (by omega) hro2.2]; decide) ?_ (by decide) (by rw [s1, List.append_assoc (D ++ D1) D2]))⟩
    unfold ptk
    rw [if_neg (by omega), if_neg (by omega), if_pos h1, if_pos t2]
  have F07 := FX_trans F04 (FX_trans F5 (FX_trans F6 F7))
  refine wp_call (h0 S7 (j2 + 1) (q2 + 1) C7 (by omega)) ?_
  intro ⟨u, S8⟩ hu
  rcases hu with ⟨u0, f, jf, hfl, hrf⟩ | ⟨u1, j3, q3, E2, hok3, hro3⟩
  · simp only at u0 hfl
    rw [u0, if_pos rfl]
    refine wp_some (Or.inl ⟨rfl, f, jf, FLC_trans F07 hfl, fun P D hc => ?_⟩)
    obtain ⟨D1, D2, -, -, g1⟩ := refD P D hc
    exact GO_FT g1 (hrf (43 :: P) _ (c42 P hc 43) (CR_cons (by decide)) (Or.inr (ahd_op (by decide) (by decide))))
  simp only at u1 hok3
  have qj3 := OKC_pq hok3 (by omega)
  obtain ⟨C8, l8, pq8, le8, F8, bu8, sg8⟩ := id hok3
  have jn8 := C8.2.1
  rw [u1, if_neg (show ¬ (1 : Int32) = 0 by decide)]
  have refE : ∀ P D, CX (41 :: P) o 5 → ∃ D1 D2 D3 Q, SB D1 E0 ∧ SM D2 E1 ∧ SM (D3 ++ zs Q) E2 ∧ opn (Q ++ 43 :: P) = 43 ∧ stl 1 (Q ++ 43 :: P) (D ++ D1 ++ D2 ++ D3) (o : Int) = (43 :: P, D ++ D1 ++ D2 ++ D3 ++ zs Q, (o : Int)) ∧ GO K (41 :: P, D, (o : Int)) 0 i (Q ++ 43 :: P, D ++ D1 ++ D2 ++ D3, (o : Int)) 1 j3 := by
    intro P D hc
    obtain ⟨D1, D2, m1, m2, g1⟩ := refD P D hc
    obtain ⟨D3, Q, hQ, m3, g3⟩ := hro3.1.2 (43 :: P) (D ++ D1 ++ D2) (c42 P hc 43) (CR_cons (by decide)) (Or.inr (ahd_op (by decide) (by decide)))
    have a := aft_sum (P := P) (D := D ++ D1 ++ D2 ++ D3) (o := (o : Int)) (x := 43) hQ (by decide)
    exact ⟨D1, D2, D3, Q, m1, m2, m3, a.1, a.2, GO_trans g1 g3⟩
  by_cases t3 : ¬ K.1 j3 = 14
  · obtain ⟨S9, e9, fl⟩ := c_takes0 (k := 14) hT C8 qj3 t3 (by decide) (by decide)
    have e9 : f_X1_takes S8 14 = some (0, S9) := e9
    rw [bnd_of e9, if_pos rfl]
    refine wp_some (Or.inl ⟨rfl, 1, j3, FLC_trans (FX_trans F07 F8) fl, fun P D hc => ?_⟩)
    obtain ⟨D1, D2, D3, Q, m1, m2, m3, h1, s1, g1⟩ := refE P D hc
    refine GO_FT g1 (ft_behind (by rw [btw_n (by omega) hro3.2]; decide) ?_ (by rw [h1]; decide))
    unfold ptk
    rw [if_neg (by omega), if_neg (by omega), if_neg (by omega), if_pos h1, if_neg t3]
    decide
  have t3 : K.1 j3 = 14 := Decidable.byContradiction t3
  obtain ⟨S9, e9, C9, F9, b9⟩ := c_takes1 (k := 14) hT C8 t3 (by decide)
  have e9 : f_X1_takes S8 14 = some (1, S9) := e9
  have jn9 := C9.2.1
  obtain ⟨S10, e10, C10, F10, nb10, at10⟩ := c_land (k := 44) (q := q2) C9 (by omega)
  have e10 : f_X1_land S9 (jj q2) 44 = some S10 := e10
  rw [bnd_of e9, if_neg (show ¬ (1 : Int32) = 0 by decide), bnd_of e10]
  have x10 : ∀ z, z ≠ q2 → gI S10 108 0 z = gI S8 108 0 z := fun z hz => by rw [nb10 z hz, b9]
  have x7 : ∀ z, z < q2 → z ≠ q1 → gI S10 108 0 z = gI S4 108 0 z := fun z hz hz2 => by rw [x10 z (by omega), bu8 z (by omega), nb7 z hz2, nb6 z (by omega), b5]
  have x1 : ∀ z, z < q1 → gI S10 108 0 z = gI S1 108 0 z := fun z hz => by rw [x7 z (by omega) (by omega), bu4 z (by omega), nb3 z (by omega), b2]
  refine wp_some (Or.inr ⟨rfl, j3 + 1, q3, (fun nv cs => sel (E0 nv cs) (E1 nv cs) (E2 nv cs)), ⟨C10, by omega, by omega, by omega, FX_trans F07 (FX_trans F8 (FX_trans F9 F10)), fun z hz => (x1 z (by omega)).trans (bu1 z hz), ?_⟩, fun nv cs hE => ?_, fun P D hc => ?_⟩)
  · exact SEG_if (SEG_congr sg1 (fun z z1 z2 => x1 z z2)) (SEG_congr sg4 (fun z z1 z2 => x7 z z2 (by omega))) (SEG_congr sg8 (fun z z1 z2 => x10 z (by omega))) (by omega) (by omega) (by omega) (by omega) (BT_BV hro.1.1) ((x10 q1 (by omega)).trans ((bu8 q1 (by omega)).trans at7)) at10 (by omega)
  · show -100000000 ≤ sel (E0 nv cs) (E1 nv cs) (E2 nv cs) ∧ sel (E0 nv cs) (E1 nv cs) (E2 nv cs) ≤ 100000000
    unfold sel
    split
    · exact hro3.1.1 nv cs hE
    · exact hro2.1.1 nv cs hE
  · obtain ⟨D1, D2, D3, Q, m1, m2, m3, h1, s1, g1⟩ := refE P D hc
    have g := go_shut (K := K) (i := j3) (by rw [btw_n (by omega) hro3.2]; decide) (by
      unfold ptk
      rw [if_neg (by omega), if_neg (by omega), if_neg (by omega), if_pos h1, if_pos t3]) s1
    rw [if_pos h1] at g
    refine ⟨D1 ++ D2 ++ (D3 ++ zs Q) ++ [(3, 0)], SM_if m1 m2 m3, GO_trans g1 ?_⟩
    rw [show D ++ (D1 ++ D2 ++ (D3 ++ zs Q) ++ [(3, 0)]) = D ++ D1 ++ D2 ++ D3 ++ zs Q ++ [(3, 0)] by simp]
    exact g
