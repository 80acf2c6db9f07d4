/-! THE READER: what is read, mode by mode. -/
theorem btw_c {P : List Int} {k : Int} (h : opn P = 41) (h2 : cmpd P = 1) (h3 : k ≠ 34 ∧ k ≠ 35 ∧ k ≠ 32 ∧ k ≠ 33) (h4 : k ≠ 25) (h5 : k ≠ 24) : btw P k = -1 := by
  unfold btw
  rw [if_neg h3.2.2.1, if_neg h3.2.2.2, if_neg h3.1, if_neg h3.2.1, if_pos h, h2, if_neg (by decide), if_neg h4, if_neg h5]
theorem btw_n {P : List Int} {k : Int} (h : opn P ≠ 41) (h3 : k ≠ 34 ∧ k ≠ 35 ∧ k ≠ 32 ∧ k ≠ 33) : btw P k = -1 := by
  unfold btw
  rw [if_neg h3.2.2.1, if_neg h3.2.2.2, if_neg h3.1, if_neg h3.2.1, if_neg h]
theorem aft_sum {P Q : List Int} {D : List (Int × Int)} {o x : Int} (hQ : bin 6 Q) (hx : 40 ≤ x) : opn (Q ++ x :: P) = x ∧ stl 1 (Q ++ x :: P) D o = (x :: P, D ++ zs Q, o) := by
  refine ⟨(opn_bin hQ (by decide)).trans (opn_op hx), ?_⟩
  rw [stl_bin hQ (by decide) (by decide), stl_stop (by rw [rk_op hx]; decide)]
theorem OKC_mono {K : Ks} {S S' : St} {i p j q d d' : Nat} {E : Sm} (h : OKC K S S' i p j q d E) (hd : d ≤ d') : OKC K S S' i p j q d' E := ⟨h.1, h.2.1, h.2.2.1, h.2.2.2.1, h.2.2.2.2.1, h.2.2.2.2.2.1, SEG_mono h.2.2.2.2.2.2 hd⟩
theorem OKC_pq {K : Ks} {S S' : St} {i p j q d : Nat} {E : Sm} (h : OKC K S S' i p j q d E) (hp : p < i) : q < j := by have := h.2.2.2.1; omega
theorem m_product {K : Ks} {rec : Nat → Int32 → Int32 → St → Option (Int32 × St)} {N o : Nat} (hT : TS K) (ho : o ≤ 8) (hN : 400 < N) (h : ∀ S i p, CT K S i p → p < i → wp (rec 2 (jj K.2.2.2.2) (jj (o : Int)) S) (OUT K S i p (1 + 5 * (8 - o)) (RF1 K o i) (RO1 K o i))) : ∀ S i p, CT K S i p → p < i → wp (fg_X1_product rec N S (jj K.2.2.2.2) (jj (o : Int))) (OUT K S i p (2 + 5 * (8 - o)) (RFv K 5 1 o i) (RO2 K o i)) := by
  intro S i p hC hp
  have nt := hT.2.1
  unfold fg_X1_product
  refine wp_call (h S i p hC hp) ?_
  intro ⟨v, S1⟩ hv
  show wp (f_X1_product_b10 rec N N (jj K.2.2.2.2) (jj (o : Int)) v 0 S1) _
  rcases hv with ⟨v0, f, jf, hfl, hrf⟩ | ⟨v1, j, q, E, hok, hro⟩
  · simp only at v0 hfl
    obtain ⟨N', rfl⟩ : ∃ N', N = N' + 1 := ⟨N - 1, by omega⟩
    rw [v0, pz_product]
    exact wp_some (Or.inl ⟨rfl, f, jf, hfl, fun P D hc hr h21 => hrf P D ⟨by have := hc.1; omega, ho⟩ h21⟩)
  · simp only at v1 hok
    rw [v1]
    refine lp_product hT ho h hp N S1 j q E 0 (OKC_mono hok (by omega)) ⟨hro.1, fun P D hc hr h21 => ?_⟩ (by omega) (by have := hok.2.1; omega)
    obtain ⟨D1, m1, g1⟩ := hro.2 P D ⟨by have := hc.1; omega, ho⟩ h21
    rw [stl_CR hr (by decide)] at g1
    exact ⟨D1, [], fun x hx => absurd hx List.not_mem_nil, by rw [show zs [] = [] from rfl, List.append_nil]; exact m1, g1⟩
theorem m_sum {K : Ks} {rec : Nat → Int32 → Int32 → St → Option (Int32 × St)} {N o : Nat} (hT : TS K) (ho : o ≤ 8) (hN : 400 < N) (h : ∀ S i p, CT K S i p → p < i → wp (rec 1 (jj K.2.2.2.2) (jj (o : Int)) S) (OUT K S i p (2 + 5 * (8 - o)) (RFv K 5 1 o i) (RO2 K o i))) : ∀ S i p, CT K S i p → p < i → wp (fg_X1_sum rec N S (jj K.2.2.2.2) (jj (o : Int))) (OUT K S i p (3 + 5 * (8 - o)) (RFv K 4 2 o i) (RO0 K o i)) := by
  intro S i p hC hp
  have nt := hT.2.1
  unfold fg_X1_sum
  refine wp_call (h S i p hC hp) ?_
  intro ⟨v, S1⟩ hv
  show wp (f_X1_sum_b10 rec N N (jj K.2.2.2.2) (jj (o : Int)) v 0 S1) _
  rcases hv with ⟨v0, f, jf, hfl, hrf⟩ | ⟨v1, j, q, E, hok, hro⟩
  · simp only at v0 hfl
    obtain ⟨N', rfl⟩ : ∃ N', N = N' + 1 := ⟨N - 1, by omega⟩
    rw [v0, pz_sum]
    exact wp_some (Or.inl ⟨rfl, f, jf, hfl, fun P D hc hr h21 => hrf P D ⟨by have := hc.1; omega, ho⟩ (CR_mono hr (by decide)) h21⟩)
  · simp only at v1 hok
    rw [v1]
    refine lp_sum hT ho h hp N S1 j q E 0 (OKC_mono hok (by omega)) ⟨hro.1.1, fun P D hc hr h21 => ?_⟩ hro.2 (by omega) (by have := hok.2.1; omega)
    obtain ⟨D1, Q, hQ, m1, g1⟩ := hro.1.2 P D ⟨by have := hc.1; omega, ho⟩ (CR_mono hr (by decide)) h21
    exact ⟨D1, Q, bin_mono hQ (by decide), m1, g1⟩
theorem m_both {K : Ks} {rec : Nat → Int32 → Int32 → St → Option (Int32 × St)} {N o : Nat} (hT : TS K) (ho : o ≤ 8) (hN : 400 < N) (h : ∀ S i p, CT K S i p → p < i → wp (rec 6 (jj K.2.2.2.2) (jj (o : Int)) S) (OUT K S i p (4 + 5 * (8 - o)) (RFb K 3 3 o i) (RO6 K o i))) : ∀ S i p, CT K S i p → p < i → wp (fg_X1_both rec N S (jj K.2.2.2.2) (jj (o : Int))) (OUT K S i p (5 + 5 * (8 - o)) (RFb K 1 4 o i) (RO5 K o i)) := by
  intro S i p hC hp
  have nt := hT.2.1
  unfold fg_X1_both
  refine wp_call (h S i p hC hp) ?_
  intro ⟨v, S1⟩ hv
  show wp (f_X1_both_b10 rec N N (jj K.2.2.2.2) (jj (o : Int)) v 0 S1) _
  rcases hv with ⟨v0, f, jf, hfl, hrf⟩ | ⟨v1, j, q, E, hok, hro⟩
  · simp only at v0 hfl
    obtain ⟨N', rfl⟩ : ∃ N', N = N' + 1 := ⟨N - 1, by omega⟩
    rw [v0, pz_both]
    exact wp_some (Or.inl ⟨rfl, f, jf, hfl, fun P D hc ha hr => hrf P D ⟨by have := hc.1; omega, ho⟩ ha (CR_mono hr (by decide))⟩)
  · simp only at v1 hok
    rw [v1]
    refine lp_both hT ho h hp N S1 j q E 0 (OKC_mono hok (by omega)) ⟨hro.1, hro.2.1, fun P D hc ha hr => ?_⟩ (by omega) (by have := hok.2.1; omega)
    obtain ⟨D1, Q, hQ, c1, m1, g1⟩ := hro.2.2 P D ⟨by have := hc.1; omega, ho⟩ ha (CR_mono hr (by decide))
    exact ⟨D1, Q, fun x hx => by have := hQ x hx; omega, c1, m1, g1⟩
theorem m_either {K : Ks} {rec : Nat → Int32 → Int32 → St → Option (Int32 × St)} {N o : Nat} (hT : TS K) (ho : o ≤ 8) (hN : 400 < N) (h : ∀ S i p, CT K S i p → p < i → wp (rec 5 (jj K.2.2.2.2) (jj (o : Int)) S) (OUT K S i p (5 + 5 * (8 - o)) (RFb K 1 4 o i) (RO5 K o i))) : ∀ S i p, CT K S i p → p < i → wp (fg_X1_either rec N S (jj K.2.2.2.2) (jj (o : Int))) (OUT K S i p (6 + 5 * (8 - o)) (RFb K 0 5 o i) (RO4 K o i)) := by
  intro S i p hC hp
  have nt := hT.2.1
  unfold fg_X1_either
  refine wp_call (h S i p hC hp) ?_
  intro ⟨v, S1⟩ hv
  show wp (f_X1_either_b10 rec N N (jj K.2.2.2.2) (jj (o : Int)) v 0 S1) _
  rcases hv with ⟨v0, f, jf, hfl, hrf⟩ | ⟨v1, j, q, E, hok, hro⟩
  · simp only at v0 hfl
    obtain ⟨N', rfl⟩ : ∃ N', N = N' + 1 := ⟨N - 1, by omega⟩
    rw [v0, pz_either]
    exact wp_some (Or.inl ⟨rfl, f, jf, hfl, fun P D hc ha hr => hrf P D ⟨by have := hc.1; omega, ho⟩ ha (CR_mono hr (by decide))⟩)
  · simp only at v1 hok
    rw [v1]
    refine lp_either hT ho h hp N S1 j q E 0 (OKC_mono hok (by omega)) ⟨hro.1.1, hro.1.2.1, fun P D hc ha hr => ?_⟩ hro.2 (by omega) (by have := hok.2.1; omega)
    obtain ⟨D1, Q, hQ, c1, m1, g1⟩ := hro.1.2.2 P D ⟨by have := hc.1; omega, ho⟩ ha (CR_mono hr (by decide))
    exact ⟨D1, Q, fun x hx => by have := hQ x hx; omega, c1, m1, g1⟩
/-- opening -/
theorem c_opens1 {K : Ks} {S : St} {i p o : Nat} (hT : TS K) (hC : CT K S i p) (h : K.1 i ≠ 40) (ho : o < 8) : ∃ S', f_X1_opens S (jj (o : Int)) = some (1, S') ∧ CT K S' (i + 1) p ∧ FX CPG S S' ∧ ∀ k, gI S' 108 0 k = gI S 108 0 k := by
  obtain ⟨S', e, a, b, c⟩ := c_adv hT hC h
  refine ⟨S', ?_, a, b, c⟩
  unfold f_X1_opens
  rw [if_pos (show jj (o : Int) < (8 : Int32) by rw [show (8 : Int32) = jj 8 from rfl, jj_lt (by omega) (by omega) (by decide) (by decide)]; omega), bnd_of e]
theorem c_opens0 {K : Ks} {S : St} {i p : Nat} (hT : TS K) (hC : CT K S i p) (hp : p < i) : ∃ S', f_X1_opens S (jj ((8 : Nat) : Int)) = some (0, S') ∧ FLC K S S' 3 i := by
  obtain ⟨S', e, h2⟩ := c_faulty (x := 3) (f := 3) hT hC hp rfl (by decide) (by decide)
  refine ⟨S', ?_, h2⟩
  unfold f_X1_opens
  rw [if_neg (show ¬ jj ((8 : Nat) : Int) < (8 : Int32) by decide)]
  exact e
theorem m_ask {K : Ks} {rec : Nat → Int32 → Int32 → St → Option (Int32 × St)} {N o : Nat} (hT : TS K) (ho : o ≤ 8) (h6 : o < 8 → ∀ S i p, CT K S i p → p < i → wp (rec 6 (jj K.2.2.2.2) (jj ((o + 1 : Nat) : Int)) S) (OUT K S i p (4 + 5 * (8 - (o + 1))) (RFb K 3 3 (o + 1) i) (RO6 K (o + 1) i))) (h0 : ∀ S i p, CT K S i p → p < i → wp (rec 0 (jj K.2.2.2.2) (jj (o : Int)) S) (OUT K S i p (3 + 5 * (8 - o)) (RFv K 4 2 o i) (RO0 K o i))) : ∀ S i p, CT K S i p → p < i → wp (fg_X1_ask rec N S (jj K.2.2.2.2) (jj (o : Int))) (OUT K S i p (4 + 5 * (8 - o)) (RFb K 3 3 o i) (RO6 K o i)) := by
  intro S i p hC hp
  have nt := hT.2.1
  have kb := hT.2.2.2.2.1 i
  unfold fg_X1_ask
  rw [hC.2.2.2.1]
  have j21 : (jj (K.1 i) = (21 : Int32)) = (K.1 i = 21) := jj_eq (b := 21) (by omega) (by omega) (by decide) (by decide)
  by_cases q21 : K.1 i = 21
  · rw [if_pos (j21.mpr q21)]
    have opq : ∀ P : List Int, ahd P = 1 → opc P (K.1 i) = 20 := by
      intro P ha
      rw [q21]
      unfold opc
      rw [if_neg (by decide), if_neg (by decide), if_neg (by decide), if_neg (by decide), if_neg (by decide), if_pos rfl, if_neg (by omega)]
    have nm : nmo (K.1 i) < 0 := by rw [q21]; decide
    by_cases o8 : o < 8
    · obtain ⟨S1, e1, C1, F1, b1⟩ := c_opens1 hT hC (by omega) o8
      have jn1 := C1.2.1
      rw [bnd_of e1, if_neg (by show ¬ (1 : Int32) = 0; decide), show jj (o : Int) + (1 : Int32) = jj ((o + 1 : Nat) : Int) from jn_add o 1]
      have ref : ∀ P D, CX P o 3 → ahd P = 1 → GO K (P, D, (o : Int)) 0 i (20 :: P, D, ((o + 1 : Nat) : Int)) 0 (i + 1) := by
        intro P D hc ha
        have := go_open (K := K) (P := P) (D := D) (o := (o : Int)) (i := i) (by omega) nm (by rw [opq P ha]; decide) (by omega) (by have := hc.1; omega)
        rw [opq P ha] at this
        exact this
      refine wp_call (h6 o8 S1 (i + 1) p C1 (by omega)) ?_
      intro ⟨v, S2⟩ hv
      rcases hv with ⟨v0, f, jf, hfl, hrf⟩ | ⟨v1, j, q, E, hok, hro⟩
      · simp only at v0 hfl
        rw [v0, if_pos rfl]
        exact wp_some (Or.inl ⟨rfl, f, jf, FLC_trans F1 hfl, fun P D hc ha hr => GO_FT (ref P D hc ha) (hrf (20 :: P) D ⟨by have := hc.1; simp only [List.length_cons]; omega, by omega⟩ (ahd_lo (by decide) (by decide) (ahd_opn ha)) (CR_cons (by decide)))⟩)
      · simp only at v1 hok
        have qj := OKC_pq hok (by omega)
        obtain ⟨C2, l2, pq2, le2, F2, bu2, sg2⟩ := id hok
        have jn2 := C2.2.1
        obtain ⟨S3, e3, C3, F3, nb3, at3⟩ := c_add (k := 21) (g := 0) C2 (by omega)
        have e3 : f_X1_add S2 21 0 = some S3 := e3
        rw [v1, if_neg (show ¬ (1 : Int32) = 0 by decide), bnd_of e3]
        refine wp_some (Or.inr ⟨rfl, j, q + 1, _, ⟨C3, by omega, by omega, by omega, FX_trans F1 (FX_trans F2 F3), fun z hz => by rw [nb3 z (by omega), bu2 z hz, b1], SEG_mono (SEG_chg (k := 21) (SEG_congr sg2 (fun z z1 z2 => nb3 z (by omega))) (by omega) (BT_BV hro.1) at3 (Or.inl rfl)) (by omega)⟩, fun nv cs _ => nop_b _, hro.2.1, fun P D hc ha hr => ?_⟩)
        obtain ⟨D2, Q2, hQ2, c2, m2, g2⟩ := hro.2.2 (20 :: P) D ⟨by have := hc.1; simp only [List.length_cons]; omega, by omega⟩ (ahd_lo (by decide) (by decide) (ahd_opn ha)) (CR_cons (by decide))
        refine ⟨D2, Q2 ++ [20], fun x hx => ?_, by rw [List.append_assoc]; exact c2, ?_, GO_trans (ref P D hc ha) ?_⟩
        · rcases List.mem_append.mp hx with z | z
          · exact hQ2 x z
          · rw [List.mem_singleton.mp z]; decide
        · rw [zs_app, ← List.append_assoc]
          exact SB_not m2
        · rw [nots_app, show nots [20] = 1 from rfl, List.append_assoc, show (o : Int) + (nots Q2 + 1) = ((o + 1 : Nat) : Int) + nots Q2 by omega]
          exact g2
    · have o8 : o = 8 := by omega
      subst o8
      obtain ⟨S1, e1, fl⟩ := c_opens0 hT hC hp
      rw [bnd_of e1, if_pos (by show (0 : Int32) = 0; rfl)]
      exact wp_some (Or.inl ⟨rfl, 3, i, fl, fun P D hc ha hr => ft_open (by omega) nm (by rw [opq P ha]; decide)⟩)
  · rw [if_neg (fun z => q21 (j21.mp z))]
    refine wp_call (h0 S i p hC hp) ?_
    intro ⟨v, S1⟩ hv
    rcases hv with ⟨v0, f, jf, hfl, hrf⟩ | ⟨v1, j, q, E, hok, hro⟩
    · simp only at v0 hfl
      rw [v0, if_pos rfl]
      exact wp_some (Or.inl ⟨rfl, f, jf, hfl, fun P D hc ha hr => hrf P D ⟨by have := hc.1; omega, ho⟩ (CR_mono hr (by decide)) (Or.inl q21)⟩)
    · simp only at v1 hok
      have qj := OKC_pq hok hp
      obtain ⟨C1, l1, pq1, le1, F1, bu1, sg1⟩ := id hok
      have jn1 := C1.2.1
      have kb1 := hT.2.2.2.2.1 j
      rw [v1, if_neg (show ¬ (1 : Int32) = 0 by decide)]
      simp only [lt]
      rw [C1.2.2.2.1]
      have j26 : (jj (K.1 j) < (26 : Int32)) = (K.1 j < 26) := jj_lt (b := 26) (by omega) (by omega) (by decide) (by decide)
      have j31 : (jj (K.1 j) ≤ (31 : Int32)) = (K.1 j ≤ 31) := jj_le (b := 31) (by omega) (by omega) (by decide) (by decide)
      have bt : ∀ P Q : List Int, ahd P = 1 → bin 6 Q → opn (Q ++ P) = 41 ∧ cmpd (Q ++ P) = 0 ∧ btw (Q ++ P) (K.1 j) = cpo (K.1 j) := by
        intro P Q ha hQ
        have h1 : opn (Q ++ P) = 41 := (opn_bin hQ (by decide)).trans (ahd_opn ha)
        have h2 : cmpd (Q ++ P) = 0 := (cmpd_bin hQ (by decide)).trans (ahd_cmpd ha)
        refine ⟨h1, h2, ?_⟩
        unfold btw
        rw [if_neg hro.2.2.2.1, if_neg hro.2.2.2.2, if_neg hro.2.1, if_neg hro.2.2.1, if_pos h1, if_pos h2]
      by_cases qs : 26 ≤ K.1 j ∧ K.1 j ≤ 31
      · rw [if_neg (fun z => by have := j26.mp z; omega), if_pos (j31.mpr qs.2)]
        obtain ⟨S2, e2, C2, F2, b2⟩ := c_adv hT C1 (by omega)
        have jn2 := C2.2.1
        rw [bnd_of e2]
        have cb : 10 ≤ cpo (K.1 j) ∧ cpo (K.1 j) ≤ 15 := by
          have : K.1 j = 26 ∨ K.1 j = 27 ∨ K.1 j = 28 ∨ K.1 j = 29 ∨ K.1 j = 30 ∨ K.1 j = 31 := by omega
          rcases this with z | z | z | z | z | z <;> rw [z] <;> decide
        have rc : rk (cpo (K.1 j)) = 4 := by
          have : K.1 j = 26 ∨ K.1 j = 27 ∨ K.1 j = 28 ∨ K.1 j = 29 ∨ K.1 j = 30 ∨ K.1 j = 31 := by omega
          rcases this with z | z | z | z | z | z <;> rw [z] <;> decide
        have ref : ∀ P D, CX P o 3 → ahd P = 1 → CR P 3 → ∃ D1, SM D1 E ∧ GO K (P, D, (o : Int)) 0 i (cpo (K.1 j) :: P, D ++ D1, (o : Int)) 0 (j + 1) := by
          intro P D hc ha hr
          obtain ⟨D1, Q, hQ, m1, g1⟩ := hro.1.2 P D ⟨by have := hc.1; omega, ho⟩ (CR_mono hr (by decide)) (Or.inl q21)
          refine ⟨D1 ++ zs Q, m1, GO_trans g1 (go_btw (P' := P) (D' := D ++ (D1 ++ zs Q)) (o' := (o : Int)) (bt P Q ha hQ).2.2 (by omega) ?_ (by have := hc.1; omega))⟩
          rw [show lvl (cpo (K.1 j)) = 5 from if_pos rc, stl_bin hQ (by decide) (by decide), stl_CR hr (by decide), List.append_assoc]
        have h21 : ∀ P : List Int, ahd (cpo (K.1 j) :: P) = 0 := fun P => ahd_hi (by omega)
        refine wp_call (h0 S2 (j + 1) q C2 (by omega)) ?_
        intro ⟨w, S3⟩ hw
        rcases hw with ⟨w0, f, jf, hfl, hrf⟩ | ⟨w1, j2, q2, E2, hok2, hro2⟩
        · simp only at w0 hfl
          rw [w0, if_pos rfl]
          refine wp_some (Or.inl ⟨rfl, f, jf, FLC_trans (FX_trans F1 F2) hfl, fun P D hc ha hr => ?_⟩)
          obtain ⟨D1, -, g1⟩ := ref P D hc ha hr
          exact GO_FT g1 (hrf (cpo (K.1 j) :: P) _ ⟨by have := hc.1; simp only [List.length_cons]; omega, ho⟩ (CR_cons (by omega)) (Or.inr (h21 P)))
        · simp only at w1 hok2
          have qj2 := OKC_pq hok2 (by omega)
          obtain ⟨C3, l3, pq3, le3, F3, bu3, sg3⟩ := id hok2
          have jn3 := C3.2.1
          obtain ⟨S4, e4, C4, F4, nb4, at4⟩ := c_add (k := K.1 j) (g := 0) C3 (by omega)
          have e4 : f_X1_add S3 (jj (K.1 j)) 0 = some S4 := e4
          rw [w1, if_neg (show ¬ (1 : Int32) = 0 by decide), bnd_of e4]
          have a1 : ∀ z, z < q → gI S4 108 0 z = gI S1 108 0 z := fun z hz => by rw [nb4 z (by omega), bu3 z hz, b2]
          refine wp_some (Or.inr ⟨rfl, j2, q2 + 1, (fun nv cs => jnd (K.1 j) (E nv cs) (E2 nv cs)), ⟨C4, by omega, by omega, by omega, FX_trans F1 (FX_trans F2 (FX_trans F3 F4)), fun z hz => (a1 z (by omega)).trans (bu1 z hz), SEG_two (SEG_congr sg1 (fun z z1 z2 => a1 z z2)) (SEG_congr sg3 (fun z z1 z2 => nb4 z (by omega))) (by omega) (by omega) (by omega) hro.1.1 hro2.1.1 at4 (by omega) (by omega) (fun z => by omega)⟩, fun nv cs _ => ?_, hro2.2, fun P D hc ha hr => ?_⟩)
          · show jnd (K.1 j) (E nv cs) (E2 nv cs) = 0 ∨ jnd (K.1 j) (E nv cs) (E2 nv cs) = 1
            rw [jnd_c (by omega) (by omega)]
            exact cop_b _ _ _
          · obtain ⟨D1, m1, g1⟩ := ref P D hc ha hr
            obtain ⟨D2, Q2, hQ2, m2, g2⟩ := hro2.1.2 (cpo (K.1 j) :: P) (D ++ D1) ⟨by have := hc.1; simp only [List.length_cons]; omega, ho⟩ (CR_cons (by omega)) (Or.inr (h21 P))
            have r2 : ∀ x ∈ Q2, 5 ≤ rk x := fun x hx => by have := bin_rk hQ2 (by decide) x hx; rw [if_pos (by decide)] at this; exact this
            refine ⟨D1 ++ D2, Q2 ++ [cpo (K.1 j)], fun x hx => ?_, ?_, ?_, GO_trans g1 ?_⟩
            · rcases List.mem_append.mp hx with z | z
              · have := r2 x z; omega
              · rw [List.mem_singleton.mp z, rc]; decide
            · rw [List.append_assoc]
              show cmpd (Q2 ++ cpo (K.1 j) :: P) = 1
              rw [cmpd_bin hQ2 (by decide), cmpd_cons, if_neg (by omega), if_pos rc]
            · have e : (fun nv cs => jnd (K.1 j) (E nv cs) (E2 nv cs)) = fun nv cs => cop (cpo (K.1 j)) (E nv cs) (E2 nv cs) := by
                funext nv cs
                exact jnd_c (by omega) (by omega)
              have r := SB_cmp m1 m2 cb.1 cb.2
              rw [e, zs_app]
              rw [show D1 ++ D2 ++ (zs Q2 ++ zs [cpo (K.1 j)]) = D1 ++ (D2 ++ zs Q2) ++ [(cpo (K.1 j), 0)] by simp [zs]]
              exact r
            · rw [nots_app, bin_nots (by decide) hQ2, show nots [cpo (K.1 j)] = 0 from by show cnq (cpo (K.1 j)) + 0 = 0; unfold cnq; rw [if_neg (by omega)]; rfl, List.append_assoc]
              rw [List.append_assoc] at g2
              rw [show (o : Int) + (0 + 0) = (o : Int) by omega]
              exact g2
      · have tail : wp (f_X1_ask_b67 rec N S1) (OUT K S i p (4 + 5 * (8 - o)) (RFb K 3 3 o i) (RO6 K o i)) := by
          obtain ⟨S2, e2, fl⟩ := c_faulty (x := 1) (f := 1) hT C1 qj rfl (by decide) (by decide)
          unfold f_X1_ask_b67
          rw [e2]
          refine wp_some (Or.inl ⟨rfl, 1, j, FLC_trans F1 fl, fun P D hc ha hr => ?_⟩)
          obtain ⟨D1, Q, hQ, m1, g1⟩ := hro.1.2 P D ⟨by have := hc.1; omega, ho⟩ (CR_mono hr (by decide)) (Or.inl q21)
          obtain ⟨b1, b2, b3⟩ := bt P Q ha hQ
          refine GO_FT g1 (ft_behind ?_ ?_ (by rw [b1]; decide))
          · rw [b3]
            unfold cpo
            rw [if_neg (by omega), if_neg (by omega), if_neg (by omega), if_neg (by omega), if_neg (by omega), if_neg (by omega)]
            decide
          · unfold ptk
            rw [if_neg (by omega), if_pos b1, b2]
            split <;> decide
        by_cases q26 : K.1 j < 26
        · rw [if_pos (j26.mpr q26)]; exact tail
        · rw [if_neg (fun z => q26 (j26.mp z)), if_neg (fun z => by have := j31.mp z; omega)]; exact tail
