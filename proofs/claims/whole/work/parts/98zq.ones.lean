/-! THE READER: ones; all modes together. -/
theorem d_leaf {rec : Nat → Int32 → Int32 → St → Option (Int32 × St)} {N : Nat} {S : St} {x1 x2 : Int32} {k : Int} (e : gI S 105 0 0 = jj k) (hk : k = 3 ∨ k = 9 ∨ k = 16 ∨ k = 17) : fg_X1_one rec N S x1 x2 = f_X1_one_b212 rec N (jj k) S := by
  unfold fg_X1_one
  simp only [lt]
  rw [e]
  rcases hk with rfl | rfl | rfl | rfl
  all_goals (repeat (first | rw [if_pos (by decide)] | rw [if_neg (by decide)]))
theorem d_leaf2 {rec : Nat → Int32 → Int32 → St → Option (Int32 × St)} {N : Nat} {S : St} {x1 x2 : Int32} {k : Int} (e : gI S 105 0 0 = jj k) (hk : k = 6 ∨ k = 18 ∨ k = 19 ∨ k = 20) : fg_X1_one rec N S x1 x2 = f_X1_one_b219 rec N x1 (jj k) S := by
  unfold fg_X1_one
  simp only [lt]
  rw [e]
  rcases hk with rfl | rfl | rfl | rfl
  all_goals (repeat (first | rw [if_pos (by decide)] | rw [if_neg (by decide)]))
theorem d_un {rec : Nat → Int32 → Int32 → St → Option (Int32 × St)} {N : Nat} {S : St} {x1 x2 : Int32} {k : Int} (e : gI S 105 0 0 = jj k) (hk : k = 22 ∨ k = 23 ∨ k = 33) : fg_X1_one rec N S x1 x2 = f_X1_one_b297 rec N x1 x2 (jj k) S := by
  unfold fg_X1_one
  simp only [lt]
  rw [e]
  rcases hk with rfl | rfl | rfl
  all_goals (repeat (first | rw [if_pos (by decide)] | rw [if_neg (by decide)]))
theorem d_other {rec : Nat → Int32 → Int32 → St → Option (Int32 × St)} {N : Nat} {S : St} {x1 x2 : Int32} {k : Int} (e : gI S 105 0 0 = jj k) (hk : k = 0 ∨ k = 1 ∨ k = 2 ∨ k = 4 ∨ k = 5 ∨ k = 7 ∨ k = 8 ∨ k = 10 ∨ k = 11 ∨ k = 12 ∨ k = 13 ∨ k = 14 ∨ k = 21 ∨ k = 24 ∨ k = 25 ∨ k = 26 ∨ k = 27 ∨ k = 28 ∨ k = 29 ∨ k = 30 ∨ k = 31 ∨ k = 32 ∨ k = 34 ∨ k = 35 ∨ k = 37 ∨ k = 38 ∨ k = 40 ∨ k = 41) : fg_X1_one rec N S x1 x2 = f_X1_one_b337 rec N S := by
  unfold fg_X1_one
  simp only [lt]
  rw [e]
  rcases hk with rfl | rfl | rfl | rfl | rfl | rfl | rfl | rfl | rfl | rfl | rfl | rfl | rfl | rfl | rfl | rfl | rfl | rfl | rfl | rfl | rfl | rfl | rfl | rfl | rfl | rfl | rfl | rfl
  all_goals (repeat (first | rw [if_pos (by decide)] | rw [if_neg (by decide)]))
theorem d_if {rec : Nat → Int32 → Int32 → St → Option (Int32 × St)} {N : Nat} {S : St} {x1 x2 : Int32} (e : gI S 105 0 0 = jj 15) : fg_X1_one rec N S x1 x2 = (bnd (f_X1_opens S x2) fun q6 => if q6.1 = (0 : Int32) then (some ((0 : Int32), q6.2)) else (bnd (rec 3 x1 (x2 + (1 : Int32)) q6.2) fun q7 => if q7.1 = (0 : Int32) then (some ((0 : Int32), q7.2)) else (some ((1 : Int32), q7.2)))) := by
  unfold fg_X1_one
  simp only [lt]
  rw [e]
  repeat (first | rw [if_pos (by decide)] | rw [if_neg (by decide)])
theorem d_par {rec : Nat → Int32 → Int32 → St → Option (Int32 × St)} {N : Nat} {S : St} {x1 x2 : Int32} (e : gI S 105 0 0 = jj 36) : fg_X1_one rec N S x1 x2 = (bnd (f_X1_opens S x2) fun q11 => if q11.1 = (0 : Int32) then (some ((0 : Int32), q11.2)) else (bnd (rec 0 x1 (x2 + (1 : Int32)) q11.2) fun q12 => if q12.1 = (0 : Int32) then (some ((0 : Int32), q12.2)) else (bnd (f_X1_takes q12.2 (37 : Int32)) fun q13 => if q13.1 = (0 : Int32) then (some ((0 : Int32), q13.2)) else (some ((1 : Int32), q13.2))))) := by
  unfold fg_X1_one
  simp only [lt]
  rw [e]
  repeat (first | rw [if_pos (by decide)] | rw [if_neg (by decide)])
theorem d_num {rec : Nat → Int32 → Int32 → St → Option (Int32 × St)} {N : Nat} {S : St} {x1 x2 : Int32} (e : gI S 105 0 0 = jj 39) : fg_X1_one rec N S x1 x2 = (chk (inb (gI S 104 0 0) 301) (if (gI S 504 0 (gI S 104 0 0).toNatClampNeg) ≤ (9999 : Int32) then (chk (inb (gI S 104 0 0) 301) (bnd (f_X1_adds S (jj 39) (gI S 504 0 (gI S 104 0 0).toNatClampNeg)) fun q16 => chk (isz q16.1) (some (q16.1, q16.2)))) else (bnd (f_X1_faulty S (2 : Int32)) fun q17 => chk (isz q17.1) (some (q17.1, q17.2))))) := by
  unfold fg_X1_one
  simp only [lt]
  rw [e]
  repeat (first | rw [if_pos (by decide)] | rw [if_neg (by decide)])
theorem c_adds {K : Ks} {S : St} {i p : Nat} {k g : Int} (hT : TS K) (hC : CT K S i p) (hp : p ≤ 299) (h40 : K.1 i ≠ 40) : ∃ S', f_X1_adds S (jj k) (jj g) = some (1, S') ∧ CT K S' (i + 1) (p + 1) ∧ FX CPG S S' ∧ (∀ n, n ≠ p → gI S' 108 0 n = gI S 108 0 n) ∧ gI S' 108 0 p = jj (g * 64 + k) := by
  obtain ⟨S1, e1, C1, F1, n1, a1⟩ := c_add (k := k) (g := g) hC hp
  obtain ⟨S2, e2, C2, F2, b2⟩ := c_adv hT C1 h40
  refine ⟨S2, ?_, C2, FX_trans F1 F2, fun n hn => by rw [b2, n1 n hn], by rw [b2]; exact a1⟩
  unfold f_X1_adds
  rw [bnd_of e1, bnd_of e2]
theorem m_leaf {K : Ks} {S : St} {i p o : Nat} (hT : TS K) (ho : o ≤ 8) (hC : CT K S i p) (hp : p < i) (k0 : 0 ≤ nmo (K.1 i)) (k1 : nmo (K.1 i) ≤ 3 ∨ K.2.2.2.2 = 0) : wp (bnd (f_X1_adds S (jj (K.1 i)) (0 : Int32)) fun q2 => chk (isz q2.1) (some (q2.1, q2.2))) (OUT K S i p (1 + 5 * (8 - o)) (RF1 K o i) (RO1 K o i)) := by
  have nt := hT.2.1
  have jn := hC.2.1
  have h40 : K.1 i ≠ 40 := fun e => by rw [e] at k0; exact absurd k0 (by decide)
  obtain ⟨S1, e1, C1, F1, n1, a1⟩ := c_adds (k := K.1 i) (g := 0) hT hC (by omega) h40
  have e1 : f_X1_adds S (jj (K.1 i)) 0 = some (1, S1) := e1
  rw [bnd_of e1]
  have km : nmo (K.1 i) < mk8 K := by
    have : nmo (K.1 i) ≤ 7 := by
      unfold nmo
      repeat' split
      all_goals decide
    unfold mk8
    rcases k1 with z | z
    · split <;> omega
    · rw [if_pos z]; omega
  exact wp_chk rfl (wp_some (Or.inr ⟨rfl, i + 1, p + 1, (fun nv _ => nv (nmo (K.1 i))), ⟨C1, by omega, by omega, by omega, F1, fun z hz => n1 z (by omega), SEG_mono (SEG_name a1 k0 km) (by omega)⟩, fun nv cs hE => hE.1 _ k0 km, fun P D hc h21 => ⟨_, SM_name _, go_name k0 k1⟩⟩))
theorem m_one {K : Ks} {rec : Nat → Int32 → Int32 → St → Option (Int32 × St)} {N o : Nat} (hT : TS K) (ho : o ≤ 8) (h0 : o < 8 → ∀ S i p, CT K S i p → p < i → wp (rec 0 (jj K.2.2.2.2) (jj ((o + 1 : Nat) : Int)) S) (OUT K S i p (3 + 5 * (8 - (o + 1))) (RFv K 4 2 (o + 1) i) (RO0 K (o + 1) i))) (h3 : o < 8 → ∀ S i p, CT K S i p → p < i → wp (rec 3 (jj K.2.2.2.2) (jj ((o + 1 : Nat) : Int)) S) (OUT K S i p (6 + 5 * (8 - (o + 1))) (RF3 K (o + 1) i) (RO3 K (o + 1) i))) (h2 : o < 8 → ∀ S i p, CT K S i p → p < i → wp (rec 2 (jj K.2.2.2.2) (jj ((o + 1 : Nat) : Int)) S) (OUT K S i p (1 + 5 * (8 - (o + 1))) (RF1 K (o + 1) i) (RO1 K (o + 1) i))) : ∀ S i p, CT K S i p → p < i → wp (fg_X1_one rec N S (jj K.2.2.2.2) (jj (o : Int))) (OUT K S i p (1 + 5 * (8 - o)) (RF1 K o i) (RO1 K o i)) := by
  intro S i p hC hp
  have nt := hT.2.1
  have jn := hC.2.1
  have kb := hT.2.2.2.2.1 i
  have nb := hT.2.2.2.2.2.1 i
  have tok := hC.2.2.2.1
  have kd := hT.2.2.2.2.2.2
  -- what opens, for the reference
  have rop : ∀ (x : Int) (P : List Int) (D : List (Int × Int)), opc P (K.1 i) = x → 0 ≤ x → K.1 i ≠ 39 → nmo (K.1 i) < 0 → o < 8 → CX P o 0 → GO K (P, D, (o : Int)) 0 i (x :: P, D, ((o + 1 : Nat) : Int)) 0 (i + 1) := by
    intro x P D hx x0 n39 nm o8 hc
    have := go_open (K := K) (P := P) (D := D) (o := (o : Int)) (i := i) n39 nm (by rw [hx]; exact x0) (by omega) (by have := hc.1; omega)
    rw [hx] at this
    exact this
  by_cases c1 : K.1 i = 3 ∨ K.1 i = 9 ∨ K.1 i = 16 ∨ K.1 i = 17
  · rw [d_leaf tok c1]
    unfold f_X1_one_b212
    refine m_leaf hT ho hC hp ?_ (Or.inl ?_)
    · rcases c1 with z | z | z | z <;> rw [z] <;> decide
    · rcases c1 with z | z | z | z <;> rw [z] <;> decide
  by_cases c2 : K.1 i = 6 ∨ K.1 i = 18 ∨ K.1 i = 19 ∨ K.1 i = 20
  · rw [d_leaf2 tok c2]
    unfold f_X1_one_b219
    have n4 : 3 < nmo (K.1 i) := by rcases c2 with z | z | z | z <;> rw [z] <;> decide
    rcases kd with z | z
    · rw [z, if_pos (show jj 0 = 0 from rfl)]
      exact m_leaf hT ho hC hp (by omega) (Or.inr z)
    · rw [z, if_neg (show ¬ jj 1 = 0 by decide)]
      obtain ⟨S1, e1, fl⟩ := c_faulty (x := 5) (f := 5) hT hC hp rfl (by decide) (by decide)
      rw [e1]
      exact wp_some (Or.inl ⟨rfl, 5, i, fl, fun P D hc h21 => ft_name n4 (by omega)⟩)
  by_cases c3 : K.1 i = 39
  · rw [d_num (by rw [tok, c3])]
    obtain ⟨hK, -⟩ := id hC
    rw [hC.2.2.1, chk_true (jj_inb (by omega) (by omega) (by omega)), jj_nat (by omega) (by omega), Int.toNat_natCast, (hK.2 i jn).2.2]
    have j9 : (jj (K.2.1 i) ≤ (9999 : Int32)) = (K.2.1 i ≤ 9999) := jj_le (b := 9999) (by omega) (by omega) (by decide) (by decide)
    by_cases q9 : K.2.1 i ≤ 9999
    · rw [if_pos (j9.mpr q9), chk_true (jj_inb (by omega) (by omega) (by omega))]
      obtain ⟨S1, e1, C1, F1, n1, a1⟩ := c_adds (k := 39) (g := K.2.1 i) hT hC (by omega) (by omega)
      rw [bnd_of e1]
      exact wp_chk rfl (wp_some (Or.inr ⟨rfl, i + 1, p + 1, (fun _ _ => K.2.1 i), ⟨C1, by omega, by omega, by omega, F1, fun z hz => n1 z (by omega), SEG_mono (SEG_num a1 nb.1 q9) (by omega)⟩, fun nv cs hE => ⟨show -100000000 ≤ K.2.1 i by omega, show K.2.1 i ≤ 100000000 by omega⟩, fun P D hc h21 => ⟨_, SM_num _, go_num c3 q9⟩⟩))
    · rw [if_neg (fun z => q9 (j9.mp z))]
      obtain ⟨S1, e1, fl⟩ := c_faulty (x := 2) (f := 2) hT hC hp rfl (by decide) (by decide)
      rw [e1]
      exact wp_some (Or.inl ⟨rfl, 2, i, fl, fun P D hc h21 => ft_num c3 q9⟩)
  by_cases c4 : K.1 i = 22 ∨ K.1 i = 23 ∨ K.1 i = 33
  · rw [d_un tok c4]
    unfold f_X1_one_b297 f_X1_one_b331
    have nm : nmo (K.1 i) < 0 := by rcases c4 with z | z | z <;> rw [z] <;> decide
    obtain ⟨x, kc, hx, xr, hxk⟩ : ∃ x kc : Int, (∀ P : List Int, opc P (K.1 i) = x) ∧ (x = 2 ∨ x = 4 ∨ x = 5) ∧ ((kc = 22 ∨ kc = 23 ∨ kc = 42) ∧ (∀ cs v, chg kc cs v = uop x cs v) ∧ ((K.1 i = 33 ∧ kc = 42) ∨ (K.1 i ≠ 33 ∧ kc = K.1 i))) := by
      rcases c4 with z | z | z
      · exact ⟨4, 22, fun P => by rw [z]; rfl, by decide, by decide, fun cs v => rfl, Or.inr ⟨by omega, z.symm⟩⟩
      · exact ⟨2, 23, fun P => by rw [z]; rfl, by decide, by decide, fun cs v => rfl, Or.inr ⟨by omega, z.symm⟩⟩
      · exact ⟨5, 42, fun P => by rw [z]; rfl, by decide, by decide, fun cs v => rfl, Or.inl ⟨z, rfl⟩⟩
    obtain ⟨kc3, huo, hkc⟩ := hxk
    have x7 : rk x = 7 := by rcases xr with z | z | z <;> rw [z] <;> decide
    by_cases o8 : o < 8
    · obtain ⟨S1, e1, C1, F1, b1⟩ := c_opens1 hT hC (by omega) o8
      have jn1 := C1.2.1
      rw [bnd_of e1, if_neg (show ¬ (1 : Int32) = 0 by decide), show jj (o : Int) + (1 : Int32) = jj ((o + 1 : Nat) : Int) from jn_add o 1]
      have cxx : ∀ P, CX P o 0 → CX (x :: P) (o + 1) 0 := fun P hc => ⟨by have := hc.1; simp only [List.length_cons]; omega, by omega⟩
      refine wp_call (h2 o8 S1 (i + 1) p C1 (by omega)) ?_
      intro ⟨v, S2⟩ hv
      rcases hv with ⟨v0, f, jf, hfl, hrf⟩ | ⟨v1, j, q, E, hok, hro⟩
      · simp only at v0 hfl
        rw [v0, if_pos rfl]
        exact wp_some (Or.inl ⟨rfl, f, jf, FLC_trans F1 hfl, fun P D hc h21 => GO_FT (rop x P D (hx P) (by omega) c3 nm o8 hc) (hrf (x :: P) D (cxx P hc) (Or.inr (ahd_hi (by omega))))⟩)
      · simp only at v1 hok
        have qj := OKC_pq hok (by omega)
        obtain ⟨C2, l2, pq2, le2, F2, bu2, sg2⟩ := id hok
        have jn2 := C2.2.1
        obtain ⟨S3, e3, C3, F3, nb3, at3⟩ := c_add (k := kc) (g := 0) C2 (by omega)
        have e3 : f_X1_add S2 (jj kc) 0 = some S3 := e3
        have j33 : (jj (K.1 i) = (33 : Int32)) = (K.1 i = 33) := jj_eq (b := 33) (by omega) (by omega) (by decide) (by decide)
        have e3' : (if jj (K.1 i) = (33 : Int32) then (bnd (f_X1_add S2 (42 : Int32) (0 : Int32)) fun q10 => some ((1 : Int32), q10)) else (bnd (f_X1_add S2 (jj (K.1 i)) (0 : Int32)) fun q10 => some ((1 : Int32), q10))) = some (1, S3) := by
          rcases hkc with ⟨z1, z2⟩ | ⟨z1, z2⟩
          · rw [if_pos (j33.mpr z1)]
            rw [z2] at e3
            exact bnd_of e3 _
          · rw [if_neg (fun z => z1 (j33.mp z))]
            rw [z2] at e3
            exact bnd_of e3 _
        rw [v1, if_neg (show ¬ (1 : Int32) = 0 by decide), e3']
        refine wp_some (Or.inr ⟨rfl, j, q + 1, _, ⟨C3, by omega, by omega, by omega, FX_trans F1 (FX_trans F2 F3), fun z hz => by rw [nb3 z (by omega), bu2 z hz, b1], SEG_mono (SEG_chg (k := kc) (SEG_congr sg2 (fun z z1 z2 => nb3 z (by omega))) (by omega) hro.1 at3 (by omega)) (by omega)⟩, fun nv cs hE => ?_, fun P D hc h21 => ?_⟩)
        · show -100000000 ≤ chg kc cs (E nv cs) ∧ chg kc cs (E nv cs) ≤ 100000000
          have b := hro.1 nv cs hE
          rw [huo]
          exact uop_b b.1 b.2 hE.2
        · obtain ⟨D2, m2, g2⟩ := hro.2 (x :: P) D (cxx P hc) (Or.inr (ahd_hi (by omega)))
          rw [stl_pop (by omega), show cnq x = 1 from if_pos (Or.inl x7), show ((o + 1 : Nat) : Int) - 1 = (o : Int) by omega, List.append_assoc] at g2
          have e : (fun nv cs => chg kc cs (E nv cs)) = fun nv cs => uop x cs (E nv cs) := by
            funext nv cs
            exact huo cs (E nv cs)
          rw [e]
          exact ⟨D2 ++ [(x, 0)], SM_un m2 xr, GO_trans (rop x P D (hx P) (by omega) c3 nm o8 hc) g2⟩
    · have o8 : o = 8 := by omega
      subst o8
      obtain ⟨S1, e1, fl⟩ := c_opens0 hT hC hp
      rw [bnd_of e1, if_pos rfl]
      exact wp_some (Or.inl ⟨rfl, 3, i, fl, fun P D hc h21 => ft_open c3 nm (by rw [hx P]; omega)⟩)
  by_cases c5 : K.1 i = 15
  · rw [d_if (by rw [tok, c5])]
    have nm : nmo (K.1 i) < 0 := by rw [c5]; decide
    have hx : ∀ P : List Int, opc P (K.1 i) = 41 := fun P => by rw [c5]; rfl
    by_cases o8 : o < 8
    · obtain ⟨S1, e1, C1, F1, b1⟩ := c_opens1 hT hC (by omega) o8
      rw [bnd_of e1, if_neg (show ¬ (1 : Int32) = 0 by decide), show jj (o : Int) + (1 : Int32) = jj ((o + 1 : Nat) : Int) from jn_add o 1]
      have cxx : ∀ P, CX P o 0 → CX (41 :: P) (o + 1) 5 := fun P hc => ⟨by have := hc.1; simp only [List.length_cons]; omega, by omega⟩
      refine wp_call (h3 o8 S1 (i + 1) p C1 (by omega)) ?_
      intro ⟨v, S2⟩ hv
      rcases hv with ⟨v0, f, jf, hfl, hrf⟩ | ⟨v1, j, q, E, hok, hro⟩
      · simp only at v0 hfl
        rw [v0, if_pos rfl]
        exact wp_some (Or.inl ⟨rfl, f, jf, FLC_trans F1 hfl, fun P D hc h21 => GO_FT (rop 41 P D (hx P) (by decide) c3 nm o8 hc) (hrf P D (cxx P hc))⟩)
      · simp only at v1 hok
        obtain ⟨C2, l2, pq2, le2, F2, bu2, sg2⟩ := id hok
        rw [v1, if_neg (show ¬ (1 : Int32) = 0 by decide)]
        refine wp_some (Or.inr ⟨rfl, j, q, E, ⟨C2, by omega, by omega, by omega, FX_trans F1 F2, fun z hz => by rw [bu2 z hz, b1], SEG_mono sg2 (by omega)⟩, hro.1, fun P D hc h21 => ?_⟩)
        obtain ⟨D2, m2, g2⟩ := hro.2 P D (cxx P hc)
        rw [show ((o + 1 : Nat) : Int) - 1 = (o : Int) by omega] at g2
        exact ⟨D2, m2, GO_trans (rop 41 P D (hx P) (by decide) c3 nm o8 hc) g2⟩
    · have o8 : o = 8 := by omega
      subst o8
      obtain ⟨S1, e1, fl⟩ := c_opens0 hT hC hp
      rw [bnd_of e1, if_pos rfl]
      exact wp_some (Or.inl ⟨rfl, 3, i, fl, fun P D hc h21 => ft_open c3 nm (by rw [hx P]; decide)⟩)
  by_cases c6 : K.1 i = 36
  · rw [d_par (by rw [tok, c6])]
    have nm : nmo (K.1 i) < 0 := by rw [c6]; decide
    have hx : ∀ P : List Int, opc P (K.1 i) = 40 := fun P => by rw [c6]; rfl
    by_cases o8 : o < 8
    · obtain ⟨S1, e1, C1, F1, b1⟩ := c_opens1 hT hC (by omega) o8
      rw [bnd_of e1, if_neg (show ¬ (1 : Int32) = 0 by decide), show jj (o : Int) + (1 : Int32) = jj ((o + 1 : Nat) : Int) from jn_add o 1]
      have cxx : ∀ P, CX P o 0 → CX (40 :: P) (o + 1) 2 := fun P hc => ⟨by have := hc.1; simp only [List.length_cons]; omega, by omega⟩
      refine wp_call (h0 o8 S1 (i + 1) p C1 (by omega)) ?_
      intro ⟨v, S2⟩ hv
      rcases hv with ⟨v0, f, jf, hfl, hrf⟩ | ⟨v1, j, q, E, hok, hro⟩
      · simp only at v0 hfl
        rw [v0, if_pos rfl]
        exact wp_some (Or.inl ⟨rfl, f, jf, FLC_trans F1 hfl, fun P D hc h21 => GO_FT (rop 40 P D (hx P) (by decide) c3 nm o8 hc) (hrf (40 :: P) D (cxx P hc) (CR_cons (by decide)) (Or.inr (ahd_op (by decide) (by decide))))⟩)
      · simp only at v1 hok
        have qj := OKC_pq hok (by omega)
        obtain ⟨C2, l2, pq2, le2, F2, bu2, sg2⟩ := id hok
        rw [v1, if_neg (show ¬ (1 : Int32) = 0 by decide)]
        have ref : ∀ P D, CX P o 0 → ∃ D2 Q, SM (D2 ++ zs Q) E ∧ opn (Q ++ 40 :: P) = 40 ∧ stl 1 (Q ++ 40 :: P) (D ++ D2) ((o + 1 : Nat) : Int) = (40 :: P, D ++ D2 ++ zs Q, ((o + 1 : Nat) : Int)) ∧ GO K (P, D, (o : Int)) 0 i (Q ++ 40 :: P, D ++ D2, ((o + 1 : Nat) : Int)) 1 j := by
          intro P D hc
          obtain ⟨D2, Q, hQ, m2, g2⟩ := hro.1.2 (40 :: P) D (cxx P hc) (CR_cons (by decide)) (Or.inr (ahd_op (by decide) (by decide)))
          have a := aft_sum (P := P) (D := D ++ D2) (o := ((o + 1 : Nat) : Int)) (x := 40) hQ (by decide)
          exact ⟨D2, Q, m2, a.1, a.2, GO_trans (rop 40 P D (hx P) (by decide) c3 nm o8 hc) g2⟩
        by_cases t : K.1 j = 37
        · obtain ⟨S3, e3, C3, F3, b3⟩ := c_takes1 (k := 37) hT C2 t (by decide)
          have e3 : f_X1_takes S2 37 = some (1, S3) := e3
          rw [bnd_of e3, if_neg (show ¬ (1 : Int32) = 0 by decide)]
          refine wp_some (Or.inr ⟨rfl, j + 1, q, E, ⟨C3, by omega, by omega, by omega, FX_trans F1 (FX_trans F2 F3), fun z hz => by rw [b3, bu2 z hz, b1], SEG_mono (SEG_congr sg2 (fun z _ _ => b3 z)) (by omega)⟩, hro.1.1, fun P D hc h21 => ?_⟩)
          obtain ⟨D2, Q, m2, h1, s1, g1⟩ := ref P D hc
          have g := go_shut (K := K) (i := j) (by rw [btw_n (by omega) hro.2]; decide) (by
            unfold ptk
            rw [if_pos h1, if_pos t]) s1
          rw [if_neg (by omega), show ((o + 1 : Nat) : Int) - 1 = (o : Int) by omega, List.append_assoc] at g
          exact ⟨D2 ++ zs Q, m2, GO_trans g1 g⟩
        · obtain ⟨S3, e3, fl⟩ := c_takes0 (k := 37) hT C2 qj t (by decide) (by decide)
          have e3 : f_X1_takes S2 37 = some (0, S3) := e3
          rw [bnd_of e3, if_pos rfl]
          refine wp_some (Or.inl ⟨rfl, 1, j, FLC_trans (FX_trans F1 F2) fl, fun P D hc h21 => ?_⟩)
          obtain ⟨D2, Q, m2, h1, s1, g1⟩ := ref P D hc
          refine GO_FT g1 (ft_behind (by rw [btw_n (by omega) hro.2]; decide) ?_ (by rw [h1]; decide))
          unfold ptk
          rw [if_pos h1, if_neg t]
          decide
    · have o8 : o = 8 := by omega
      subst o8
      obtain ⟨S1, e1, fl⟩ := c_opens0 hT hC hp
      rw [bnd_of e1, if_pos rfl]
      exact wp_some (Or.inl ⟨rfl, 3, i, fl, fun P D hc h21 => ft_open c3 nm (by rw [hx P]; decide)⟩)
  rw [d_other tok (by omega)]
  unfold f_X1_one_b337
  obtain ⟨S1, e1, fl⟩ := c_faulty (x := 1) (f := 1) hT hC hp rfl (by decide) (by decide)
  rw [e1]
  refine wp_some (Or.inl ⟨rfl, 1, i, fl, fun P D hc h21 => ft_one c3 ?_ ?_⟩)
  · unfold nmo
    rw [if_neg (by omega), if_neg (by omega), if_neg (by omega), if_neg (by omega), if_neg (by omega), if_neg (by omega), if_neg (by omega), if_neg (by omega)]
    decide
  · unfold opc
    rw [if_neg (by omega), if_neg (by omega), if_neg (by omega), if_neg (by omega), if_neg (by omega)]
    by_cases z : K.1 i = 21
    · rw [if_pos z]
      rcases h21 with y | y
      · exact absurd z y
      · rw [if_pos y]; decide
    · rw [if_neg z]; decide
/-- all modes, as far as the depth of calls reaches -/
def MDS (K : Ks) (N n : Nat) : Prop := ∀ o : Nat, o ≤ 8 →
  (1 + 7 * (8 - o) ≤ n → ∀ S i p, CT K S i p → p < i → wp (F_rd N n 2 (jj K.2.2.2.2) (jj (o : Int)) S) (OUT K S i p (1 + 5 * (8 - o)) (RF1 K o i) (RO1 K o i))) ∧
  (2 + 7 * (8 - o) ≤ n → ∀ S i p, CT K S i p → p < i → wp (F_rd N n 1 (jj K.2.2.2.2) (jj (o : Int)) S) (OUT K S i p (2 + 5 * (8 - o)) (RFv K 5 1 o i) (RO2 K o i))) ∧
  (3 + 7 * (8 - o) ≤ n → ∀ S i p, CT K S i p → p < i → wp (F_rd N n 0 (jj K.2.2.2.2) (jj (o : Int)) S) (OUT K S i p (3 + 5 * (8 - o)) (RFv K 4 2 o i) (RO0 K o i))) ∧
  (4 + 7 * (8 - o) ≤ n → ∀ S i p, CT K S i p → p < i → wp (F_rd N n 6 (jj K.2.2.2.2) (jj (o : Int)) S) (OUT K S i p (4 + 5 * (8 - o)) (RFb K 3 3 o i) (RO6 K o i))) ∧
  (5 + 7 * (8 - o) ≤ n → ∀ S i p, CT K S i p → p < i → wp (F_rd N n 5 (jj K.2.2.2.2) (jj (o : Int)) S) (OUT K S i p (5 + 5 * (8 - o)) (RFb K 1 4 o i) (RO5 K o i))) ∧
  (6 + 7 * (8 - o) ≤ n → ∀ S i p, CT K S i p → p < i → wp (F_rd N n 4 (jj K.2.2.2.2) (jj (o : Int)) S) (OUT K S i p (6 + 5 * (8 - o)) (RFb K 0 5 o i) (RO4 K o i))) ∧
  (7 + 7 * (8 - o) ≤ n → ∀ S i p, CT K S i p → p < i → wp (F_rd N n 3 (jj K.2.2.2.2) (jj (o : Int)) S) (OUT K S i p (6 + 5 * (8 - o)) (RF3 K o i) (RO3 K o i)))
theorem MDS_all {K : Ks} {N : Nat} (hT : TS K) (hN : 400 < N) : ∀ n, MDS K N n := by
  intro n
  induction n with
  | zero => intro o ho; exact ⟨fun z => by omega, fun z => by omega, fun z => by omega, fun z => by omega, fun z => by omega, fun z => by omega, fun z => by omega⟩
  | succ n ih =>
    intro o ho
    obtain ⟨i2, i1, i0, i6, i5, i4, i3⟩ := ih o ho
    refine ⟨fun z => ?_, fun z => ?_, fun z => ?_, fun z => ?_, fun z => ?_, fun z => ?_, fun z => ?_⟩
    · exact m_one hT ho (fun o8 => (ih (o + 1) (by omega)).2.2.1 (by omega)) (fun o8 => (ih (o + 1) (by omega)).2.2.2.2.2.2 (by omega)) (fun o8 => (ih (o + 1) (by omega)).1 (by omega))
    · exact m_product hT ho hN (i2 (by omega))
    · exact m_sum hT ho hN (i1 (by omega))
    · exact m_ask hT ho (fun o8 => (ih (o + 1) (by omega)).2.2.2.1 (by omega)) (i0 (by omega))
    · exact m_both hT ho hN (i6 (by omega))
    · exact m_either hT ho hN (i5 (by omega))
    · exact m_choice (N := N) hT ho (i4 (by omega)) (i0 (by omega))
/-- a law, read by both -/
theorem x_sum {K : Ks} {N : Nat} (hT : TS K) (hN : 400 < N) {S : St} {i p : Nat} (hC : CT K S i p) (hp : p < i) : wp (f_X1_sum N S (jj K.2.2.2.2) (jj ((0 : Nat) : Int))) (OUT K S i p 43 (fun f j => ∀ D, FT K ([], D, 0) 0 i f j) (fun j E => BV (mk8 K) E ∧ ∀ D, ∃ D1, SM D1 E ∧ ∀ n, itR K (n + 1 + (j - i)) ([], D, 0) 0 i = some (0, j, D ++ D1))) := by
  refine wp_mono ((MDS_all hT hN 200 0 (by decide)).2.2.1 (by decide) S i p hC hp) ?_
  intro r hr
  have cx : CX [] 0 2 := ⟨by decide, by decide⟩
  have cr : CR [] 4 := fun x P' e => absurd e (by simp)
  rcases hr with ⟨v0, f, j, hfl, hrf⟩ | ⟨v1, j, q, E, hok, hro⟩
  · exact Or.inl ⟨v0, f, j, hfl, fun D => hrf [] D cx cr (Or.inr rfl)⟩
  · refine Or.inr ⟨v1, j, q, E, hok, hro.1.1, fun D => ?_⟩
    obtain ⟨D1, Q, hQ, m, g⟩ := hro.1.2 [] D cx cr (Or.inr rfl)
    rw [List.append_nil] at g
    have o1 : opn Q = -1 := by
      have := opn_bin (P := []) hQ (by decide)
      rw [List.append_nil] at this
      exact this
    refine ⟨D1 ++ zs Q, m, fun n => ?_⟩
    have := g.2 (n + 1)
    rw [show ((0 : Nat) : Int) = 0 from rfl] at this
    rw [this, itR, if_neg (by decide)]
    have hb : btw Q (K.1 j) = -1 := btw_n (by omega) hro.2
    have hp : ptk Q (K.1 j) = -1 := by
      unfold ptk
      rw [if_neg (by omega), if_neg (by omega), if_neg (by omega), if_neg (by omega)]
    have hs : stl 1 Q (D ++ D1) 0 = ([], D ++ (D1 ++ zs Q), 0) := by
      have := stl_bin (P := []) (D := D ++ D1) (o := 0) (m := 1) hQ (by decide) (by decide)
      rw [List.append_nil, List.append_assoc] at this
      exact this
    rw [if_neg (by show ¬ 0 ≤ btw Q (K.1 j); omega), if_pos (by show ptk Q (K.1 j) < 0; omega), if_neg (by show ¬ 0 ≤ opn Q; omega)]
    show some (0, j, (stl 1 Q (D ++ D1) 0).2.1) = _
    rw [hs]
