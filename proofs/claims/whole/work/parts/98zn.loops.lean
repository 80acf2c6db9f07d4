/-! THE READER: loops. -/
theorem pz_product {rec : Nat → Int32 → Int32 → St → Option (Int32 × St)} {N n : Nat} {x1 x2 x4 : Int32} {S : St} : f_X1_product_b10 rec N (n + 1) x1 x2 0 x4 S = some (0, S) := by
  rw [f_X1_product_b10]
  by_cases z : (300 : Int32) ≤ x4
  · rw [if_pos z]; rfl
  · rw [if_neg z, if_pos rfl]; rfl
theorem lp_product {K : Ks} {rec : Nat → Int32 → Int32 → St → Option (Int32 × St)} {N o i p : Nat} {S : St} (hT : TS K) (ho : o ≤ 8) (h : ∀ S i p, CT K S i p → p < i → wp (rec 2 (jj K.2.2.2.2) (jj (o : Int)) S) (OUT K S i p (1 + 5 * (8 - o)) (RF1 K o i) (RO1 K o i))) (hpi : p < i) : ∀ (n : Nat) (S1 : St) (j q : Nat) (E : Sm) (x4 : Nat), OKC K S S1 i p j q (2 + 5 * (8 - o)) E → ROv K 5 8 1 o i j E →  K.2.2.2.1 - j < n → x4 + i ≤ j → wp (f_X1_product_b10 rec N n (jj K.2.2.2.2) (jj (o : Int)) 1 (jj (x4 : Int)) S1) (OUT K S i p (2 + 5 * (8 - o)) (RFv K 5 1 o i) (RO2 K o i)) := by
  intro n
  induction n with
  | zero => intro S1 j q E x4 hO hR hn hx; omega
  | succ n ih =>
    intro S1 j q E x4 hO hR hn hx
    obtain ⟨hC, hij, hpq, hl, F, hb, hs⟩ := id hO
    have nt := hT.2.1
    have jn := hC.2.1
    have kb := hT.2.2.2.2.1 j
    have step : ∀ k : Int, K.1 j = k → (k = 34 ∨ k = 35) → wp (bnd (f_X1_advance S1) fun q3 => bnd (rec 2 (jj K.2.2.2.2) (jj (o : Int)) q3) fun q4 => bnd (f_X1_add q4.2 (jj k) (0 : Int32)) fun q5 => f_X1_product_b10 rec N n (jj K.2.2.2.2) (jj (o : Int)) q4.1 (jj (x4 : Int) + 1) q5) (OUT K S i p (2 + 5 * (8 - o)) (RFv K 5 1 o i) (RO2 K o i)) := by
      intro k hk hk2
      obtain ⟨S2, e2, C2, F2, b2⟩ := c_adv hT hC (by omega)
      have jn2 := C2.2.1
      rw [bnd_of e2]
      refine wp_call (h S2 (j + 1) q C2 (by omega)) ?_
      intro ⟨v, S3⟩ hv
      show wp (bnd (f_X1_add S3 (jj k) (0 : Int32)) fun q5 => f_X1_product_b10 rec N n (jj K.2.2.2.2) (jj (o : Int)) v (jj (x4 : Int) + 1) q5) _
      obtain ⟨n, rfl⟩ : ∃ n', n = n' + 1 := ⟨n - 1, by omega⟩
      have ref : ∀ P D, CX P o 1 → CR P 5 → C21 K i P → ∃ D1, SM D1 E ∧ GO K (P, D, (o : Int)) 0 i ((k - 26) :: P, D ++ D1, (o : Int)) 0 (j + 1) := by
        intro P D hc hr h21
        obtain ⟨D1, Q, hQ, hm, hg⟩ := hR.2 P D hc hr h21
        refine ⟨D1 ++ zs Q, hm, GO_trans hg (go_btw (b := k - 26) (P' := P) (D' := D ++ (D1 ++ zs Q)) (o' := (o : Int)) ?_ (by omega) ?_ (by have := hc.1; omega))⟩
        · rw [hk]
          unfold btw
          rcases hk2 with rfl | rfl <;> rfl
        · rw [show lvl (k - 26) = 6 by rcases hk2 with rfl | rfl <;> rfl, stl_bin hQ (by decide) (by decide), stl_CR hr (by decide), List.append_assoc]
      have rkk : rk (k - 26) = 6 := by rcases hk2 with rfl | rfl <;> rfl
      rcases hv with ⟨v0, f, jf, hfl, hrf⟩ | ⟨v1, j2, q2, E2, hok, hro⟩
      · simp only at v0 hfl
        obtain ⟨S4, e4, fl4⟩ := c_add_fl (x := jj k) (y := 0) (FLC_trans (FX_trans F F2) hfl)
        rw [bnd_of e4, v0, pz_product]
        refine wp_some (Or.inl ⟨rfl, f, jf, fl4, fun P D hc hr h21 => ?_⟩)
        obtain ⟨D1, -, hg⟩ := ref P D hc hr h21
        exact GO_FT hg (hrf ((k - 26) :: P) _ (by have := hc.1; exact ⟨by simp only [List.length_cons]; omega, ho⟩) (Or.inr (ahd_hi (by omega))))
      · simp only at v1 hok
        obtain ⟨C3, l3, pq3, le3, F3, bu3, sg3⟩ := id hok
        have jn3 := C3.2.1
        obtain ⟨S4, e4, C4, F4, nb4, at4⟩ := c_add (k := k) (g := 0) C3 (by omega)
        have e4 : f_X1_add S3 (jj k) 0 = some S4 := e4
        rw [bnd_of e4, v1, show jj (x4 : Int) + (1 : Int32) = jj ((x4 + 1 : Nat) : Int) from jn_add x4 1]
        have a1 : ∀ z, z < q → gI S4 108 0 z = gI S1 108 0 z := fun z hz => by rw [nb4 z (by omega), bu3 z hz, b2]
        refine ih S4 j2 (q2 + 1) (fun nv cs => jnd k (E nv cs) (E2 nv cs)) (x4 + 1) ⟨C4, by omega, by omega, by omega, FX_trans F (FX_trans F2 (FX_trans F3 F4)), fun z hz => (a1 z (by omega)).trans (hb z hz), ?_⟩ ?_ (by omega) (by omega)
        · exact SEG_two (SEG_congr hs (fun z z1 z2 => a1 z z2)) (SEG_congr sg3 (fun z z1 z2 => nb4 z (by omega))) (by omega) (by omega) (by omega) hR.1 hro.1 at4 (by omega) (by omega) (fun z => by omega)
        · refine ⟨fun nv cs hE => ?_, fun P D hc hr h21 => ?_⟩
          · show -100000000 ≤ jnd k (E nv cs) (E2 nv cs) ∧ jnd k (E nv cs) (E2 nv cs) ≤ 100000000
            rw [jnd_v (by omega)]
            have := bop_b (k - 26) (E nv cs) (E2 nv cs)
            omega
          · obtain ⟨D1, m1, g1⟩ := ref P D hc hr h21
            obtain ⟨D2, m2, g2⟩ := hro.2 ((k - 26) :: P) (D ++ D1) (by have := hc.1; exact ⟨by simp only [List.length_cons]; omega, ho⟩) (Or.inr (ahd_hi (by omega)))
            rw [stl_stop (by omega), List.append_assoc] at g2
            refine ⟨D1 ++ D2, [k - 26], fun x hx => ?_, ?_, GO_trans g1 g2⟩
            · rw [List.mem_singleton.mp hx]; omega
            · have e : (fun nv cs => jnd k (E nv cs) (E2 nv cs)) = fun nv cs => bop (k - 26) (E nv cs) (E2 nv cs) := by
                funext nv cs
                exact jnd_v (by omega)
              rw [e]
              exact SM_bin m1 m2 (by omega) (by omega)
    simp only [f_X1_product_b10]
    rw [if_neg (show ¬ (300 : Int32) ≤ jj (x4 : Int) by rw [show (300 : Int32) = jj 300 from rfl, jj_le (by decide) (by decide) (by omega) (by omega)]; omega), if_neg (show ¬ (1 : Int32) = 0 by decide), hC.2.2.2.1]
    have jA : (jj (K.1 j) = (34 : Int32)) = (K.1 j = 34) := jj_eq (b := 34) (by omega) (by omega) (by decide) (by decide)
    have jB : (jj (K.1 j) = (35 : Int32)) = (K.1 j = 35) := jj_eq (b := 35) (by omega) (by omega) (by decide) (by decide)
    by_cases q1 : K.1 j = 34
    · rw [if_pos (jA.mpr q1)]
      unfold f_X1_product_b40
      simp only [lt]
      rw [hC.2.2.2.1]
      exact step (K.1 j) rfl (Or.inl q1)
    · rw [if_neg (fun z => q1 (jA.mp z))]
      by_cases q2 : K.1 j = 35
      · rw [if_pos (jB.mpr q2)]
        unfold f_X1_product_b40
        simp only [lt]
        rw [hC.2.2.2.1]
        exact step (K.1 j) rfl (Or.inr q2)
      · rw [if_neg (fun z => q2 (jB.mp z))]
        exact wp_chk rfl (wp_some (Or.inr ⟨rfl, j, q, E, hO, hR, q1, q2⟩))
theorem pz_sum {rec : Nat → Int32 → Int32 → St → Option (Int32 × St)} {N n : Nat} {x1 x2 x4 : Int32} {S : St} : f_X1_sum_b10 rec N (n + 1) x1 x2 0 x4 S = some (0, S) := by
  rw [f_X1_sum_b10]
  by_cases z : (300 : Int32) ≤ x4
  · rw [if_pos z]; rfl
  · rw [if_neg z, if_pos rfl]; rfl
theorem lp_sum {K : Ks} {rec : Nat → Int32 → Int32 → St → Option (Int32 × St)} {N o i p : Nat} {S : St} (hT : TS K) (ho : o ≤ 8) (h : ∀ S i p, CT K S i p → p < i → wp (rec 1 (jj K.2.2.2.2) (jj (o : Int)) S) (OUT K S i p (2 + 5 * (8 - o)) (RFv K 5 1 o i) (RO2 K o i))) (hpi : p < i) : ∀ (n : Nat) (S1 : St) (j q : Nat) (E : Sm) (x4 : Nat), OKC K S S1 i p j q (3 + 5 * (8 - o)) E → ROv K 4 6 2 o i j E → (K.1 j ≠ 34 ∧ K.1 j ≠ 35) →  K.2.2.2.1 - j < n → x4 + i ≤ j → wp (f_X1_sum_b10 rec N n (jj K.2.2.2.2) (jj (o : Int)) 1 (jj (x4 : Int)) S1) (OUT K S i p (3 + 5 * (8 - o)) (RFv K 4 2 o i) (RO0 K o i)) := by
  intro n
  induction n with
  | zero => intro S1 j q E x4 hO hR hE3 hn hx; omega
  | succ n ih =>
    intro S1 j q E x4 hO hR hE3 hn hx
    obtain ⟨hC, hij, hpq, hl, F, hb, hs⟩ := id hO
    have nt := hT.2.1
    have jn := hC.2.1
    have kb := hT.2.2.2.2.1 j
    have step : ∀ k : Int, K.1 j = k → (k = 32 ∨ k = 33) → wp (bnd (f_X1_advance S1) fun q3 => bnd (rec 1 (jj K.2.2.2.2) (jj (o : Int)) q3) fun q4 => bnd (f_X1_add q4.2 (jj k) (0 : Int32)) fun q5 => f_X1_sum_b10 rec N n (jj K.2.2.2.2) (jj (o : Int)) q4.1 (jj (x4 : Int) + 1) q5) (OUT K S i p (3 + 5 * (8 - o)) (RFv K 4 2 o i) (RO0 K o i)) := by
      intro k hk hk2
      obtain ⟨S2, e2, C2, F2, b2⟩ := c_adv hT hC (by omega)
      have jn2 := C2.2.1
      rw [bnd_of e2]
      refine wp_call (h S2 (j + 1) q C2 (by omega)) ?_
      intro ⟨v, S3⟩ hv
      show wp (bnd (f_X1_add S3 (jj k) (0 : Int32)) fun q5 => f_X1_sum_b10 rec N n (jj K.2.2.2.2) (jj (o : Int)) v (jj (x4 : Int) + 1) q5) _
      obtain ⟨n, rfl⟩ : ∃ n', n = n' + 1 := ⟨n - 1, by omega⟩
      have ref : ∀ P D, CX P o 2 → CR P 4 → C21 K i P → ∃ D1, SM D1 E ∧ GO K (P, D, (o : Int)) 0 i ((k - 26) :: P, D ++ D1, (o : Int)) 0 (j + 1) := by
        intro P D hc hr h21
        obtain ⟨D1, Q, hQ, hm, hg⟩ := hR.2 P D hc hr h21
        refine ⟨D1 ++ zs Q, hm, GO_trans hg (go_btw (b := k - 26) (P' := P) (D' := D ++ (D1 ++ zs Q)) (o' := (o : Int)) ?_ (by omega) ?_ (by have := hc.1; omega))⟩
        · rw [hk]
          unfold btw
          rcases hk2 with rfl | rfl <;> rfl
        · rw [show lvl (k - 26) = 5 by rcases hk2 with rfl | rfl <;> rfl, stl_bin hQ (by decide) (by decide), stl_CR hr (by decide), List.append_assoc]
      have rkk : rk (k - 26) = 5 := by rcases hk2 with rfl | rfl <;> rfl
      rcases hv with ⟨v0, f, jf, hfl, hrf⟩ | ⟨v1, j2, q2, E2, hok, hro⟩
      · simp only at v0 hfl
        obtain ⟨S4, e4, fl4⟩ := c_add_fl (x := jj k) (y := 0) (FLC_trans (FX_trans F F2) hfl)
        rw [bnd_of e4, v0, pz_sum]
        refine wp_some (Or.inl ⟨rfl, f, jf, fl4, fun P D hc hr h21 => ?_⟩)
        obtain ⟨D1, -, hg⟩ := ref P D hc hr h21
        exact GO_FT hg (hrf ((k - 26) :: P) _ (by have := hc.1; exact ⟨by simp only [List.length_cons]; omega, ho⟩) (CR_cons (by omega)) (Or.inr (ahd_hi (by omega))))
      · simp only at v1 hok
        obtain ⟨C3, l3, pq3, le3, F3, bu3, sg3⟩ := id hok
        have jn3 := C3.2.1
        obtain ⟨S4, e4, C4, F4, nb4, at4⟩ := c_add (k := k) (g := 0) C3 (by omega)
        have e4 : f_X1_add S3 (jj k) 0 = some S4 := e4
        rw [bnd_of e4, v1, show jj (x4 : Int) + (1 : Int32) = jj ((x4 + 1 : Nat) : Int) from jn_add x4 1]
        have a1 : ∀ z, z < q → gI S4 108 0 z = gI S1 108 0 z := fun z hz => by rw [nb4 z (by omega), bu3 z hz, b2]
        refine ih S4 j2 (q2 + 1) (fun nv cs => jnd k (E nv cs) (E2 nv cs)) (x4 + 1) ⟨C4, by omega, by omega, by omega, FX_trans F (FX_trans F2 (FX_trans F3 F4)), fun z hz => (a1 z (by omega)).trans (hb z hz), ?_⟩ ?_ ⟨hro.2.1, hro.2.2⟩ (by omega) (by omega)
        · exact SEG_two (SEG_congr hs (fun z z1 z2 => a1 z z2)) (SEG_congr sg3 (fun z z1 z2 => nb4 z (by omega))) (by omega) (by omega) (by omega) hR.1 hro.1.1 at4 (by omega) (by omega) (fun z => by omega)
        · refine ⟨fun nv cs hE => ?_, fun P D hc hr h21 => ?_⟩
          · show -100000000 ≤ jnd k (E nv cs) (E2 nv cs) ∧ jnd k (E nv cs) (E2 nv cs) ≤ 100000000
            rw [jnd_v (by omega)]
            have := bop_b (k - 26) (E nv cs) (E2 nv cs)
            omega
          · obtain ⟨D1, m1, g1⟩ := ref P D hc hr h21
            obtain ⟨D2, Q2, hQ2, m2, g2⟩ := hro.1.2 ((k - 26) :: P) (D ++ D1) (by have := hc.1; exact ⟨by simp only [List.length_cons]; omega, ho⟩) (CR_cons (by omega)) (Or.inr (ahd_hi (by omega)))
            rw [List.append_assoc] at g2
            refine ⟨D1 ++ D2, Q2 ++ [k - 26], fun x hx => ?_, ?_, GO_trans g1 (by rw [List.append_assoc]; exact g2)⟩
            · rcases List.mem_append.mp hx with z | z
              · exact bin_mono hQ2 (by decide) x z
              · rw [List.mem_singleton.mp z]; omega
            · have e : (fun nv cs => jnd k (E nv cs) (E2 nv cs)) = fun nv cs => bop (k - 26) (E nv cs) (E2 nv cs) := by
                funext nv cs
                exact jnd_v (by omega)
              have r := SM_bin m1 m2 (o := k - 26) (by omega) (by omega)
              rw [e, zs_app]
              rw [show D1 ++ D2 ++ (zs Q2 ++ zs [k - 26]) = D1 ++ (D2 ++ zs Q2) ++ [(k - 26, 0)] by simp [zs]]
              exact r
    simp only [f_X1_sum_b10]
    rw [if_neg (show ¬ (300 : Int32) ≤ jj (x4 : Int) by rw [show (300 : Int32) = jj 300 from rfl, jj_le (by decide) (by decide) (by omega) (by omega)]; omega), if_neg (show ¬ (1 : Int32) = 0 by decide), hC.2.2.2.1]
    have jA : (jj (K.1 j) = (32 : Int32)) = (K.1 j = 32) := jj_eq (b := 32) (by omega) (by omega) (by decide) (by decide)
    have jB : (jj (K.1 j) = (33 : Int32)) = (K.1 j = 33) := jj_eq (b := 33) (by omega) (by omega) (by decide) (by decide)
    by_cases q1 : K.1 j = 32
    · rw [if_pos (jA.mpr q1)]
      unfold f_X1_sum_b40
      simp only [lt]
      rw [hC.2.2.2.1]
      exact step (K.1 j) rfl (Or.inl q1)
    · rw [if_neg (fun z => q1 (jA.mp z))]
      by_cases q2 : K.1 j = 33
      · rw [if_pos (jB.mpr q2)]
        unfold f_X1_sum_b40
        simp only [lt]
        rw [hC.2.2.2.1]
        exact step (K.1 j) rfl (Or.inr q2)
      · rw [if_neg (fun z => q2 (jB.mp z))]
        exact wp_chk rfl (wp_some (Or.inr ⟨rfl, j, q, E, hO, hR, hE3.1, hE3.2, q1, q2⟩))
theorem BT_BV {m : Int} {E : Sm} (h : BT m E) : BV m E := fun nv cs hE => by rcases h nv cs hE with z | z <;> rw [z] <;> decide
theorem pz_both {rec : Nat → Int32 → Int32 → St → Option (Int32 × St)} {N n : Nat} {x1 x2 x4 : Int32} {S : St} : f_X1_both_b10 rec N (n + 1) x1 x2 0 x4 S = some (0, S) := by
  rw [f_X1_both_b10]
  by_cases z : (300 : Int32) ≤ x4
  · rw [if_pos z]; rfl
  · rw [if_neg z, if_pos rfl]; rfl
theorem lp_both {K : Ks} {rec : Nat → Int32 → Int32 → St → Option (Int32 × St)} {N o i p : Nat} {S : St} (hT : TS K) (ho : o ≤ 8) (h : ∀ S i p, CT K S i p → p < i → wp (rec 6 (jj K.2.2.2.2) (jj (o : Int)) S) (OUT K S i p (4 + 5 * (8 - o)) (RFb K 3 3 o i) (RO6 K o i))) (hpi : p < i) : ∀ (n : Nat) (S1 : St) (j q : Nat) (E : Sm) (x4 : Nat), OKC K S S1 i p j q (5 + 5 * (8 - o)) E → ROb K 1 2 4 o i j E →  K.2.2.2.1 - j < n → x4 + i ≤ j → wp (f_X1_both_b10 rec N n (jj K.2.2.2.2) (jj (o : Int)) 1 (jj (x4 : Int)) S1) (OUT K S i p (5 + 5 * (8 - o)) (RFb K 1 4 o i) (RO5 K o i)) := by
  intro n
  induction n with
  | zero => intro S1 j q E x4 hO hR hn hx; omega
  | succ n ih =>
    intro S1 j q E x4 hO hR hn hx
    obtain ⟨hC, hij, hpq, hl, F, hb, hs⟩ := id hO
    have nt := hT.2.1
    have jn := hC.2.1
    have kb := hT.2.2.2.2.1 j
    have step : ∀ k : Int, K.1 j = k → (k = 25) → wp (bnd (f_X1_advance S1) fun q3 => bnd (rec 6 (jj K.2.2.2.2) (jj (o : Int)) q3) fun q4 => bnd (f_X1_add q4.2 (jj k) (0 : Int32)) fun q5 => f_X1_both_b10 rec N n (jj K.2.2.2.2) (jj (o : Int)) q4.1 (jj (x4 : Int) + 1) q5) (OUT K S i p (5 + 5 * (8 - o)) (RFb K 1 4 o i) (RO5 K o i)) := by
      intro k hk hk2
      obtain ⟨S2, e2, C2, F2, b2⟩ := c_adv hT hC (by omega)
      have jn2 := C2.2.1
      rw [bnd_of e2]
      refine wp_call (h S2 (j + 1) q C2 (by omega)) ?_
      intro ⟨v, S3⟩ hv
      show wp (bnd (f_X1_add S3 (jj k) (0 : Int32)) fun q5 => f_X1_both_b10 rec N n (jj K.2.2.2.2) (jj (o : Int)) v (jj (x4 : Int) + 1) q5) _
      obtain ⟨n, rfl⟩ : ∃ n', n = n' + 1 := ⟨n - 1, by omega⟩
      have ref : ∀ P D, CX P o 4 → ahd P = 1 → CR P 1 → ∃ D1, SB D1 E ∧ GO K (P, D, (o : Int)) 0 i (21 :: P, D ++ D1, (o : Int)) 0 (j + 1) := by
        intro P D hc ha hr
        obtain ⟨D1, Q, hQ, hcm, hm, hg⟩ := hR.2.2 P D hc ha hr
        have hop : opn (Q ++ P) = 41 := (opn_app Q (fun x hx => by have := hQ x hx; omega)).trans (ahd_opn ha)
        refine ⟨D1 ++ zs Q, hm, GO_trans hg (go_btw (b := 21) (P' := P) (D' := D ++ (D1 ++ zs Q)) (o' := (o : Int)) ?_ (by decide) ?_ (by have := hc.1; omega))⟩
        · rw [hk, hk2]
          unfold btw
          rw [if_neg (by decide), if_neg (by decide), if_neg (by decide), if_neg (by decide), if_pos hop, hcm]
          rfl
        · rw [show lvl 21 = 2 from rfl, stl_app Q _ _ (fun x hx => by have := hQ x hx; omega), stl_CR hr (by decide), List.append_assoc]
      have rkk : rk 21 = 2 := rfl
      rcases hv with ⟨v0, f, jf, hfl, hrf⟩ | ⟨v1, j2, q2, E2, hok, hro⟩
      · simp only at v0 hfl
        obtain ⟨S4, e4, fl4⟩ := c_add_fl (x := jj k) (y := 0) (FLC_trans (FX_trans F F2) hfl)
        rw [bnd_of e4, v0, pz_both]
        refine wp_some (Or.inl ⟨rfl, f, jf, fl4, fun P D hc ha hr => ?_⟩)
        obtain ⟨D1, -, hg⟩ := ref P D hc ha hr
        exact GO_FT hg (hrf (21 :: P) _ (by have := hc.1; exact ⟨by simp only [List.length_cons]; omega, ho⟩) (ahd_lo (by decide) (by decide) (ahd_opn ha)) (CR_cons (by decide)))
      · simp only at v1 hok
        obtain ⟨C3, l3, pq3, le3, F3, bu3, sg3⟩ := id hok
        have jn3 := C3.2.1
        obtain ⟨S4, e4, C4, F4, nb4, at4⟩ := c_add (k := k) (g := 0) C3 (by omega)
        have e4 : f_X1_add S3 (jj k) 0 = some S4 := e4
        rw [bnd_of e4, v1, show jj (x4 : Int) + (1 : Int32) = jj ((x4 + 1 : Nat) : Int) from jn_add x4 1]
        have a1 : ∀ z, z < q → gI S4 108 0 z = gI S1 108 0 z := fun z hz => by rw [nb4 z (by omega), bu3 z hz, b2]
        refine ih S4 j2 (q2 + 1) (fun nv cs => jnd k (E nv cs) (E2 nv cs)) (x4 + 1) ⟨C4, by omega, by omega, by omega, FX_trans F (FX_trans F2 (FX_trans F3 F4)), fun z hz => (a1 z (by omega)).trans (hb z hz), ?_⟩ ?_ (by omega) (by omega)
        · exact SEG_two (SEG_congr hs (fun z z1 z2 => a1 z z2)) (SEG_congr sg3 (fun z z1 z2 => nb4 z (by omega))) (by omega) (by omega) (by omega) (BT_BV hR.1) (BT_BV hro.1) at4 (by omega) (by omega) (fun _ => ⟨hR.1, hro.1⟩)
        · refine ⟨fun nv cs hE => ?_, hro.2.1, fun P D hc ha hr => ?_⟩
          · rw [hk2]
            exact jop_b 21 (E nv cs) (E2 nv cs)
          · obtain ⟨D1, m1, g1⟩ := ref P D hc ha hr
            obtain ⟨D2, Q2, hQ2, hcm2, m2, g2⟩ := hro.2.2 (21 :: P) (D ++ D1) (by have := hc.1; exact ⟨by simp only [List.length_cons]; omega, ho⟩) (ahd_lo (by decide) (by decide) (ahd_opn ha)) (CR_cons (by decide))
            rw [List.append_assoc] at g2
            refine ⟨D1 ++ D2, Q2 ++ [21], fun x hx => ?_, by rw [List.append_assoc]; exact hcm2, ?_, GO_trans g1 ?_⟩
            · rcases List.mem_append.mp hx with z | z
              · have := hQ2 x z; omega
              · rw [List.mem_singleton.mp z]; decide
            · have r := SB_two m1 m2 (o := 21) (by decide)
              have e : (fun nv cs => jnd k (E nv cs) (E2 nv cs)) = fun nv cs => jop 21 (E nv cs) (E2 nv cs) := by
                rw [hk2]
                rfl
              rw [e, zs_app]
              rw [show D1 ++ D2 ++ (zs Q2 ++ zs [21]) = D1 ++ (D2 ++ zs Q2) ++ [(21, 0)] by simp [zs]]
              exact r
            · rw [nots_app, show nots [21] = 0 from rfl, Int.add_zero, List.append_assoc]
              exact g2
    simp only [f_X1_both_b10]
    rw [if_neg (show ¬ (300 : Int32) ≤ jj (x4 : Int) by rw [show (300 : Int32) = jj 300 from rfl, jj_le (by decide) (by decide) (by omega) (by omega)]; omega), if_neg (show ¬ (1 : Int32) = 0 by decide), hC.2.2.2.1]
    have jA : (jj (K.1 j) = (25 : Int32)) = (K.1 j = 25) := jj_eq (b := 25) (by omega) (by omega) (by decide) (by decide)
    by_cases q1 : K.1 j = 25
    · rw [if_pos (jA.mpr q1)]
      simp only [lt]
      have := step (K.1 j) rfl q1
      rw [q1] at this
      exact this
    · rw [if_neg (fun z => q1 (jA.mp z))]
      exact wp_chk rfl (wp_some (Or.inr ⟨rfl, j, q, E, hO, hR, q1⟩))
theorem pz_either {rec : Nat → Int32 → Int32 → St → Option (Int32 × St)} {N n : Nat} {x1 x2 x4 : Int32} {S : St} : f_X1_either_b10 rec N (n + 1) x1 x2 0 x4 S = some (0, S) := by
  rw [f_X1_either_b10]
  by_cases z : (300 : Int32) ≤ x4
  · rw [if_pos z]; rfl
  · rw [if_neg z, if_pos rfl]; rfl
theorem lp_either {K : Ks} {rec : Nat → Int32 → Int32 → St → Option (Int32 × St)} {N o i p : Nat} {S : St} (hT : TS K) (ho : o ≤ 8) (h : ∀ S i p, CT K S i p → p < i → wp (rec 5 (jj K.2.2.2.2) (jj (o : Int)) S) (OUT K S i p (5 + 5 * (8 - o)) (RFb K 1 4 o i) (RO5 K o i))) (hpi : p < i) : ∀ (n : Nat) (S1 : St) (j q : Nat) (E : Sm) (x4 : Nat), OKC K S S1 i p j q (6 + 5 * (8 - o)) E → ROb K 0 1 5 o i j E → K.1 j ≠ 25 →  K.2.2.2.1 - j < n → x4 + i ≤ j → wp (f_X1_either_b10 rec N n (jj K.2.2.2.2) (jj (o : Int)) 1 (jj (x4 : Int)) S1) (OUT K S i p (6 + 5 * (8 - o)) (RFb K 0 5 o i) (RO4 K o i)) := by
  intro n
  induction n with
  | zero => intro S1 j q E x4 hO hR hE3 hn hx; omega
  | succ n ih =>
    intro S1 j q E x4 hO hR hE3 hn hx
    obtain ⟨hC, hij, hpq, hl, F, hb, hs⟩ := id hO
    have nt := hT.2.1
    have jn := hC.2.1
    have kb := hT.2.2.2.2.1 j
    have step : ∀ k : Int, K.1 j = k → (k = 24) → wp (bnd (f_X1_advance S1) fun q3 => bnd (rec 5 (jj K.2.2.2.2) (jj (o : Int)) q3) fun q4 => bnd (f_X1_add q4.2 (jj k) (0 : Int32)) fun q5 => f_X1_either_b10 rec N n (jj K.2.2.2.2) (jj (o : Int)) q4.1 (jj (x4 : Int) + 1) q5) (OUT K S i p (6 + 5 * (8 - o)) (RFb K 0 5 o i) (RO4 K o i)) := by
      intro k hk hk2
      obtain ⟨S2, e2, C2, F2, b2⟩ := c_adv hT hC (by omega)
      have jn2 := C2.2.1
      rw [bnd_of e2]
      refine wp_call (h S2 (j + 1) q C2 (by omega)) ?_
      intro ⟨v, S3⟩ hv
      show wp (bnd (f_X1_add S3 (jj k) (0 : Int32)) fun q5 => f_X1_either_b10 rec N n (jj K.2.2.2.2) (jj (o : Int)) v (jj (x4 : Int) + 1) q5) _
      obtain ⟨n, rfl⟩ : ∃ n', n = n' + 1 := ⟨n - 1, by omega⟩
      have ref : ∀ P D, CX P o 5 → ahd P = 1 → CR P 0 → ∃ D1, SB D1 E ∧ GO K (P, D, (o : Int)) 0 i (22 :: P, D ++ D1, (o : Int)) 0 (j + 1) := by
        intro P D hc ha hr
        obtain ⟨D1, Q, hQ, hcm, hm, hg⟩ := hR.2.2 P D hc ha hr
        have hop : opn (Q ++ P) = 41 := (opn_app Q (fun x hx => by have := hQ x hx; omega)).trans (ahd_opn ha)
        refine ⟨D1 ++ zs Q, hm, GO_trans hg (go_btw (b := 22) (P' := P) (D' := D ++ (D1 ++ zs Q)) (o' := (o : Int)) ?_ (by decide) ?_ (by have := hc.1; omega))⟩
        · rw [hk, hk2]
          unfold btw
          rw [if_neg (by decide), if_neg (by decide), if_neg (by decide), if_neg (by decide), if_pos hop, hcm]
          rfl
        · rw [show lvl 22 = 1 from rfl, stl_app Q _ _ (fun x hx => by have := hQ x hx; omega), stl_CR hr (by decide), List.append_assoc]
      have rkk : rk 22 = 1 := rfl
      rcases hv with ⟨v0, f, jf, hfl, hrf⟩ | ⟨v1, j2, q2, E2, hok, hro⟩
      · simp only at v0 hfl
        obtain ⟨S4, e4, fl4⟩ := c_add_fl (x := jj k) (y := 0) (FLC_trans (FX_trans F F2) hfl)
        rw [bnd_of e4, v0, pz_either]
        refine wp_some (Or.inl ⟨rfl, f, jf, fl4, fun P D hc ha hr => ?_⟩)
        obtain ⟨D1, -, hg⟩ := ref P D hc ha hr
        exact GO_FT hg (hrf (22 :: P) _ (by have := hc.1; exact ⟨by simp only [List.length_cons]; omega, ho⟩) (ahd_lo (by decide) (by decide) (ahd_opn ha)) (CR_cons (by decide)))
      · simp only at v1 hok
        obtain ⟨C3, l3, pq3, le3, F3, bu3, sg3⟩ := id hok
        have jn3 := C3.2.1
        obtain ⟨S4, e4, C4, F4, nb4, at4⟩ := c_add (k := k) (g := 0) C3 (by omega)
        have e4 : f_X1_add S3 (jj k) 0 = some S4 := e4
        rw [bnd_of e4, v1, show jj (x4 : Int) + (1 : Int32) = jj ((x4 + 1 : Nat) : Int) from jn_add x4 1]
        have a1 : ∀ z, z < q → gI S4 108 0 z = gI S1 108 0 z := fun z hz => by rw [nb4 z (by omega), bu3 z hz, b2]
        refine ih S4 j2 (q2 + 1) (fun nv cs => jnd k (E nv cs) (E2 nv cs)) (x4 + 1) ⟨C4, by omega, by omega, by omega, FX_trans F (FX_trans F2 (FX_trans F3 F4)), fun z hz => (a1 z (by omega)).trans (hb z hz), ?_⟩ ?_ hro.2 (by omega) (by omega)
        · exact SEG_two (SEG_congr hs (fun z z1 z2 => a1 z z2)) (SEG_congr sg3 (fun z z1 z2 => nb4 z (by omega))) (by omega) (by omega) (by omega) (BT_BV hR.1) (BT_BV hro.1.1) at4 (by omega) (by omega) (fun _ => ⟨hR.1, hro.1.1⟩)
        · refine ⟨fun nv cs hE => ?_, hro.1.2.1, fun P D hc ha hr => ?_⟩
          · rw [hk2]
            exact jop_b 22 (E nv cs) (E2 nv cs)
          · obtain ⟨D1, m1, g1⟩ := ref P D hc ha hr
            obtain ⟨D2, Q2, hQ2, hcm2, m2, g2⟩ := hro.1.2.2 (22 :: P) (D ++ D1) (by have := hc.1; exact ⟨by simp only [List.length_cons]; omega, ho⟩) (ahd_lo (by decide) (by decide) (ahd_opn ha)) (CR_cons (by decide))
            rw [List.append_assoc] at g2
            refine ⟨D1 ++ D2, Q2 ++ [22], fun x hx => ?_, by rw [List.append_assoc]; exact hcm2, ?_, GO_trans g1 ?_⟩
            · rcases List.mem_append.mp hx with z | z
              · have := hQ2 x z; omega
              · rw [List.mem_singleton.mp z]; decide
            · have r := SB_two m1 m2 (o := 22) (by decide)
              have e : (fun nv cs => jnd k (E nv cs) (E2 nv cs)) = fun nv cs => jop 22 (E nv cs) (E2 nv cs) := by
                rw [hk2]
                rfl
              rw [e, zs_app]
              rw [show D1 ++ D2 ++ (zs Q2 ++ zs [22]) = D1 ++ (D2 ++ zs Q2) ++ [(22, 0)] by simp [zs]]
              exact r
            · rw [nots_app, show nots [22] = 0 from rfl, Int.add_zero, List.append_assoc]
              exact g2
    simp only [f_X1_either_b10]
    rw [if_neg (show ¬ (300 : Int32) ≤ jj (x4 : Int) by rw [show (300 : Int32) = jj 300 from rfl, jj_le (by decide) (by decide) (by omega) (by omega)]; omega), if_neg (show ¬ (1 : Int32) = 0 by decide), hC.2.2.2.1]
    have jA : (jj (K.1 j) = (24 : Int32)) = (K.1 j = 24) := jj_eq (b := 24) (by omega) (by omega) (by decide) (by decide)
    by_cases q1 : K.1 j = 24
    · rw [if_pos (jA.mpr q1)]
      simp only [lt]
      have := step (K.1 j) rfl q1
      rw [q1] at this
      exact this
    · rw [if_neg (fun z => q1 (jA.mp z))]
      exact wp_chk rfl (wp_some (Or.inr ⟨rfl, j, q, E, hO, hR, hE3, q1⟩))
