/-! which: seekWays; the call. -/
theorem blw_no {em et : Sem} {h : Int} {I A : Int → Int} {w : Int} (s : Int × Int) (q : ¬ 0 < I (11 + w / 2)) : blw em et h I A w s = s := itr_id 24 0 s (fun i x _ _ => fsw_no (fun p => q p.1))
theorem blw_yes {em et : Sem} {h : Int} {I A : Int → Int} {w : Int} (s : Int × Int) (q : 0 < I (11 + w / 2)) : blw em et h I A w s = itr (fsw (P2W em et h (ST0 em et I h w) A) (fun _ => w)) 0 24 s := itr_congr 24 0 s (fun i x _ _ => fsw_congr ⟨fun p => p.2, fun p => ⟨q, p⟩⟩ rfl)
theorem c_ways {S S0 : St} {N : Nat} {A I : Int → Int} {M W h : Int} {em et : Sem} (hN : 4000 < N) (hC : XC S A M W em et) (F0 : FX TRP S S0) (hI : OKS I M) (gI0 : AG0 A I) (L0 : LAY S0 62 I) (hw : WRT S0 W) (hW : W + 600 < 100000000) (h0 : 0 ≤ h ∧ h < A 0) (e5 : gI S0 705 0 0 = jj 0) (e6 : gI S0 706 0 0 = jj (-1)) (e7 : gI S0 707 0 0 = jj (-1)) : wp (f_X7_seekWays_b52 N N (jj h) (jj 0) S0) (fun S' => FX TRP S S' ∧ WRT S' (W + 600) ∧ gI S' 705 0 0 = jj ((wya em et h I A 24).1 + (wyb em et h I A 24).1) ∧ gI S' 706 0 0 = jj (wya em et h I A 24).2 ∧ gI S' 707 0 0 = jj (wyb em et h I A 24).2) := by
  have hO := hC.2.1.1
  have h04 := hO.2.2.1.2.1
  refine wp_up (F := fun n (s : St) k => f_X7_seekWays_b52 N n (jj h) (jj k) s) (P := fun k s => 0 ≤ k ∧ FX TRP S s ∧ LAY s 62 I ∧ WRT s (W + 25 * k) ∧ gI s 705 0 0 = jj ((wya em et h I A k.toNat).1 + (wyb em et h I A k.toNat).1) ∧ gI s 706 0 0 = jj (wya em et h I A k.toNat).2 ∧ gI s 707 0 0 = jj (wyb em et h I A k.toNat).2) (E := 24) ?_ ?_ 24 N 0 S0 (by decide) (by omega) ⟨by decide, F0, L0, WRT_mono hw (by omega), e5, e6, e7⟩
  · intro n S1 ⟨k0, F1, L1, w1, g5, g6, g7⟩
    simp only [f_X7_seekWays_b52]
    rw [if_pos (show (24 : Int32) ≤ jj 24 by rw [jj_of]; exact Int32.le_refl _)]
    exact wp_some ⟨F1, WRT_mono w1 (by omega), g5, g6, g7⟩
  · intro n S1 k hk ⟨k0, F1, L1, w1, g5, g6, g7⟩ ih
    have ba := wya_b (em := em) (et := et) (h := h) (I := I) (A := A) k.toNat (by omega)
    have bb := wyb_b (em := em) (et := et) (h := h) (I := I) (A := A) k.toNat (by omega)
    have sa : wya em et h I A (k + 1).toNat = fsw (P2W em et h I A) (fun w => w) k (wya em et h I A k.toNat) := by
      unfold wya
      rw [show (k + 1).toNat = k.toNat + 1 by omega, itr_last, show (0 : Int) + (k.toNat : Int) = k by omega]
    have sb : wyb em et h I A (k + 1).toNat = blw em et h I A k (wyb em et h I A k.toNat) := by
      unfold wyb
      rw [show (k + 1).toNat = k.toNat + 1 by omega, itr_last, show (0 : Int) + (k.toNat : Int) = k by omega]
    generalize hu : wya em et h I A k.toNat = u at *
    generalize hv : wyb em et h I A k.toNat = v at *
    obtain ⟨a, b⟩ := u
    obtain ⟨c, d⟩ := v
    simp only at g5 g6 g7 ba bb
    simp only [f_X7_seekWays_b52, lt]
    rw [if_neg (show ¬ (24 : Int32) ≤ jj k by rw [show (24 : Int32) = jj 24 from rfl, jj_le (by omega) (by omega) (by omega) (by omega)]; omega)]
    by_cases q : 0 < I (11 + k / 2)
    · obtain ⟨S2, e2, L2, F2, w2⟩ := c_tried1 (at_ := 0) (h := h) (w := k) hN hC F1 (by decide) hI gI0 L1 w1 (by omega) h0 k0 hk q
      have e2 : f_X7_tried N S1 0 (jj h) (jj k) = some (jj 1, S2) := e2
      have L2 : LAY S2 63 (ST0 em et I h k) := L2
      have O2 := ST0_OKS (em := em) (et := et) (h := h) hI ⟨h0.1, by omega⟩ k0 hk
      have g2 : AG0 A (ST0 em et I h k) := fun i z => (ST0_AG0 (em := em) (et := et) (h := h) (A := I) k0 hk i z).trans (gI0 i z)
      have FT : FX TRP S S2 := FX_trans F1 (FX_sub F2 (fun f j q => by unfold PUP at q; unfold TRP; omega))
      obtain ⟨x, ex, lk⟩ := x_like (j := 63) (k := 0) (N := N) hN O2 hO L2 (FX_LAY FT (fun f a b => by unfold TRP; omega) hC.1.2.1.1)
      have y5 := (F2.1 705 0 0 (by unfold PUP; omega)).trans g5
      have y6 := (F2.1 706 0 0 (by unfold PUP; omega)).trans g6
      have y7 := (F2.1 707 0 0 (by unfold PUP; omega)).trans g7
      have L62 : LAY S2 62 I := FX_LAY F2 (fun f a b => by unfold PUP; omega) L1
      rw [bnd_of e2, if_neg (show ¬ jj 1 = (0 : Int32) by decide), bnd_of ex]
      have rest : ∀ (S3 : St) (a' b' : Int), FX (fun f _ => f = 705 ∨ f = 706) S2 S3 → fsw (P2W em et h I A) (fun w => w) k (a, b) = (a', b') → 0 ≤ a' → a' ≤ 25 → gI S3 705 0 0 = jj (a' + c) → gI S3 706 0 0 = jj b' → wp (bnd (f_X7_seekSecond N S3 (jj h) (jj k)) fun q12 => f_X7_seekWays_b52 N n (jj h) (jj k + 1) q12) (fun S' => FX TRP S S' ∧ WRT S' (W + 600) ∧ gI S' 705 0 0 = jj ((wya em et h I A 24).1 + (wyb em et h I A 24).1) ∧ gI S' 706 0 0 = jj (wya em et h I A 24).2 ∧ gI S' 707 0 0 = jj (wyb em et h I A 24).2) := by
        intro S3 a' b' F3 hf ha ha2 z5 z6
        refine wp_call (c_second (S := S) (S1 := S3) (X := ST0 em et I h k) (W := W + 25 * k + 1) (a := a' + c) (b := d) hN hC (FX_trans FT (FX_sub F3 (fun f j q => by unfold TRP; omega))) O2 g2 (FX_LAY F3 (fun f a b => by omega) L2) (WRT_FX F3 (fun j => by omega) w2) (by omega) h0 k0 hk (by omega) (by omega) (by omega) (by omega) z5 ((F3.1 707 0 0 (by omega)).trans y7)) ?_
        intro S4 ⟨F4, w4, z5', z7'⟩
        rw [show jj k + (1 : Int32) = jj (k + 1) from jj_add k 1]
        have bs := blw_yes (em := em) (et := et) (h := h) (A := A) (c, d) q
        rw [fsw_split] at bs z5' z7'
        refine ih S4 ⟨by omega, FX_trans FT (FX_trans (FX_sub F3 (fun f j q => by unfold TRP; omega)) (FX_sub F4 (fun f j q => by unfold SPS at q; unfold TRP; omega))), FX_LAY F4 (fun f a b => by unfold SPS; omega) (FX_LAY F3 (fun f a b => by omega) L62), WRT_mono w4 (by omega), ?_, ?_, ?_⟩
        · rw [sa, sb, hf, bs, z5']
          simp only
          congr 1
          omega
        · rw [sa, hf]
          exact (F4.1 706 0 0 (by unfold SPS; omega)).trans z6
        · rw [sb, bs, z7']
      rcases lk with ⟨x0, no⟩ | ⟨x1, yes⟩
      · rw [x0, if_pos rfl]
        unfold f_X7_seekWays_b117
        simp only [lt]
        exact rest S2 a b (FX_refl _ _) (fsw_no (fun p => no p.2)) (by omega) (by omega) y5 y6
      · rw [x1, if_neg (show ¬ (1 : Int32) = 0 by decide), y5, show jj (a + c) + (1 : Int32) = jj (a + c + 1) from jj_add _ 1, show gI (sI S2 705 0 0 (jj (a + c + 1))) 706 0 0 = jj b from (gI_sI _ _ _ _ _ _ _ _).trans (by rw [if_neg (by decide)]; exact y6)]
        have hyes : P2W em et h I A k := ⟨q, yes⟩
        unfold f_X7_seekWays_b114 f_X7_seekWays_b117
        simp only [lt]
        have F3 : ∀ t, FX (fun f _ => f = 705 ∨ f = 706) S2 (sI (sI S2 705 0 0 (jj (a + c + 1))) 706 0 0 t) := fun t => FX_sI (FX_sI (FX_refl _ _) (Or.inl rfl)) (Or.inr rfl)
        by_cases z : b = -1
        · rw [if_pos (show jj b = -1 by rw [z]; rfl)]
          refine rest _ (a + 1) k (F3 _) (by rw [fsw_yes hyes]; simp only [if_pos z]) (by omega) (by omega) ?_ ?_
          · rw [gI_sI, if_neg (by decide), gI_sI, if_pos ⟨rfl, rfl, rfl⟩]
            congr 1
            omega
          · rw [gI_sI, if_pos ⟨rfl, rfl, rfl⟩]
        · rw [if_neg (show ¬ jj b = -1 by rw [show (-1 : Int32) = jj (-1) from rfl, jj_eq (by omega) (by omega) (by decide) (by decide)]; exact z)]
          refine rest _ (a + 1) b (F3 _) (by rw [fsw_yes hyes]; simp only [if_neg z]) (by omega) (by omega) ?_ ?_
          · rw [gI_sI, if_neg (by decide), gI_sI, if_pos ⟨rfl, rfl, rfl⟩]
            congr 1
            omega
          · rw [gI_sI, if_pos ⟨rfl, rfl, rfl⟩]
    · have e2 : f_X7_tried N S1 0 (jj h) (jj k) = some (jj 0, S1) := c_tried0 (at_ := 0) (by decide) hI L1 k0 hk q
      rw [bnd_of e2, if_pos (show jj 0 = (0 : Int32) from rfl), show jj k + (1 : Int32) = jj (k + 1) from jj_add k 1]
      refine ih S1 ⟨by omega, F1, L1, WRT_mono w1 (by omega), ?_, ?_, ?_⟩
      · rw [sa, sb, fsw_no (fun p => q p.1), blw_no _ q]; exact g5
      · rw [sa, fsw_no (fun p => q p.1)]; exact g6
      · rw [sb, blw_no _ q]; exact g7
theorem k_which {S : St} {N : Nat} {T : Int} (hN : 4000 < N) (t0 : 0 ≤ T) (t1 : T < 512) (hI : INV T S) (x y : Int32) : TWO (fun S => f_X9_which N S x y) (fun S => f_X10_which N S x y) T S := by
  obtain ⟨A, B, hI⟩ := hI
  obtain ⟨em, et, hX, hR⟩ := INVA_get hI
  obtain ⟨i1, i2, i3, i4, i5, i6, i7, i8, -⟩ := id hI
  obtain ⟨x, rfl, x1, x2⟩ := jj_ex x
  have a0 := hX.2.1.1.2.2.1.1
  have a4 := hX.2.1.1.2.2.1.2.1
  show ∃ v S1 S2, f_X9_which N S (jj x) y = some (v, S1) ∧ f_X10_which N S1 (jj x) y = some (v, S2) ∧ INV (T + 1) S2
  by_cases q : 0 ≤ x ∧ x < A 0
  · have mt : 2 * MT T ≤ 100000000 := by unfold MT; omega
    have m0 : MT T ≤ 2 * MT T := by unfold MT; omega
    have hO := IMG_OKS i5.1 i6.1 mt
    have gI0 : AG0 A (IMG A B) := fun i z => if_neg (by omega)
    have X2 : XC S A (2 * MT T) (WT T) em et := ⟨hX.1, NUM_mono hX.2.1 m0 mt, hX.2.2⟩
    have F3 : FX TRP S (sI (sI (sI S 705 0 0 0) 706 0 0 (-1)) 707 0 0 (-1)) := FX_sI (FX_sI (FX_sI (FX_refl _ _) (by unfold TRP; omega)) (by unfold TRP; omega)) (by unfold TRP; omega)
    have z5 : gI (sI (sI (sI S 705 0 0 0) 706 0 0 (-1)) 707 0 0 (-1)) 705 0 0 = jj 0 := rfl
    have z6 : gI (sI (sI (sI S 705 0 0 0) 706 0 0 (-1)) 707 0 0 (-1)) 706 0 0 = jj (-1) := rfl
    have z7 : gI (sI (sI (sI S 705 0 0 0) 706 0 0 (-1)) 707 0 0 (-1)) 707 0 0 = jj (-1) := rfl
    have e403 : ∀ j, gI (sI (sI (sI S 705 0 0 0) 706 0 0 (-1)) 707 0 0 (-1)) 403 j 0 = gI S 403 j 0 := fun j => by rw [gI_sI, if_neg (by omega), gI_sI, if_neg (by omega), gI_sI, if_neg (by omega)]
    have un : f_X7_seekWays N S (jj x) = bnd (f_X4_laysAs 62 31 (sI (sI (sI S 705 0 0 0) 706 0 0 (-1)) 707 0 0 (-1))) fun q5 => f_X7_seekWays_b52 N N (jj x) 0 (sI q5 407 62 0 (gI q5 407 0 0)) := rfl
    generalize sI (sI (sI S 705 0 0 0) 706 0 0 (-1)) 707 0 0 (-1) = S3 at F3 z5 z6 z7 e403 un
    obtain ⟨S4, e4, L4, F4⟩ := laysAs_LAY (j := 62) (k := 31) (by decide) (FX_LAY F3 (fun f a b => by unfold TRP; omega) i4.2.1.1)
    have F34 : FX TRP S S4 := FX_trans F3 (FX_sub F4 (fun f j q => by unfold TRP; omega))
    have g407 : gI S4 407 0 0 = jj (A 6) := (F34.1 407 0 0 (by unfold TRP; omega)).trans i3.2.1.1.2.2.2
    have F5 : FX (fun f j => f = 407 ∧ j = 62) S4 (sI S4 407 62 0 (jj (A 6))) := FX_sI (FX_refl _ _) ⟨rfl, rfl⟩
    have L5 : LAY (sI S4 407 62 0 (jj (A 6))) 62 (IMG A B) := by
      obtain ⟨l1, l2, l3, l4⟩ := L4
      refine ⟨fun c a b => ?_, ?_, ?_, ?_⟩
      · rw [gI_sI, if_neg (by omega), show IMG A B (11 + c) = B (11 + c) from if_pos (Or.inl (by omega))]
        exact l1 c a b
      · rw [gI_sI, if_neg (by omega)]
        exact tb_ext l2 (fun c a b => (if_pos (Or.inl (by omega))).symm)
      · rw [gI_sI, if_neg (by omega), show IMG A B 9 = B 9 from if_pos (Or.inr rfl)]
        exact l3
      · rw [gI_sI, if_pos ⟨rfl, rfl, rfl⟩, show IMG A B 6 = A 6 from if_neg (by omega)]
    have F05 : FX TRP S (sI S4 407 62 0 (jj (A 6))) := FX_trans F34 (FX_sub F5 (fun f j q => by unfold TRP; omega))
    have w5 : WRT (sI S4 407 62 0 (jj (A 6))) (WT T) := WRT_FX F5 (fun j => by omega) (WRT_FX F4 (fun j => by omega) (fun j hj => by
      obtain ⟨w, p1, p2, p3⟩ := i7 j hj
      refine ⟨w, ?_, p2, p3⟩
      exact (e403 j).trans p1))
    have k5 : ∀ f, f = 705 ∨ f = 706 ∨ f = 707 → gI (sI S4 407 62 0 (jj (A 6))) f 0 0 = gI S3 f 0 0 := fun f z => (F5.1 f 0 0 (by omega)).trans (F4.1 f 0 0 (by omega))
    obtain ⟨S1, e1, F1, w1, c5, c6, c7⟩ := c_ways (h := x) hN X2 F05 hO gI0 L5 w5 (by unfold WT; omega) q ((k5 705 (by omega)).trans z5) ((k5 706 (by omega)).trans z6) ((k5 707 (by omega)).trans z7)
    have ba := wya_b (em := em) (et := et) (h := x) (I := IMG A B) (A := A) 24 (by decide)
    have R1 : RC S1 A em et := RC_step hR F1 (by unfold TRP; omega) (by unfold TRP; omega) (FX_AR F1 (by unfold TRP; omega) hR.1) rfl
    have rb := OKR_RB hX.2.1.1.1 hX.2.1.1.2.2.2
    obtain ⟨S2, e2, R2, F2⟩ := r_which (B := B) (h := x) y hN hO R1 (FX_AR F1 (by unfold TRP; omega) i2) q (fun i a b d => by
      by_cases z : i = 9
      · rw [z]; exact ⟨rb.2.2.1, rb.2.2.2.1⟩
      · by_cases y : i < 23
        · have := rb.1 (i - 11) (by omega) (by omega)
          rw [show 11 + (i - 11) = i by omega] at this
          exact this
        · have := rb.2.1 (i - 23) (by omega) (by omega)
          rw [show 23 + (i - 23) = i by omega] at this
          omega)
    rw [whR_wyb] at e2
    have e3 : ∀ v, f_X10_which_b19 N N (jj x) y (jj 0) (jj (-1)) (jj 0) S1 = some (v, S2) → f_X10_which N S1 (jj x) y = some (v, S2) := by
      intro v e
      unfold f_X10_which
      rw [bnd_of (r_isHand R1.1 a0 a4 x1 x2), if_pos q, if_neg (by decide)]
      exact e
    refine ⟨_, S1, S2, ?_, e3 _ e2, INV_try hI t0 t1 F1 w1 (by unfold WT; omega) R2 F2⟩
    · unfold f_X9_which
      rw [bnd_of (x_isHand hX.1.1.1 a0 a4 x1 x2), if_pos q, if_neg (by decide), un, bnd_of e4, g407]
      have e1 : f_X7_seekWays_b52 N N (jj x) 0 (sI S4 407 62 0 (jj (A 6))) = some S1 := e1
      rw [bnd_of e1]
      unfold f_X7_lowestFirst
      rw [c5, c6, c7]
      by_cases z : y = 0
      · rw [if_pos z, if_pos z]
      · rw [if_neg z, if_neg z]
        simp only
        by_cases t : (wya em et x (IMG A B) A 24).2 = -1
        · rw [if_pos (show jj (wya em et x (IMG A B) A 24).2 = -1 by rw [t]; rfl), if_pos t]
          rfl
        · rw [if_neg (show ¬ jj (wya em et x (IMG A B) A 24).2 = -1 by rw [show (-1 : Int32) = jj (-1) from rfl, jj_eq (by omega) (by omega) (by decide) (by decide)]; exact t), if_neg t]
          rfl
  · refine ⟨jj (-2), S, S, ?_, ?_, INV_same hI t0 t1⟩
    · unfold f_X9_which
      rw [bnd_of (x_isHand hX.1.1.1 a0 a4 x1 x2), if_neg q, if_pos (by decide)]
      rfl
    · unfold f_X10_which
      rw [bnd_of (r_isHand hR.1 a0 a4 x1 x2), if_neg q, if_pos (by decide)]
      rfl
