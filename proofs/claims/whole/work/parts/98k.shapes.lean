/-! CALLS: the shapes. -/
theorem shp {S : St} {T : Int} (t0 : 0 ≤ T) (t1 : T < 512) (hI : INV T S) : ∃ c, CC S 0 c ∧ CA S c ∧ CB c ∧ PB c := by
  obtain ⟨A, B, hI⟩ := hI
  obtain ⟨em, et, hX, hR⟩ := INVA_get hI
  exact ⟨fun c => A (11 + c), LAY_CC hX.1.2.1.1, AR_CA hR.1, OKR_CB hX.2.1.1.1 (by unfold MT; omega), OKR_PB hX.2.1.1.1 (by unfold MT; omega)⟩
theorem k_thin {S : St} {N : Nat} {T : Int} (hN : 4000 < N) (t0 : 0 ≤ T) (t1 : T < 512) (hI : INV T S) : ONE (fun S => f_X9_thin N S) (fun S => f_X10_thin N S) S := by
  obtain ⟨c, h1, h2, h3, h4⟩ := shp t0 t1 hI
  exact q_thin h1 h2 h3 (by omega)
theorem k_thick {S : St} {N : Nat} {T : Int} (hN : 4000 < N) (t0 : 0 ≤ T) (t1 : T < 512) (hI : INV T S) : ONE (fun S => f_X9_thick N S) (fun S => f_X10_thick N S) S := by
  obtain ⟨c, h1, h2, h3, h4⟩ := shp t0 t1 hI
  exact q_thick h1 h2 h3 (by omega)
theorem k_folds {S : St} {N : Nat} {T : Int} (hN : 4000 < N) (t0 : 0 ≤ T) (t1 : T < 512) (hI : INV T S) : ONE (fun S => f_X9_folds N S) (fun S => f_X10_folds N S) S := by
  obtain ⟨c, h1, h2, h3, h4⟩ := shp t0 t1 hI
  exact q_folds h1 h2 h3 (by omega)
theorem k_peaks {S : St} {N : Nat} {T : Int} (hN : 4000 < N) (t0 : 0 ≤ T) (t1 : T < 512) (hI : INV T S) : ONE (fun S => f_X9_peaks N S) (fun S => f_X10_peaks N S) S := by
  obtain ⟨c, h1, h2, h3, h4⟩ := shp t0 t1 hI
  exact q_peaks h1 h2 h3 (by omega)
theorem k_lake {S : St} {N : Nat} {T : Int} (hN : 4000 < N) (t0 : 0 ≤ T) (t1 : T < 512) (hI : INV T S) : ONE (fun S => f_X9_lake N S) (fun S => f_X10_lake N S) S := by
  obtain ⟨c, h1, h2, h3, h4⟩ := shp t0 t1 hI
  exact q_lake h1 h2 h3 (by omega)
theorem k_islands {S : St} {N : Nat} {T : Int} (hN : 4000 < N) (t0 : 0 ≤ T) (t1 : T < 512) (hI : INV T S) (x : Int32) : ONE (fun S => f_X9_islands N S x) (fun S => f_X10_islands N S x) S := by
  obtain ⟨c, h1, h2, h3, h4⟩ := shp t0 t1 hI
  exact q_islands h1 h2 h3 (by omega) x
theorem k_richest {S : St} {N : Nat} {T : Int} (hN : 4000 < N) (t0 : 0 ≤ T) (t1 : T < 512) (hI : INV T S) (x : Int32) : ONE (fun S => f_X9_richest N S x) (fun S => f_X10_richest N S x) S := by
  obtain ⟨c, h1, h2, h3, h4⟩ := shp t0 t1 hI
  exact q_richest h1 h2 h3 h4 (by omega) x
theorem k_middle {S : St} {N : Nat} {T : Int} (hN : 4000 < N) (t0 : 0 ≤ T) (t1 : T < 512) (hI : INV T S) (x : Int32) : ONE (fun S => f_X9_middle N S x) (fun S => f_X10_middle N S x) S := by
  obtain ⟨c, h1, h2, h3, h4⟩ := shp t0 t1 hI
  exact q_middle h1 h2 h3 (by omega) x
theorem k_glaze {S : St} {N : Nat} {T : Int} (hN : 4000 < N) (t0 : 0 ≤ T) (t1 : T < 512) (hI : INV T S) (x : Int32) : ONE (fun S => f_X9_glaze N S x) (fun S => f_X10_glaze N S x) S := by
  obtain ⟨c, h1, h2, h3, h4⟩ := shp t0 t1 hI
  exact q_glaze h1 h2 h3 (by omega) x
theorem k_sees {S : St} {N : Nat} {T : Int} (hN : 4000 < N) (t0 : 0 ≤ T) (t1 : T < 512) (hI : INV T S) (x r : Int32) (hr : r = 0 ∨ r = 1) : ONE (fun S => f_X9_sees N S x r) (fun S => f_X10_sees N S x r) S := by
  obtain ⟨c, h1, h2, h3, h4⟩ := shp t0 t1 hI
  exact q_sees h1 h2 h3 (by omega) x r hr
theorem SCR_of {S S1 : St} {T : Int} (t0 : 0 ≤ T) (t1 : T < 512) (hI : INV T S) (F : FX (fun f _ => f = 300 ∨ f = 301 ∨ (1024 ≤ f ∧ f ≤ 1028)) S S1) : INV (T + 1) S1 := by
  obtain ⟨A, B, hI⟩ := hI
  exact INV_scr hI t0 t1 (FX_sub F (fun f j q => by unfold SCR; omega)) (WRT_scr hI F (fun j => by omega) t0)
theorem k_rise {S : St} {N : Nat} {T : Int} (hN : 4000 < N) (t0 : 0 ≤ T) (t1 : T < 512) (hI : INV T S) (x : Int32) : TWO (fun S => f_X9_rise N S x) (fun S => f_X10_rise N S x) T S := by
  obtain ⟨c, h1, h2, h3, h4⟩ := shp t0 t1 hI
  obtain ⟨v, S1, S2, e1, f1, e2, f2⟩ := q_rise h1 h2 h3 (show 20 < N by omega) x
  refine ⟨v, S1, S2, e1, e2, SCR_of t0 t1 hI (FX_trans (FX_sub (FR_FX f1) (fun f j q => ?_)) (FX_sub (FR_FX f2) (fun f j q => ?_)))⟩
  · have := List.mem_singleton.1 q
    omega
  · have := List.mem_singleton.1 q
    omega
theorem size_of (S : St) (x : Int32) : f_X10_size S x = some (if (0 : Int32) ≤ x then x else 0 - x) := by
  unfold f_X10_size
  by_cases h : (0 : Int32) ≤ x
  · rw [if_pos h, if_pos h]
  · rw [if_neg h, if_neg h, Int32.zero_sub]
theorem k_carried {S : St} {N : Nat} {T : Int} (hN : 4000 < N) (t0 : 0 ≤ T) (t1 : T < 512) (hI : INV T S) : ONE (fun S => f_X9_carried N S) (fun S => f_X10_carried N S) S := by
  obtain ⟨A, B, hI⟩ := hI
  obtain ⟨i1, i2, i3, i4, i5, i6, -⟩ := id hI
  have c1 : CC S 0 (fun c => A (11 + c)) := LAY_CC i3.2.1.1
  have c2 : CC S 31 (fun c => B (11 + c)) := LAY_CC i4.2.1.1
  have pa := OKR_PB i5.1.1 (show MT T ≤ 100000000 by unfold MT; omega) 12 (by decide) (by decide)
  have pb := OKR_PB i6.1.1 (show MT T ≤ 100000000 by unfold MT; omega) 12 (by decide) (by decide)
  have e1 := q_sum c1 (show 20 < N by omega) (show (0 : Int) ≤ 0 by decide) (show (0 : Int) ≤ 12 by decide) (by decide)
  have e2 := q_sum c2 (show 20 < N by omega) (show (0 : Int) ≤ 0 by decide) (show (0 : Int) ≤ 12 by decide) (by decide)
  have := two_rule2 (F := fun n (a : Int32 × Int32) k => f_X3_way_cc_b7 N 31 0 n a.1 a.2 (jj k) S) (G := fun n (a : Int32 × Int32) k => f_X10_carried_b6 N n a.2 a.1 (jj k) S) (P := fun k a => 0 ≤ k ∧ a.2 = jj (pre (fun c => B (11 + c)) k.toNat - pre (fun c => A (11 + c)) k.toNat)) (Q := fun r r' => r' = if pre (fun c => B (11 + c)) 12 = pre (fun c => A (11 + c)) 12 then r else jj (-1)) (E := 12) (by
    intro n n' a ⟨k0, ha⟩
    simp only [f_X3_way_cc_b7, f_X10_carried_b6]
    rw [if_pos (show (12 : Int32) ≤ jj 12 by rw [jj_of]; exact Int32.le_refl _), if_pos (show (12 : Int32) ≤ jj 12 by rw [jj_of]; exact Int32.le_refl _), ha]
    refine ⟨_, _, rfl, ?_, rfl⟩
    by_cases w : pre (fun c => B (11 + c)) 12 = pre (fun c => A (11 + c)) 12
    · rw [if_pos (show jj (pre (fun c => B (11 + c)) (12 : Int).toNat - pre (fun c => A (11 + c)) (12 : Int).toNat) = 0 by rw [show (12 : Int).toNat = 12 from rfl, w, Int.sub_self]; rfl), if_pos w]
    · rw [if_neg (show ¬ jj (pre (fun c => B (11 + c)) (12 : Int).toNat - pre (fun c => A (11 + c)) (12 : Int).toNat) = 0 from fun q => ?_), if_neg w]
      · rfl
      · rw [show (0 : Int32) = jj 0 from rfl, jj_eq (by have := pa.1; have := pb.1; have := pa.2; have := pb.2; omega) (by have := pa.1; have := pb.1; have := pa.2; have := pb.2; omega) (by decide) (by decide)] at q
        exact w (by have : (12 : Int).toNat = 12 := rfl; rw [this] at q; omega)) (by
    intro n n' a k hk ⟨k0, ha⟩ ih
    have hk2 : ¬ 12 ≤ k := by omega
    have x1 := c1 k k0 hk
    have x2 := c2 k k0 hk
    have y1 := i1 (11 + k) (by omega) (by omega)
    have y2 := i2 (11 + k) (by omega) (by omega)
    simp only [f_X3_way_cc_b7, f_X10_carried_b6]
    simp (disch := omega) only [jj_of, jj_le, jj_add, jj_nat, chk_true (jj_inb _ _ _), lt, if_false, hk2, x1, x2, y1, y2]
    simp only [size_of, bnd]
    exact ih (_, _) ⟨by omega, by rw [ha, jj_sub, jj_add]; refine congrArg jj ?_; rw [pre_up k0, pre_up k0]; omega⟩) 12 N N 0 (0, 0) (by decide) (by omega) (by omega) ⟨by decide, rfl⟩
  obtain ⟨r, r', e3, e4, q⟩ := this
  have e4' : f_X10_carried N S = some r' := e4
  have e3' : f_X3_way_cc N 31 0 S = some r := e3
  refine ⟨r', ?_, e4'⟩
  show f_X9_carried N S = some r'
  unfold f_X9_carried
  rw [show (0 : Int32) = jj 0 from rfl, show (12 : Int32) = jj 12 from rfl, bnd_of e2, bnd_of e1, q]
  have z12 : (12 : Int).toNat = 12 := rfl
  have z0 : ∀ f, pre f (0 : Int).toNat = 0 := fun _ => rfl
  rw [z12, z0, z0, Int.sub_zero, Int.sub_zero]
  have ee := jj_eq (a := pre (fun c => B (11 + c)) 12) (b := pre (fun c => A (11 + c)) 12) (by have := pb.1; rw [z12] at this; omega) (by have := pb.2; rw [z12] at this; omega) (by have := pa.1; rw [z12] at this; omega) (by have := pa.2; rw [z12] at this; omega)
  by_cases w : pre (fun c => B (11 + c)) 12 = pre (fun c => A (11 + c)) 12
  · rw [if_pos w, if_pos (ee.mpr w), bnd_of e3']
  · rw [if_neg w, if_neg (fun h => w (ee.mp h))]
    rfl
