set_option maxRecDepth 100000 in
theorem law_step {xs : Nat → Int32} {sL N n : Nat} {x3 : Int32} {S : St} {T : Int} (hN : 200000000 < N) (t0 : 0 ≤ T) (t1 : T < 512) (hI : INV T S) (hx : ¬ ((Int32.ofNat sL) - (6 : Int32)) < x3) (c0 : inb x3 sL = true) (c1 : inb (x3 + (1 : Int32)) sL = true) (c2 : inb (x3 + (2 : Int32)) sL = true) (c3 : inb (x3 + (3 : Int32)) sL = true) (c4 : inb (x3 + (4 : Int32)) sL = true) (c5 : inb (x3 + (5 : Int32)) sL = true) : GL T (f_L_law_b18 xs sL N n) x3 (f_L_law_b18 xs sL N (n + 1) x3 S) := by
  rw [f_L_law_b18]
  rw [if_neg hx, chk_true c0]
  exact gl_ite (lc_0 (xs := xs) (sL := sL) hN t0 t1 hI c1 _) (gl_ite (lc_1 (xs := xs) (sL := sL) hN t0 t1 hI c1 c2 _) (gl_ite (lc_2 (xs := xs) (sL := sL) hN t0 t1 hI c1 _) (gl_ite (lc_3 (xs := xs) (sL := sL) hN t0 t1 hI c1 c2 c3 c4 c5 _) (gl_ite (lc_4 (xs := xs) (sL := sL) hN t0 t1 hI c1 _) (gl_ite (lc_5 (xs := xs) (sL := sL) hN t0 t1 hI _) (gl_ite (lc_6 (xs := xs) (sL := sL) hN t0 t1 hI c1 _) (gl_ite (lc_7 (xs := xs) (sL := sL) hN t0 t1 hI c1 _) (gl_ite (lc_8 (xs := xs) (sL := sL) hN t0 t1 hI c1 c2 c3 _) (gl_ite (lc_9 (xs := xs) (sL := sL) hN t0 t1 hI _) (gl_ite (lc_10 (xs := xs) (sL := sL) hN t0 t1 hI c1 c2 _) (gl_ite (lc_11 (xs := xs) (sL := sL) hN t0 t1 hI c1 _) (gl_ite (lc_12 (xs := xs) (sL := sL) hN t0 t1 hI c1 _) (gl_ite (lc_13 (xs := xs) (sL := sL) hN t0 t1 hI c1 c2 _) (gl_ite (lc_14 (xs := xs) (sL := sL) hN t0 t1 hI _) (gl_ite (lc_15 (xs := xs) (sL := sL) hN t0 t1 hI c1 c2 _) (gl_ite (lc_16 (xs := xs) (sL := sL) hN t0 t1 hI c1 _) (gl_ite (lc_17 (xs := xs) (sL := sL) hN t0 t1 hI c1 _) (gl_ite (lc_18 (xs := xs) (sL := sL) hN t0 t1 hI c1 c2 c3 _) (gl_ite (lc_19 (xs := xs) (sL := sL) hN t0 t1 hI c1 _) (gl_ite (lc_20 (xs := xs) (sL := sL) hN t0 t1 hI c1 c2 _) (gl_ite (lc_21 (xs := xs) (sL := sL) hN t0 t1 hI c1 c2 c3 _) (gl_ite (lc_22 (xs := xs) (sL := sL) hN t0 t1 hI _) (gl_ite (lc_23 (xs := xs) (sL := sL) hN t0 t1 hI c1 _) (gl_ite (lc_24 (xs := xs) (sL := sL) hN t0 t1 hI c1 _) (gl_ite (lc_25 (xs := xs) (sL := sL) hN t0 t1 hI _) (gl_ite (lc_26 (xs := xs) (sL := sL) hN t0 t1 hI _) (gl_ite (lc_27 (xs := xs) (sL := sL) hN t0 t1 hI c1 _) (gl_ite (lc_28 (xs := xs) (sL := sL) hN t0 t1 hI c1 _) (gl_ite (lc_29 (xs := xs) (sL := sL) hN t0 t1 hI c1 c2 _) (gl_ite (lc_30 (xs := xs) (sL := sL) hN t0 t1 hI c1 _) (gl_ite (lc_31 (xs := xs) (sL := sL) hN t0 t1 hI _) (gl_ite (lc_32 (xs := xs) (sL := sL) hN t0 t1 hI _) (gl_ite (lc_33 (xs := xs) (sL := sL) hN t0 t1 hI c1 c2 _) (gl_ite (lc_34 (xs := xs) (sL := sL) hN t0 t1 hI c1 c2 _) (gl_ite (lc_35 (xs := xs) (sL := sL) hN t0 t1 hI c1 c2 _) (gl_ite (lc_36 (xs := xs) (sL := sL) hN t0 t1 hI c1 c2 c3 _) (gl_ite (lc_37 (xs := xs) (sL := sL) hN t0 t1 hI c1 c2 c3 _) (gl_ite (lc_38 (xs := xs) (sL := sL) hN t0 t1 hI c1 _) (gl_ite (lc_39 (xs := xs) (sL := sL) hN t0 t1 hI c1 c2 _) (gl_ite (lc_40 (xs := xs) (sL := sL) hN t0 t1 hI c1 c2 _) (gl_ite (lc_41 (xs := xs) (sL := sL) hN t0 t1 hI _) (gl_ite (lc_42 (xs := xs) (sL := sL) hN t0 t1 hI _) (gl_ite (lc_43 (xs := xs) (sL := sL) hN t0 t1 hI _) (gl_ite (lc_44 (xs := xs) (sL := sL) hN t0 t1 hI _) (gl_ite (lc_45 (xs := xs) (sL := sL) hN t0 t1 hI c1 c2 c3 _) (gl_ite (lc_46 (xs := xs) (sL := sL) hN t0 t1 hI _) (gl_ite (lc_47 (xs := xs) (sL := sL) hN t0 t1 hI c1 _) (gl_ite (lc_48 (xs := xs) (sL := sL) hN t0 t1 hI _) (gl_ite (lc_49 (xs := xs) (sL := sL) hN t0 t1 hI _) (gl_ite (lc_50 (xs := xs) (sL := sL) hN t0 t1 hI c1 _) (⟨S, INV_on hI t0 t1, rfl⟩)))))))))))))))))))))))))))))))))))))))))))))))))))

theorem law_loop {xs : Nat → Int32} {sL N : Nat} (hN : 200000000 < N) (hs : sL ≤ 3072) : ∀ (k T : Nat) (S : St), T + k = 512 → INV (T : Int) S → ∃ r, f_L_law_b18 xs sL N (k + 1) (jj (6 * (T : Int))) S = some ((1 : Int32), r)
  | 0, T, S, hk, hI => by
    have hx : ((Int32.ofNat sL) - (6 : Int32)) < jj (6 * (T : Int)) := by
      rw [show Int32.ofNat sL = jj (sL : Int) from nat_jj sL, show (6 : Int32) = jj 6 from by decide, jj_sub, jj_lt (by omega) (by omega) (by omega) (by omega)]
      omega
    refine ⟨S, ?_⟩
    rw [f_L_law_b18]
    exact if_pos hx
  | k + 1, T, S, hk, hI => by
    by_cases hx : ((Int32.ofNat sL) - (6 : Int32)) < jj (6 * (T : Int))
    · refine ⟨S, ?_⟩
      rw [f_L_law_b18]
      exact if_pos hx
    · have hb : 6 * (T : Int) ≤ (sL : Int) - 6 := by
        rw [show Int32.ofNat sL = jj (sL : Int) from nat_jj sL, show (6 : Int32) = jj 6 from by decide, jj_sub, jj_lt (by omega) (by omega) (by omega) (by omega)] at hx
        omega
      have cx : ∀ i : Int, 0 ≤ i → i < 6 → inb (jj (6 * (T : Int)) + jj i) sL = true := fun i i0 i1 => by
        rw [jj_add]
        exact jj_inb (by omega) (by omega) (by omega)
      have c0 : inb (jj (6 * (T : Int))) sL = true := jj_inb (by omega) (by omega) (by omega)
      obtain ⟨S2, h2, e⟩ := law_step (xs := xs) (n := k + 1) hN (by omega) (by omega) hI hx c0 (cx 1 (by decide) (by decide)) (cx 2 (by decide) (by decide)) (cx 3 (by decide) (by decide)) (cx 4 (by decide) (by decide)) (cx 5 (by decide) (by decide))
      have e6 : jj (6 * (T : Int)) + (6 : Int32) = jj (6 * ((T + 1 : Nat) : Int)) := by
        rw [show (6 : Int32) = jj 6 from by decide, jj_add]
        exact congrArg jj (by omega)
      rw [e6] at e
      have eT : ((T + 1 : Nat) : Int) = (T : Int) + 1 := by omega
      obtain ⟨r, hr⟩ := law_loop (xs := xs) hN hs k (T + 1) S2 (by omega) (by rw [eT]; exact h2)
      exact ⟨r, e.trans hr⟩

