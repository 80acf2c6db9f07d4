/-! THE PARSER OF THE REFERENCE: steps, and the whole walk. -/
theorem r_next {L N : Nat} {kd wh : Int} {R : St} {s : Ps} {b : Nat → Nat} {n i : Nat} (hN : 4000 < N) (hR : RSP L kd R s wh) (hT : TRR b n R i) : ∃ R', f_X10_nextToken N R = some R' ∧ RSP L kd R' s wh ∧ TRR b n R' (i + 1) ∧ OLD L R R' ∧ FX NXF R R' := by
  obtain ⟨R', e, T', F⟩ := x_next hN hT.1 hT.2.2.1
  exact ⟨R', e, RSP_FX F (by unfold NXF; omega) (fun f a c => by unfold NXF; omega) hR, T', OLD_FX F (by unfold NXF; omega), F⟩
theorem RSP_wh {L : Nat} {kd wh wh' : Int} {R : St} {s : Ps} (hR : RSP L kd R s wh) : RSP L kd (sI R 1018 0 0 (jj wh')) s wh' := by
  obtain ⟨h1, h2, h3, h4, h5, h6, h7, h8⟩ := hR
  have F : FX (fun f _ => f = 1018) R (sI R 1018 0 0 (jj wh')) := FX_sI (FX_refl _ _) rfl
  refine ⟨(F.1 1016 0 0 (by omega)).trans h1, PIL_eq (fun k _ => F.1 1015 0 k (by omega)) h2, (F.1 1017 0 0 (by omega)).trans h3, by rw [gI_sI, if_pos ⟨rfl, rfl, rfl⟩], (F.1 1013 0 0 (by omega)).trans h5, (F.1 1012 0 0 (by omega)).trans h6, fun k c hc => ?_, (F.1 1014 0 0 (by omega)).trans h8⟩
  rw [F.1 1002 0 _ (by omega), F.1 1002 0 _ (by omega)]
  exact h7 k c hc
theorem RSP_push {L : Nat} {kd wh x o' : Int} {R : St} {P : List Int} {D : List (Int × Int)} {o : Int} (hR : RSP L kd R (P, D, o) wh) : RSP L kd (sI (sI (sI R 1017 0 0 (jj o')) 1015 0 P.length (jj x)) 1016 0 0 (jj ((P.length + 1 : Nat) : Int))) (x :: P, D, o') wh := by
  obtain ⟨h1, h2, h3, h4, h5, h6, h7, h8⟩ := hR
  have F : FX (fun f _ => f = 1015 ∨ f = 1016 ∨ f = 1017) R (sI (sI (sI R 1017 0 0 (jj o')) 1015 0 P.length (jj x)) 1016 0 0 (jj ((P.length + 1 : Nat) : Int))) := FX_sI (FX_sI (FX_sI (FX_refl _ _) (by omega)) (by omega)) (by omega)
  refine ⟨by rw [gI_sI, if_pos ⟨rfl, rfl, rfl⟩]; rfl, ⟨?_, PIL_eq (fun k hk => ?_) h2⟩, ?_, (F.1 1018 0 0 (by omega)).trans h4, (F.1 1013 0 0 (by omega)).trans h5, (F.1 1012 0 0 (by omega)).trans h6, fun k c hc => ?_, (F.1 1014 0 0 (by omega)).trans h8⟩
  · rw [gI_sI, if_neg (by omega), gI_sI, if_pos ⟨rfl, rfl, rfl⟩]
  · have hk : k < P.length := hk
    rw [gI_sI, if_neg (by omega), gI_sI, if_neg (by omega), gI_sI, if_neg (by omega)]
  · rw [gI_sI, if_neg (by omega), gI_sI, if_neg (by omega), gI_sI, if_pos ⟨rfl, rfl, rfl⟩]
  · rw [F.1 1002 0 _ (by omega), F.1 1002 0 _ (by omega)]
    exact h7 k c hc
theorem stl_len {m : Int} : ∀ (P : List Int) (D : List (Int × Int)) (o : Int), (stl m P D o).2.1.length + (stl m P D o).1.length = D.length + P.length ∧ (stl m P D o).1.length ≤ P.length ∧ o - P.length ≤ (stl m P D o).2.2 - (stl m P D o).1.length ∧ (stl m P D o).2.2 ≤ o ∧ ∀ x ∈ (stl m P D o).1, x ∈ P := by
  intro P
  induction P with
  | nil => intro D o; exact ⟨rfl, Nat.le_refl _, Int.le_refl _, Int.le_refl _, fun x hx => hx⟩
  | cons x P ih =>
    intro D o
    by_cases q : m ≤ rk x
    · rw [stl_pop q]
      obtain ⟨h1, h2, h3, h4, h5⟩ := ih (D ++ [(x, 0)]) (o - cnq x)
      have c : 0 ≤ cnq x ∧ cnq x ≤ 1 := by unfold cnq; split <;> decide
      rw [List.length_append, List.length_singleton] at h1
      simp only [List.length_cons]
      exact ⟨by omega, by omega, by omega, by omega, fun y hy => List.mem_cons_of_mem _ (h5 y hy)⟩
    · rw [stl_stop (by omega)]
      exact ⟨rfl, Nat.le_refl _, Int.le_refl _, Int.le_refl _, fun y hy => hy⟩
theorem r_b81 {L N : Nat} {kd wh : Int} {R : St} {P : List Int} {D : List (Int × Int)} {o c v : Int} {b : Nat → Nat} {n i : Nat} (hN : 4000 < N) (hL : L < 4) (hR : RSP L kd R (P, D, o) wh) (hT : TRR b n R i) (hB : PBD P) (hP : P.length ≤ 160) (hD : D.length + P.length ≤ 300) : ∃ R', f_X10_beginOne_b81 N (jj v) (jj c) R = some (0, R') ∧ RSP L kd R' (stl 7 P (D ++ [(c, v)]) o) 1 ∧ TRR b n R' (i + 1) ∧ OLD L R R' ∧ FX PFX R R' := by
  obtain ⟨R1, e1, S1, O1, F1⟩ := r_emit (x := c) (v := v) hL (by omega) hR
  obtain ⟨R2, e2, S2, T2, O2, F2⟩ := r_next hN S1 (TRR_FX F1 (by omega) (by omega) (fun f a c => by omega) hT)
  have S3 := RSP_wh (wh' := 1) S2
  have F3 : FX (fun f _ => f = 1018) R2 (sI R2 1018 0 0 (jj 1)) := FX_sI (FX_refl _ _) rfl
  obtain ⟨R4, e4, S4, O4, F4⟩ := r_settle (N := N) (m := 7) hL (by decide) (by decide) P (D ++ [(c, v)]) o _ N (by omega) (by rw [List.length_append, List.length_singleton]; omega) hP hB S3
  refine ⟨R4, ?_, S4, TRR_FX F4 (by unfold SFX; omega) (by unfold SFX; omega) (fun f a c => by unfold SFX; omega) (TRR_FX F3 (by omega) (by omega) (fun f a c => by omega) T2), OLD_trans O1 (OLD_trans O2 (OLD_trans (OLD_FX F3 (by omega)) O4)), FX_trans (FX_sub F1 (fun f _ z => by unfold PFX; omega)) (FX_trans (FX_sub F2 (fun f _ z => by unfold NXF at z; unfold PFX; omega)) (FX_trans (FX_sub F3 (fun f _ z => by unfold PFX; omega)) (FX_sub F4 (fun f _ z => by unfold SFX at z; unfold PFX; omega))))⟩
  unfold f_X10_beginOne_b81 f_X10_settle
  rw [bnd_of e1, bnd_of e2]
  simp only [lt]
  have e4 : f_X10_settle_b0 N N 7 (sI R2 1018 0 0 1) = some R4 := e4
  rw [bnd_of e4]
theorem is_k {b : Nat → Nat} {n i : Nat} {R : St} (h : TRR b n R i) (q : Nat) (c : Int32) (q0 : 26 ≤ q) (q1 : q < 41) (hc : c = ii (cdk q)) : (gI R 1009 0 0 = c) = (tkd b n (plc b n i) = q) := by rw [hc]; exact o_is h q0 q1
theorem l_num {L N : Nat} {kd wh : Int} {R : St} {s : Ps} {b : Nat → Nat} {n i : Nat} (hT : TRR b n R i) (h : tkd b n (plc b n i) = 39) : f_X10_beginOne N R = if tnm b n (plc b n i) ≤ 9999 then f_X10_beginOne_b81 N (jj ((tnm b n (plc b n i) : Nat) : Int)) (jj 0) R else some (2, R) := by
  have e1 := is_k hT 39 1 (by decide) (by decide) rfl
  obtain ⟨m, hm, m1, hr⟩ := o_num hT h
  have l9 : (ii m ≤ (9999 : Int32)) = (m ≤ 9999) := ii_le (b := 9999) (by omega) (by decide)
  have nm := o_name hT
  rw [h, show nmo ((39 : Nat) : Int) = -1 from rfl] at nm
  unfold f_X10_beginOne f_X10_beginOne_b20 f_X10_beginOne_b39 f_X10_beginOne_b51 f_X10_beginOne_b65
  rw [if_pos (e1.mpr h), hm]
  by_cases q : m ≤ 9999
  · have hq : tnm b n (plc b n i) = m := by omega
    rw [if_pos (l9.mpr q), bnd_of nm, if_pos (by decide), if_pos (e1.mpr h), if_pos (e1.mpr h), if_pos (e1.mpr h), hq, if_pos q, jj_iin]
    rfl
  · rw [if_neg (fun z => q (l9.mp z)), if_neg (by omega)]
theorem nmo_b (k : Int) : -1 ≤ nmo k ∧ nmo k ≤ 7 := by
  unfold nmo
  repeat' split
  all_goals decide
theorem l_name {L N : Nat} {kd wh : Int} {R : St} {s : Ps} {b : Nat → Nat} {n i : Nat} (hR : RSP L kd R s wh) (hkd : kd = 0 ∨ kd = 1) (hT : TRR b n R i) (h : tkd b n (plc b n i) ≠ 39) (h0 : 0 ≤ nmo ((tkd b n (plc b n i) : Nat) : Int)) : f_X10_beginOne N R = if nmo ((tkd b n (plc b n i) : Nat) : Int) ≤ 3 ∨ kd = 0 then f_X10_beginOne_b81 N (jj (nmo ((tkd b n (plc b n i) : Nat) : Int))) (jj 1) R else some (5, R) := by
  have e1 := is_k hT 39 1 (by decide) (by decide) rfl
  have nm := o_name hT
  have nb := nmo_b ((tkd b n (plc b n i) : Nat) : Int)
  have h14 : gI R 1014 0 0 = jj kd := hR.2.2.2.2.2.2.2
  generalize nmo ((tkd b n (plc b n i) : Nat) : Int) = v at *
  have l3 : (jj v ≤ (3 : Int32)) = (v ≤ 3) := jj_le (b := 3) (by omega) (by omega) (by decide) (by decide)
  have l0 : ¬ jj v < (0 : Int32) := by rw [show (0 : Int32) = jj 0 from rfl, jj_lt (by omega) (by omega) (by decide) (by decide)]; omega
  have k0 : (jj kd = (0 : Int32)) = (kd = 0) := jj_eq (b := 0) (by omega) (by omega) (by decide) (by decide)
  have b39 : f_X10_beginOne_b39 N (jj v) R = f_X10_beginOne_b81 N (jj v) (jj 1) R := by
    unfold f_X10_beginOne_b39 f_X10_beginOne_b51 f_X10_beginOne_b65
    rw [if_neg (fun z => h (e1.mp z)), if_neg l0, if_neg (fun z => h (e1.mp z)), if_neg (fun z => h (e1.mp z))]
    rfl
  unfold f_X10_beginOne f_X10_beginOne_b20
  rw [if_neg (fun z => h (e1.mp z)), bnd_of nm, b39, h14]
  by_cases q : v ≤ 3
  · rw [if_pos (l3.mpr q), if_pos (Or.inl q)]
  · rw [if_neg (fun z => q (l3.mp z))]
    by_cases q2 : kd = 0
    · rw [if_pos (k0.mpr q2), if_pos (Or.inr q2)]
    · rw [if_neg (fun z => q2 (k0.mp z)), if_neg (by omega)]
theorem l_open {L N : Nat} {kd wh : Int} {R : St} {s : Ps} {b : Nat → Nat} {n i : Nat} (hN : 4000 < N) (hR : RSP L kd R s wh) (hB : PBD s.1) (hP : s.1.length ≤ 160) (hT : TRR b n R i) (h : tkd b n (plc b n i) ≠ 39) (h0 : nmo ((tkd b n (plc b n i) : Nat) : Int) < 0) : f_X10_beginOne N R = if opc s.1 ((tkd b n (plc b n i) : Nat) : Int) < 0 then some (1, R) else bnd (f_X10_opened N R (jj (opc s.1 ((tkd b n (plc b n i) : Nat) : Int)))) fun q => some (q.1, q.2) := by
  have e1 := is_k hT 39 1 (by decide) (by decide) rfl
  have e36 := is_k hT 36 40 (by decide) (by decide) rfl
  have e33 := is_k hT 33 45 (by decide) (by decide) rfl
  have nm := o_name hT
  have nb := nmo_b ((tkd b n (plc b n i) : Nat) : Int)
  have w22 := o_word hT (k := 22) (by decide) (by decide)
  have w23 := o_word hT (k := 23) (by decide) (by decide)
  have w15 := o_word hT (k := 15) (by decide) (by decide)
  have w21 := o_word hT (k := 21) (by decide) (by decide)
  have ha := r_ahd hN hP hB hR
  rw [show nmo ((tkd b n (plc b n i) : Nat) : Int) = -1 by omega] at nm
  generalize tkd b n (plc b n i) = k at *
  unfold f_X10_beginOne f_X10_beginOne_b20 f_X10_beginOne_b39 opc
  rw [if_neg (fun z => h (e1.mp z)), bnd_of nm, if_pos (show jj (-1) ≤ 3 by decide), if_neg (fun z => h (e1.mp z)), if_pos (show jj (-1) < 0 by decide)]
  by_cases c36 : k = 36
  · rw [if_pos (e36.mpr c36), if_pos (show (k : Int) = 36 by omega), if_neg (by decide)]; rfl
  rw [if_neg (fun z => c36 (e36.mp z)), if_neg (show ¬ (k : Int) = 36 by omega)]
  by_cases c33 : k = 33
  · rw [if_pos (e33.mpr c33), if_pos (show (k : Int) = 33 by omega), if_neg (by decide)]; rfl
  rw [if_neg (fun z => c33 (e33.mp z)), if_neg (show ¬ (k : Int) = 33 by omega), bnd_of (cw_square R), bnd_of w22]
  by_cases c22 : k = 22
  · rw [if_pos c22, if_neg (show ¬ (1 : Int32) = 0 by decide), if_pos (show (k : Int) = 22 by omega), if_neg (by decide)]; rfl
  rw [if_neg c22, if_pos rfl, if_neg (show ¬ (k : Int) = 22 by omega), bnd_of (cw_sheet R), bnd_of w23]
  by_cases c23 : k = 23
  · rw [if_pos c23, if_neg (show ¬ (1 : Int32) = 0 by decide), if_pos (show (k : Int) = 23 by omega), if_neg (by decide)]; rfl
  rw [if_neg c23, if_pos rfl, if_neg (show ¬ (k : Int) = 23 by omega), bnd_of (cw_if R), bnd_of w15]
  by_cases c15 : k = 15
  · rw [if_pos c15, if_neg (show ¬ (1 : Int32) = 0 by decide), if_pos (show (k : Int) = 15 by omega), if_neg (by decide)]; rfl
  rw [if_neg c15, if_pos rfl, if_neg (show ¬ (k : Int) = 15 by omega), bnd_of (cw_not R), bnd_of w21]
  by_cases c21 : k = 21
  · rw [if_pos c21, if_neg (show ¬ (1 : Int32) = 0 by decide), if_pos (show (k : Int) = 21 by omega), bnd_of ha]
    have ab : ahd s.1 = 0 ∨ ahd s.1 = 1 := by
      cases s.1 with
      | nil => exact Or.inl rfl
      | cons x P =>
        rw [ahd_cons]
        repeat' split
        all_goals first | exact Or.inl rfl | exact Or.inr rfl
    rcases ab with z | z
    · rw [z, if_pos (show jj 0 = 0 from rfl), if_pos rfl, if_pos (by decide)]
    · rw [z, if_neg (show ¬ jj 1 = 0 by decide), if_neg (show ¬ (1 : Int) = 0 by decide), if_neg (by decide)]; rfl
  rw [if_neg c21, if_pos rfl, if_neg (show ¬ (k : Int) = 21 by omega), if_pos (by decide)]
theorem opc_b {P : List Int} {k : Int} : opc P k = -1 ∨ (0 ≤ opc P k ∧ opc P k ≤ 43) := by
  unfold opc
  repeat' split
  all_goals first | exact Or.inl rfl | exact Or.inr ⟨by decide, by decide⟩
theorem r_opened {L N : Nat} {kd wh x : Int} {R : St} {P : List Int} {D : List (Int × Int)} {o : Int} {b : Nat → Nat} {n i : Nat} (hN : 4000 < N) (hR : RSP L kd R (P, D, o) wh) (hT : TRR b n R i) (hP : P.length < 160) (ho : o ≠ 8) (o0 : -1000 ≤ o) (o1 : o ≤ 1000) : ∃ R', f_X10_opened N R (jj x) = some (0, R') ∧ RSP L kd R' (x :: P, D, o + 1) wh ∧ TRR b n R' (i + 1) ∧ OLD L R R' ∧ FX PFX R R' := by
  have e8 : ¬ jj o = (8 : Int32) := by rw [show (8 : Int32) = jj 8 from rfl, jj_eq (by omega) (by omega) (by decide) (by decide)]; exact ho
  have S1 := RSP_push (x := x) (o' := o + 1) hR
  have F1 : FX (fun f _ => f = 1015 ∨ f = 1016 ∨ f = 1017) R (sI (sI (sI R 1017 0 0 (jj (o + 1))) 1015 0 P.length (jj x)) 1016 0 0 (jj ((P.length + 1 : Nat) : Int))) := FX_sI (FX_sI (FX_sI (FX_refl _ _) (by omega)) (by omega)) (by omega)
  obtain ⟨R2, e2, S2, T2, O2, F2⟩ := r_next hN S1 (TRR_FX F1 (by omega) (by omega) (fun f a c => by omega) hT)
  refine ⟨R2, ?_, S2, T2, OLD_trans (OLD_FX F1 (by omega)) O2, FX_trans (FX_sub F1 (fun f _ z => by unfold PFX; omega)) (FX_sub F2 (fun f _ z => by unfold NXF at z; unfold PFX; omega))⟩
  have h7 : gI R 1017 0 0 = jj o := hR.2.2.1
  have h6 : gI R 1016 0 0 = jj (P.length : Int) := hR.1
  unfold f_X10_opened
  simp only [lt]
  rw [h7, if_neg e8, show jj o + (1 : Int32) = jj (o + 1) from jj_add o 1, show gI (sI R 1017 0 0 (jj (o + 1))) 1016 0 0 = jj (P.length : Int) from by rw [gI_sI, if_neg (by omega)]; exact h6, chk_true (jj_inb (by omega) (by omega) (by omega)), jj_nat (by omega) (by omega), Int.toNat_natCast, show gI (sI (sI R 1017 0 0 (jj (o + 1))) 1015 0 P.length (jj x)) 1016 0 0 = jj (P.length : Int) from by rw [gI_sI, if_neg (by omega), gI_sI, if_neg (by omega)]; exact h6, show jj (P.length : Int) + (1 : Int32) = jj ((P.length + 1 : Nat) : Int) from jn_add _ 1, bnd_of e2]
theorem l_cpo {b : Nat → Nat} {n i : Nat} {R : St} (hT : TRR b n R i) : f_X10_compareOf R = some (jj (cpo ((tkd b n (plc b n i) : Nat) : Int))) := by
  have e28 := is_k hT 28 60 (by decide) (by decide) rfl
  have e26 := is_k hT 26 4 (by decide) (by decide) rfl
  have e29 := is_k hT 29 62 (by decide) (by decide) rfl
  have e27 := is_k hT 27 5 (by decide) (by decide) rfl
  have e30 := is_k hT 30 61 (by decide) (by decide) rfl
  have e31 := is_k hT 31 35 (by decide) (by decide) rfl
  generalize tkd b n (plc b n i) = k at *
  unfold f_X10_compareOf cpo
  by_cases c28 : k = 28
  · rw [if_pos (e28.mpr c28), if_pos (by omega)]; rfl
  rw [if_neg (fun z => c28 (e28.mp z)), if_neg (show ¬ (k : Int) = 28 by omega)]
  by_cases c26 : k = 26
  · rw [if_pos (e26.mpr c26), if_pos (by omega)]; rfl
  rw [if_neg (fun z => c26 (e26.mp z)), if_neg (show ¬ (k : Int) = 26 by omega)]
  by_cases c29 : k = 29
  · rw [if_pos (e29.mpr c29), if_pos (by omega)]; rfl
  rw [if_neg (fun z => c29 (e29.mp z)), if_neg (show ¬ (k : Int) = 29 by omega)]
  by_cases c27 : k = 27
  · rw [if_pos (e27.mpr c27), if_pos (by omega)]; rfl
  rw [if_neg (fun z => c27 (e27.mp z)), if_neg (show ¬ (k : Int) = 27 by omega)]
  by_cases c30 : k = 30
  · rw [if_pos (e30.mpr c30), if_pos (by omega)]; rfl
  rw [if_neg (fun z => c30 (e30.mp z)), if_neg (show ¬ (k : Int) = 30 by omega)]
  by_cases c31 : k = 31
  · rw [if_pos (e31.mpr c31), if_pos (by omega)]; rfl
  rw [if_neg (fun z => c31 (e31.mp z)), if_neg (show ¬ (k : Int) = 31 by omega)]
  rfl
theorem l_btw {L N : Nat} {kd wh : Int} {R : St} {s : Ps} {b : Nat → Nat} {n i : Nat} (hN : 4000 < N) (hR : RSP L kd R s wh) (hB : PBD s.1) (hP : s.1.length ≤ 160) (hT : TRR b n R i) : f_X10_betweenOf N R = some (jj (btw s.1 ((tkd b n (plc b n i) : Nat) : Int))) := by
  have e32 := is_k hT 32 43 (by decide) (by decide) rfl
  have e33 := is_k hT 33 45 (by decide) (by decide) rfl
  have e34 := is_k hT 34 42 (by decide) (by decide) rfl
  have e35 := is_k hT 35 47 (by decide) (by decide) rfl
  have w25 := o_word hT (k := 25) (by decide) (by decide)
  have w24 := o_word hT (k := 24) (by decide) (by decide)
  have hc := l_cpo hT
  have ho := r_opn hN hP hB hR
  have hm := r_cmpd hN hP hB hR
  have ob := opn_b s.1 hB
  have cb := cmpd_b s.1
  have e41 : (jj (opn s.1) = (41 : Int32)) = (opn s.1 = 41) := jj_eq (b := 41) (by omega) (by omega) (by decide) (by decide)
  generalize tkd b n (plc b n i) = k at *
  unfold f_X10_betweenOf btw
  by_cases c32 : k = 32
  · rw [if_pos (e32.mpr c32), if_pos (by omega)]; rfl
  rw [if_neg (fun z => c32 (e32.mp z)), if_neg (show ¬ (k : Int) = 32 by omega)]
  by_cases c33 : k = 33
  · rw [if_pos (e33.mpr c33), if_pos (by omega)]; rfl
  rw [if_neg (fun z => c33 (e33.mp z)), if_neg (show ¬ (k : Int) = 33 by omega)]
  by_cases c34 : k = 34
  · rw [if_pos (e34.mpr c34), if_pos (by omega)]; rfl
  rw [if_neg (fun z => c34 (e34.mp z)), if_neg (show ¬ (k : Int) = 34 by omega)]
  by_cases c35 : k = 35
  · rw [if_pos (e35.mpr c35), if_pos (by omega)]; rfl
  rw [if_neg (fun z => c35 (e35.mp z)), if_neg (show ¬ (k : Int) = 35 by omega), bnd_of ho]
  by_cases q41 : opn s.1 = 41
  · rw [if_pos (e41.mpr q41), if_pos q41, bnd_of hm]
    rcases cb with z | z
    · rw [z, if_pos (show jj 0 = 0 from rfl), if_pos rfl, bnd_of hc]
    · rw [z, if_neg (show ¬ jj 1 = 0 by decide), if_neg (show ¬ (1 : Int) = 0 by decide), bnd_of (cw_and R), bnd_of w25]
      by_cases c25 : k = 25
      · rw [if_pos c25, if_neg (show ¬ (1 : Int32) = 0 by decide), if_pos (show (k : Int) = 25 by omega)]; rfl
      rw [if_neg c25, if_pos rfl, if_neg (show ¬ (k : Int) = 25 by omega), bnd_of (cw_or R), bnd_of w24]
      by_cases c24 : k = 24
      · rw [if_pos c24, if_neg (show ¬ (1 : Int32) = 0 by decide), if_pos (show (k : Int) = 24 by omega)]; rfl
      rw [if_neg c24, if_pos rfl, if_neg (show ¬ (k : Int) = 24 by omega)]; rfl
  · rw [if_neg (fun z => q41 (e41.mp z)), if_neg q41]; rfl
theorem l_ptk {L N : Nat} {kd wh : Int} {R : St} {s : Ps} {b : Nat → Nat} {n i : Nat} (hN : 4000 < N) (hR : RSP L kd R s wh) (hB : PBD s.1) (hP : s.1.length ≤ 160) (hT : TRR b n R i) : f_X10_partOf N R (jj (opn s.1)) = some (jj (ptk s.1 ((tkd b n (plc b n i) : Nat) : Int))) := by
  have e37 := is_k hT 37 41 (by decide) (by decide) rfl
  have w12 := o_word hT (k := 12) (by decide) (by decide)
  have w13 := o_word hT (k := 13) (by decide) (by decide)
  have w14 := o_word hT (k := 14) (by decide) (by decide)
  have hm := r_cmpd hN hP hB hR
  have ob := opn_b s.1 hB
  have cb := cmpd_b s.1
  have e40 : (jj (opn s.1) = (40 : Int32)) = (opn s.1 = 40) := jj_eq (b := 40) (by omega) (by omega) (by decide) (by decide)
  have e41 : (jj (opn s.1) = (41 : Int32)) = (opn s.1 = 41) := jj_eq (b := 41) (by omega) (by omega) (by decide) (by decide)
  have e42 : (jj (opn s.1) = (42 : Int32)) = (opn s.1 = 42) := jj_eq (b := 42) (by omega) (by omega) (by decide) (by decide)
  have e43 : (jj (opn s.1) = (43 : Int32)) = (opn s.1 = 43) := jj_eq (b := 43) (by omega) (by omega) (by decide) (by decide)
  generalize tkd b n (plc b n i) = k at *
  unfold f_X10_partOf ptk
  by_cases q40 : opn s.1 = 40
  · rw [if_pos (e40.mpr q40), if_pos q40]
    by_cases c : k = 37
    · rw [if_pos (e37.mpr c), if_pos (by omega)]; rfl
    · rw [if_neg (fun z => c (e37.mp z)), if_neg (by omega)]; rfl
  rw [if_neg (fun z => q40 (e40.mp z)), if_neg q40]
  by_cases q41 : opn s.1 = 41
  · rw [if_pos (e41.mpr q41), if_pos q41, bnd_of (cw_then R), bnd_of w12]
    by_cases c : k = 12
    · rw [if_pos c, if_neg (show ¬ (1 : Int32) = 0 by decide), if_pos (show (k : Int) = 12 by omega), bnd_of hm]
      rcases cb with z | z
      · rw [z, if_pos (show jj 0 = 0 from rfl), if_pos rfl]; rfl
      · rw [z, if_neg (show ¬ jj 1 = 0 by decide), if_neg (show ¬ (1 : Int) = 0 by decide)]; rfl
    · rw [if_neg c, if_pos rfl, if_neg (show ¬ (k : Int) = 12 by omega)]; rfl
  rw [if_neg (fun z => q41 (e41.mp z)), if_neg q41]
  by_cases q42 : opn s.1 = 42
  · rw [if_pos (e42.mpr q42), if_pos q42, bnd_of (cw_else R), bnd_of w13]
    by_cases c : k = 13
    · rw [if_pos c, if_neg (show ¬ (1 : Int32) = 0 by decide), if_pos (show (k : Int) = 13 by omega)]; rfl
    · rw [if_neg c, if_pos rfl, if_neg (show ¬ (k : Int) = 13 by omega)]; rfl
  rw [if_neg (fun z => q42 (e42.mp z)), if_neg q42]
  by_cases q43 : opn s.1 = 43
  · rw [if_pos (e43.mpr q43), if_pos q43, bnd_of (cw_end R), bnd_of w14]
    by_cases c : k = 14
    · rw [if_pos c, if_neg (show ¬ (1 : Int32) = 0 by decide), if_pos (show (k : Int) = 14 by omega)]; rfl
    · rw [if_neg c, if_pos rfl, if_neg (show ¬ (k : Int) = 14 by omega)]; rfl
  rw [if_neg (fun z => q43 (e43.mp z)), if_neg q43]; rfl
