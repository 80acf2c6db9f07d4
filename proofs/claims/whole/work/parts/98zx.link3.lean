/-! THE PARSER OF THE REFERENCE: the walk. -/
theorem btw_b {P : List Int} {k : Int} : btw P k = -1 ∨ (6 ≤ btw P k ∧ btw P k ≤ 22) := by
  unfold btw cpo
  repeat' split
  all_goals first | exact Or.inl rfl | exact Or.inr ⟨by decide, by decide⟩
theorem ptk_b {P : List Int} {k : Int} : ptk P k = -1 ∨ ptk P k = 0 ∨ ptk P k = 42 ∨ ptk P k = 43 := by
  unfold ptk
  repeat' split
  all_goals first | exact Or.inl rfl | exact Or.inr (Or.inl rfl) | exact Or.inr (Or.inr (Or.inl rfl)) | exact Or.inr (Or.inr (Or.inr rfl))
theorem k40 {K : Ks} {P : List Int} {i : Nat} (h : K.1 i = 40) : nmo (K.1 i) < 0 ∧ opc P (K.1 i) < 0 ∧ btw P (K.1 i) < 0 ∧ ptk P (K.1 i) < 0 := by
  rw [h]
  refine ⟨by decide, by show (-1 : Int) < 0; decide, ?_, ?_⟩
  · unfold btw cpo
    repeat' split
    all_goals first | decide | omega
  · unfold ptk
    repeat' split
    all_goals first | decide | omega
/-- after all that waits has been settled, what is open lies on top -/
theorem stl_open : ∀ (P : List Int) (D : List (Int × Int)) (o : Int), 0 ≤ opn P → ∃ P', (stl 1 P D o).1 = opn P :: P' ∧ 40 ≤ opn P := by
  intro P
  induction P with
  | nil => intro D o h; exact absurd h (by decide)
  | cons x P ih =>
    intro D o h
    by_cases q : 40 ≤ x
    · rw [stl_stop (by rw [rk_op q]; decide), opn_op q]
      exact ⟨P, rfl, q⟩
    · have r : 1 ≤ rk x := by
        have := @rk_b x
        unfold rk
        rw [if_neg q]
        repeat' split
        all_goals decide
      rw [stl_pop r, opn_lo r]
      rw [opn_lo r] at h
      exact ih _ _ h
theorem r_behind_btw {L N : Nat} {kd wh : Int} {R : St} {s : Ps} {b : Nat → Nat} {n i : Nat} {v : Int} (hN : 4000 < N) (hL : L < 4) (hR : RSP L kd R s wh) (hB : PBD s.1) (hP : s.1.length ≤ 160) (hD : s.2.1.length + s.1.length ≤ 300) (hT : TRR b n R i) (hv : btw s.1 ((tkd b n (plc b n i) : Nat) : Int) = v) (v0 : 0 ≤ v) (hl : (stl (lvl v) s.1 s.2.1 s.2.2).1.length < 160) : ∃ R', f_X10_behindOne N R = some (1, R') ∧ RSP L kd R' (v :: (stl (lvl v) s.1 s.2.1 s.2.2).1, (stl (lvl v) s.1 s.2.1 s.2.2).2) 0 ∧ TRR b n R' (i + 1) ∧ OLD L R R' ∧ FX PFX R R' := by
  have vb := @btw_b s.1 ((tkd b n (plc b n i) : Nat) : Int)
  have kb := @rk_b v
  have lb : 0 ≤ lvl v ∧ lvl v ≤ 7 := by unfold lvl; split <;> omega
  have eb := l_btw hN hR hB hP hT
  rw [hv] at eb
  obtain ⟨R1, e1, S1, O1, F1⟩ := r_settle (N := N) (m := lvl v) hL lb.1 lb.2 s.1 s.2.1 s.2.2 R N (by omega) (by omega) hP hB hR
  generalize stl (lvl v) s.1 s.2.1 s.2.2 = u at *
  obtain ⟨P', D', o'⟩ := u
  simp only at hl
  have S2 := RSP_push (x := v) (o' := o') S1
  have h6 : gI R1 1016 0 0 = jj (P'.length : Int) := S1.1
  have h7 : gI R1 1017 0 0 = jj o' := S1.2.2.1
  have same : sI R1 1017 0 0 (jj o') = R1 := by
    rw [← h7]
    unfold sI gI
    refine Prod.ext (funext fun f => funext fun j => funext fun k => ?_) rfl
    show (if f = 1017 ∧ j = 0 ∧ k = 0 then R1.1 1017 0 0 else R1.1 f j k) = R1.1 f j k
    by_cases z : f = 1017 ∧ j = 0 ∧ k = 0
    · rw [if_pos z, z.1, z.2.1, z.2.2]
    · rw [if_neg z]
  rw [same] at S2
  have S3 := RSP_wh (wh' := 0) S2
  have F2 : FX (fun f _ => f = 1015 ∨ f = 1016 ∨ f = 1018) R1 (sI (sI (sI R1 1015 0 P'.length (jj v)) 1016 0 0 (jj ((P'.length + 1 : Nat) : Int))) 1018 0 0 (jj 0)) := FX_sI (FX_sI (FX_sI (FX_refl _ _) (by omega)) (by omega)) (by omega)
  have T1 : TRR b n R1 i := TRR_FX F1 (by unfold SFX; omega) (by unfold SFX; omega) (fun f a c => by unfold SFX; omega) hT
  obtain ⟨R4, e4, S4, T4, O4, F4⟩ := r_next hN S3 (TRR_FX F2 (by omega) (by omega) (fun f a c => by omega) T1)
  refine ⟨R4, ?_, S4, T4, OLD_trans O1 (OLD_trans (OLD_FX F2 (by omega)) O4), FX_trans (FX_sub F1 (fun f _ z => by unfold SFX at z; unfold PFX; omega)) (FX_trans (FX_sub F2 (fun f _ z => by unfold PFX; omega)) (FX_sub F4 (fun f _ z => by unfold NXF at z; unfold PFX; omega)))⟩
  have tail : f_X10_behindOne_b26 N (jj v) (jj (lvl v)) R = some (1, R4) := by
    unfold f_X10_behindOne_b26 f_X10_settle
    rw [bnd_of e1, h6, chk_true (jj_inb (by omega) (by omega) (by omega)), jj_nat (by omega) (by omega), Int.toNat_natCast]
    simp only [lt]
    have e4 : f_X10_nextToken N (sI (sI (sI R1 1015 0 P'.length (jj v)) 1016 0 0 (jj ((P'.length + 1 : Nat) : Int))) 1018 0 0 0) = some R4 := e4
    rw [show gI (sI R1 1015 0 P'.length (jj v)) 1016 0 0 = jj (P'.length : Int) from by rw [gI_sI, if_neg (by omega)]; exact h6, show jj (P'.length : Int) + (1 : Int32) = jj ((P'.length + 1 : Nat) : Int) from jn_add _ 1, bnd_of e4]
  have j4 : (jj (rk v) = (4 : Int32)) = (rk v = 4) := jj_eq (b := 4) (by omega) (by omega) (by decide) (by decide)
  unfold f_X10_behindOne
  rw [bnd_of eb, if_neg (show ¬ jj v < (0 : Int32) by rw [show (0 : Int32) = jj 0 from rfl, jj_lt (by omega) (by omega) (by decide) (by decide)]; omega), bnd_of (r_rank R v0 (by omega))]
  by_cases z : rk v = 4
  · rw [if_pos (j4.mpr z)]
    rw [show lvl v = 5 from if_pos z] at tail
    exact tail
  · rw [if_neg (fun y => z (j4.mp y)), bnd_of (r_rank R v0 (by omega))]
    rw [show lvl v = rk v from if_neg z] at tail
    exact tail
theorem RSP_top {L : Nat} {kd wh x y : Int} {R : St} {P : List Int} {D : List (Int × Int)} {o : Int} (hR : RSP L kd R (x :: P, D, o) wh) : RSP L kd (sI R 1015 0 P.length (jj y)) (y :: P, D, o) wh := by
  obtain ⟨h1, h2, h3, h4, h5, h6, h7, h8⟩ := hR
  have F : FX (fun f _ => f = 1015) R (sI R 1015 0 P.length (jj y)) := FX_sI (FX_refl _ _) rfl
  refine ⟨(F.1 1016 0 0 (by omega)).trans h1, ⟨by rw [gI_sI, if_pos ⟨rfl, rfl, rfl⟩], PIL_eq (fun k hk => by rw [gI_sI, if_neg (by omega)]) h2.2⟩, (F.1 1017 0 0 (by omega)).trans h3, (F.1 1018 0 0 (by omega)).trans h4, (F.1 1013 0 0 (by omega)).trans h5, (F.1 1012 0 0 (by omega)).trans h6, fun k c hc => ?_, (F.1 1014 0 0 (by omega)).trans h8⟩
  rw [F.1 1002 0 _ (by omega), F.1 1002 0 _ (by omega)]
  exact h7 k c hc
theorem RSP_drop {L : Nat} {kd wh x : Int} {R : St} {P : List Int} {D : List (Int × Int)} {o : Int} (hR : RSP L kd R (x :: P, D, o) wh) : RSP L kd (sI (sI R 1017 0 0 (jj (o - 1))) 1016 0 0 (jj (P.length : Int))) (P, D, o - 1) wh := by
  obtain ⟨h1, h2, h3, h4, h5, h6, h7, h8⟩ := hR
  have F : FX (fun f _ => f = 1017 ∨ f = 1016) R (sI (sI R 1017 0 0 (jj (o - 1))) 1016 0 0 (jj (P.length : Int))) := FX_sI (FX_sI (FX_refl _ _) (by omega)) (by omega)
  refine ⟨by rw [gI_sI, if_pos ⟨rfl, rfl, rfl⟩], PIL_eq (fun k _ => F.1 1015 0 k (by omega)) h2.2, by rw [gI_sI, if_neg (by omega), gI_sI, if_pos ⟨rfl, rfl, rfl⟩], (F.1 1018 0 0 (by omega)).trans h4, (F.1 1013 0 0 (by omega)).trans h5, (F.1 1012 0 0 (by omega)).trans h6, fun k c hc => ?_, (F.1 1014 0 0 (by omega)).trans h8⟩
  rw [F.1 1002 0 _ (by omega), F.1 1002 0 _ (by omega)]
  exact h7 k c hc
theorem r_behind_part {L N : Nat} {kd wh : Int} {R : St} {s : Ps} {b : Nat → Nat} {n i : Nat} {v : Int} (hN : 4000 < N) (hL : L < 4) (hR : RSP L kd R s wh) (hB : PBD s.1) (hP : s.1.length ≤ 160) (hD : s.2.1.length + s.1.length ≤ 300) (hT : TRR b n R i) (hb : btw s.1 ((tkd b n (plc b n i) : Nat) : Int) < 0) (hv : ptk s.1 ((tkd b n (plc b n i) : Nat) : Int) = v) (v0 : 0 ≤ v) : ∃ R', f_X10_behindOne N R = some (1, R') ∧ (0 < v → RSP L kd R' (v :: (stl 1 s.1 s.2.1 s.2.2).1.tail, (stl 1 s.1 s.2.1 s.2.2).2) 0) ∧ (v = 0 → RSP L kd R' (stl 7 (stl 1 s.1 s.2.1 s.2.2).1.tail (if opn s.1 = 43 then (stl 1 s.1 s.2.1 s.2.2).2.1 ++ [(3, 0)] else (stl 1 s.1 s.2.1 s.2.2).2.1) ((stl 1 s.1 s.2.1 s.2.2).2.2 - 1)) wh) ∧ TRR b n R' (i + 1) ∧ OLD L R R' ∧ FX PFX R R' := by
  have pb := @ptk_b s.1 ((tkd b n (plc b n i) : Nat) : Int)
  have ob := opn_b s.1 hB
  have o0 : 0 ≤ opn s.1 := by
    rcases ob with z | z
    · have e : ptk s.1 ((tkd b n (plc b n i) : Nat) : Int) = -1 := by
        unfold ptk
        rw [if_neg (by omega), if_neg (by omega), if_neg (by omega), if_neg (by omega)]
      omega
    · omega
  have bb := @btw_b s.1 ((tkd b n (plc b n i) : Nat) : Int)
  have eb := l_btw hN hR hB hP hT
  have ep := l_ptk hN hR hB hP hT
  rw [hv] at ep
  have eo := r_opn hN hP hB hR
  obtain ⟨R1, e1, S1, O1, F1⟩ := r_settle (N := N) (m := 1) hL (by decide) (by decide) s.1 s.2.1 s.2.2 R N (by omega) (by omega) hP hB hR
  have e1 : f_X10_settle N R 1 = some R1 := e1
  obtain ⟨P', hP', o40⟩ := stl_open s.1 s.2.1 s.2.2 o0
  obtain ⟨l1, l2, l3, l4, l5⟩ := stl_len (m := 1) s.1 s.2.1 s.2.2
  generalize stl 1 s.1 s.2.1 s.2.2 = u at *
  obtain ⟨P1, D', o'⟩ := u
  simp only at hP' l1 l2 l3 l4 l5 S1
  subst hP'
  simp only [List.length_cons] at l1 l2
  have T1 : TRR b n R1 i := TRR_FX F1 (by unfold SFX; omega) (by unfold SFX; omega) (fun f a c => by unfold SFX; omega) hT
  obtain ⟨R2, e2, S2, T2, O2, F2⟩ := r_next hN S1 T1
  have F02 : FX PFX R R2 := FX_trans (FX_sub F1 (fun f _ z => by unfold SFX at z; unfold PFX; omega)) (FX_sub F2 (fun f _ z => by unfold NXF at z; unfold PFX; omega))
  have B1 : PBD (opn s.1 :: P') := fun x hx => hB x (l5 x hx)
  have lv : ((0 : Int32) ≤ jj v) = (0 ≤ v) := jj_le (a := 0) (by decide) (by decide) (by omega) (by omega)
  have lv2 : (jj v ≤ (0 : Int32)) = (v ≤ 0) := jj_le (b := 0) (by omega) (by omega) (by decide) (by decide)
  have lb : jj (btw s.1 ((tkd b n (plc b n i) : Nat) : Int)) < (0 : Int32) := by rw [show (0 : Int32) = jj 0 from rfl, jj_lt (by omega) (by omega) (by decide) (by decide)]; omega
  have h6 : gI R2 1016 0 0 = jj ((P'.length + 1 : Nat) : Int) := S2.1
  have h7 : gI R2 1017 0 0 = jj o' := S2.2.2.1
  unfold f_X10_behindOne
  rw [bnd_of eb, if_pos lb, bnd_of eo, bnd_of ep, if_pos (lv.mpr v0), bnd_of e1, bnd_of e2]
  by_cases q : 0 < v
  · have oa : oat (opn s.1 :: P') = (P'.length : Int) := if_pos o40
    have e3 := r_oat (N := N) (s := (opn s.1 :: P', D', o')) hN (by simp only [List.length_cons]; omega) B1 S2
    simp only at e3
    rw [oa] at e3
    have S3 := RSP_wh (wh' := 0) (RSP_top (y := v) S2)
    have F3 : FX (fun f _ => f = 1015 ∨ f = 1018) R2 (sI (sI R2 1015 0 P'.length (jj v)) 1018 0 0 (jj 0)) := FX_sI (FX_sI (FX_refl _ _) (by omega)) (by omega)
    refine ⟨sI (sI R2 1015 0 P'.length (jj v)) 1018 0 0 (jj 0), ?_, fun _ => S3, fun z => by omega, TRR_FX F3 (by omega) (by omega) (fun f a c => by omega) T2, OLD_trans O1 (OLD_trans O2 (OLD_FX F3 (by omega))), FX_trans F02 (FX_sub F3 (fun f _ z => by unfold PFX; omega))⟩
    rw [if_neg (fun z => by have := lv2.mp z; omega), bnd_of e3, chk_true (jj_inb (by omega) (by omega) (by omega)), jj_nat (by omega) (by omega), Int.toNat_natCast]
    rfl
  · have S3 := RSP_drop S2
    have F3 : FX (fun f _ => f = 1017 ∨ f = 1016) R2 (sI (sI R2 1017 0 0 (jj (o' - 1))) 1016 0 0 (jj (P'.length : Int))) := FX_sI (FX_sI (FX_refl _ _) (by omega)) (by omega)
    have T3 := TRR_FX F3 (by omega) (by omega) (fun f a c => by omega) T2
    have u1 : (lt (sI R2 1017 0 0 (gI R2 1017 0 0 - 1)) fun S6 => lt (sI S6 1016 0 0 (gI S6 1016 0 0 - 1)) fun S7 => if jj (opn s.1) = (43 : Int32) then (bnd (f_X10_emit S7 (3 : Int32) (0 : Int32)) fun q9 => f_X10_behindOne_b139 N q9) else (f_X10_behindOne_b139 N S7)) = (if jj (opn s.1) = (43 : Int32) then (bnd (f_X10_emit (sI (sI R2 1017 0 0 (jj (o' - 1))) 1016 0 0 (jj (P'.length : Int))) (3 : Int32) (0 : Int32)) fun q9 => f_X10_behindOne_b139 N q9) else (f_X10_behindOne_b139 N (sI (sI R2 1017 0 0 (jj (o' - 1))) 1016 0 0 (jj (P'.length : Int))))) := by
      simp only [lt]
      rw [h7, show jj o' - (1 : Int32) = jj (o' - 1) from jj_sub o' 1, show gI (sI R2 1017 0 0 (jj (o' - 1))) 1016 0 0 = jj ((P'.length + 1 : Nat) : Int) from by rw [gI_sI, if_neg (by omega)]; exact h6, show jj ((P'.length + 1 : Nat) : Int) - (1 : Int32) = jj (P'.length : Int) from (jj_sub _ 1).trans (by congr 1; omega)]
    rw [if_pos (lv2.mpr (by omega)), u1]
    have e43 : (jj (opn s.1) = (43 : Int32)) = (opn s.1 = 43) := jj_eq (b := 43) (by omega) (by omega) (by decide) (by decide)
    generalize sI (sI R2 1017 0 0 (jj (o' - 1))) 1016 0 0 (jj (P'.length : Int)) = R3 at S3 F3 T3
    have F03 : FX PFX R R3 := FX_trans F02 (FX_sub F3 (fun f _ z => by unfold PFX; omega))
    have O03 : OLD L R R3 := OLD_trans O1 (OLD_trans O2 (OLD_FX F3 (by omega)))
    have fin : ∀ (R4 : St) (D4 : List (Int × Int)), RSP L kd R4 (P', D4, o' - 1) wh → TRR b n R4 (i + 1) → OLD L R R4 → FX PFX R R4 → D4.length + P'.length ≤ 302 → ∃ R', f_X10_behindOne_b139 N R4 = some (1, R') ∧ RSP L kd R' (stl 7 P' D4 (o' - 1)) wh ∧ TRR b n R' (i + 1) ∧ OLD L R R' ∧ FX PFX R R' := by
      intro R4 D4 S4 T4 O4 F4 hl
      obtain ⟨R5, e5, S5, O5, F5⟩ := r_settle (N := N) (m := 7) hL (by decide) (by decide) P' D4 (o' - 1) R4 N (by omega) hl (by omega) (fun x hx => B1 x (List.mem_cons_of_mem _ hx)) S4
      refine ⟨R5, ?_, S5, TRR_FX F5 (by unfold SFX; omega) (by unfold SFX; omega) (fun f a c => by unfold SFX; omega) T4, OLD_trans O4 O5, FX_trans F4 (FX_sub F5 (fun f _ z => by unfold SFX at z; unfold PFX; omega))⟩
      have e5 : f_X10_settle N R4 7 = some R5 := e5
      unfold f_X10_behindOne_b139
      rw [bnd_of e5]
    by_cases q43 : opn s.1 = 43
    · rw [if_pos (e43.mpr q43)]
      obtain ⟨R4, e4, S4, O4, F4⟩ := r_emit (x := 3) (v := 0) hL (by omega) S3
      have e4 : f_X10_emit R3 3 0 = some R4 := e4
      rw [bnd_of e4]
      obtain ⟨R5, e5, S5, T5, O5, F5⟩ := fin R4 (D' ++ [(3, 0)]) S4 (TRR_FX F4 (by omega) (by omega) (fun f a c => by omega) T3) (OLD_trans O03 O4) (FX_trans F03 (FX_sub F4 (fun f _ z => by unfold PFX; omega))) (by rw [List.length_append, List.length_singleton]; omega)
      refine ⟨R5, e5, fun z => by omega, fun _ => ?_, T5, O5, F5⟩
      show RSP L kd R5 (stl 7 P' (if opn s.1 = 43 then D' ++ [(3, 0)] else D') (o' - 1)) wh
      rw [if_pos q43]
      exact S5
    · rw [if_neg (fun z => q43 (e43.mp z))]
      obtain ⟨R5, e5, S5, T5, O5, F5⟩ := fin R3 D' S3 T3 O03 F03 (by omega)
      refine ⟨R5, e5, fun z => by omega, fun _ => ?_, T5, O5, F5⟩
      show RSP L kd R5 (stl 7 P' (if opn s.1 = 43 then D' ++ [(3, 0)] else D') (o' - 1)) wh
      rw [if_neg q43]
      exact S5
/-- the whole walk -/
theorem r_link {L N : Nat} {kd : Int} {b : Nat → Nat} {n nt : Nat} (hN : 4000 < N) (hL : L < 4) (hS : TS (Kst b n nt kd)) : ∀ (fuel : Nat) (R : St) (s : Ps) (wh : Int) (i : Nat) (f : Int) (j : Nat) (D' : List (Int × Int)), RSP L kd R s wh → TRR b n R i → (wh = 0 ∨ wh = 1) → PBD s.1 → s.1.length ≤ 160 → s.2.1.length + s.1.length ≤ i → i < nt → -(i : Int) ≤ s.2.2 - s.1.length → s.2.2 ≤ i → itR (Kst b n nt kd) fuel s wh i = some (f, j, D') → ∃ R', f_X10_summed_b15 N fuel R = some (jj f, R') ∧ TRR b n R' j ∧ j < nt ∧ OLD L R R' ∧ FX PFX R R' ∧ (f = 0 → gI R' 1013 0 0 = jj (D'.length : Int) ∧ COD R' L D' ∧ D'.length ≤ j) := by
  have nt1 := hS.2.1
  have nt1 : nt ≤ 301 := nt1
  have hkd := hS.2.2.2.2.2.2
  have hkd : kd = 0 ∨ kd = 1 := hkd
  intro fuel
  induction fuel with
  | zero => intro R s wh i f j D' hR hT hw hB hP hD hi h1 h2 he; exact absurd he (by simp [itR])
  | succ fuel ih =>
    intro R s wh i f j D' hR hT hw hB hP hD hi h1 h2 he
    have nx : (Kst b n nt kd).1 i ≠ 40 → i + 1 < nt := fun z => TS_next hS hi z
    have K1 : (Kst b n nt kd).1 i = ((tkd b n (plc b n i) : Nat) : Int) := rfl
    have K2 : (Kst b n nt kd).2.1 i = ((tnm b n (plc b n i) : Nat) : Int) := rfl
    have K5 : (Kst b n nt kd).2.2.2.2 = kd := rfl
    have c40 := @k40 (Kst b n nt kd) s.1 i
    rw [itR] at he
    rw [f_X10_summed_b15, hR.2.2.2.1]
    -- what a step hands on
    have go : ∀ (R1 : St) (s1 : Ps) (wh1 : Int), RSP L kd R1 s1 wh1 → TRR b n R1 (i + 1) → OLD L R R1 → FX PFX R R1 → (wh1 = 0 ∨ wh1 = 1) → PBD s1.1 → s1.1.length ≤ 160 → s1.2.1.length + s1.1.length ≤ i + 1 → i + 1 < nt → -((i + 1 : Nat) : Int) ≤ s1.2.2 - s1.1.length → s1.2.2 ≤ ((i + 1 : Nat) : Int) → itR (Kst b n nt kd) fuel s1 wh1 (i + 1) = some (f, j, D') → ∃ R', f_X10_summed_b15 N fuel R1 = some (jj f, R') ∧ TRR b n R' j ∧ j < nt ∧ OLD L R R' ∧ FX PFX R R' ∧ (f = 0 → gI R' 1013 0 0 = jj (D'.length : Int) ∧ COD R' L D' ∧ D'.length ≤ j) := by
      intro R1 s1 wh1 a1 a2 a3 a4 a5 a6 a7 a8 a9 a10 a11 a12
      obtain ⟨R', e, t1, t2, t3, t4, t5⟩ := ih R1 s1 wh1 (i + 1) f j D' a1 a2 a5 a6 a7 a8 a9 a10 a11 a12
      exact ⟨R', e, t1, t2, OLD_trans a3 t3, FX_trans a4 t4, t5⟩
    obtain ⟨P, D, o⟩ := s
    simp only at hB hP hD h1 h2 he c40
    rcases hw with rfl | rfl
    · rw [if_pos rfl] at he
      rw [if_pos (show jj 0 = 0 from rfl)]
      have after : ∀ (c v : Int), itR (Kst b n nt kd) fuel (stl 7 P (D ++ [(c, v)]) o) 1 (i + 1) = some (f, j, D') → (Kst b n nt kd).1 i ≠ 40 → ∃ R', (bnd (f_X10_beginOne_b81 N (jj v) (jj c) R) fun q4 => if q4.1 = (0 : Int32) then (f_X10_summed_b15 N fuel q4.2) else (some (q4.1, q4.2))) = some (jj f, R') ∧ TRR b n R' j ∧ j < nt ∧ OLD L R R' ∧ FX PFX R R' ∧ (f = 0 → gI R' 1013 0 0 = jj (D'.length : Int) ∧ COD R' L D' ∧ D'.length ≤ j) := by
        intro c v hit h40
        obtain ⟨R1, e1, S1, T1, O1, F1⟩ := r_b81 (c := c) (v := v) hN hL hR hT hB hP (by omega)
        obtain ⟨l1, l2, l3, l4, l5⟩ := stl_len (m := 7) P (D ++ [(c, v)]) o
        rw [List.length_append, List.length_singleton] at l1
        rw [bnd_of e1, if_pos rfl]
        exact go R1 _ 1 S1 T1 O1 F1 (Or.inr rfl) (fun x hx => hB x (l5 x hx)) (by omega) (by omega) (nx h40) (by omega) (by omega) hit
      by_cases c39 : (Kst b n nt kd).1 i = 39
      · rw [if_pos c39] at he
        have c39' : tkd b n (plc b n i) = 39 := by rw [K1] at c39; omega
        rw [l_num (L := L) (kd := kd) (wh := 0) (s := (P, D, o)) hT c39']
        rw [K2] at he
        by_cases q9 : tnm b n (plc b n i) ≤ 9999
        · rw [if_neg (by omega)] at he
          rw [if_pos q9]
          exact after 0 _ he (by omega)
        · rw [if_pos (by omega)] at he
          rw [if_neg q9]
          have := Option.some.inj he
          obtain ⟨rfl, rfl, rfl⟩ : f = 2 ∧ j = i ∧ D' = D := ⟨(congrArg (·.1) this).symm, (congrArg (·.2.1) this).symm, (congrArg (·.2.2) this).symm⟩
          exact ⟨R, rfl, hT, hi, fun _ _ => rfl, FX_refl _ _, fun z => absurd z (by decide)⟩
      · rw [if_neg c39] at he
        have c39' : tkd b n (plc b n i) ≠ 39 := by rw [K1] at c39; omega
        by_cases n0 : 0 ≤ nmo ((Kst b n nt kd).1 i)
        · rw [if_pos n0, K5] at he
          have h40 : (Kst b n nt kd).1 i ≠ 40 := fun z => by have := (c40 z).1; omega
          rw [K1] at n0 he
          rw [l_name hR hkd hT c39' n0]
          by_cases q5 : 3 < nmo ((tkd b n (plc b n i) : Nat) : Int) ∧ kd ≠ 0
          · rw [if_pos q5] at he
            rw [if_neg (by omega)]
            have := Option.some.inj he
            obtain ⟨rfl, rfl, rfl⟩ : f = 5 ∧ j = i ∧ D' = D := ⟨(congrArg (·.1) this).symm, (congrArg (·.2.1) this).symm, (congrArg (·.2.2) this).symm⟩
            exact ⟨R, rfl, hT, hi, fun _ _ => rfl, FX_refl _ _, fun z => absurd z (by decide)⟩
          · rw [if_neg q5] at he
            rw [if_pos (by omega)]
            exact after 1 _ he h40
        · rw [if_neg n0] at he
          rw [K1] at n0
          rw [l_open hN hR hB hP hT c39' (by omega)]
          rw [← K1]
          simp only
          by_cases qo : opc P ((Kst b n nt kd).1 i) < 0
          · rw [if_pos qo] at he
            rw [if_pos qo]
            have := Option.some.inj he
            obtain ⟨rfl, rfl, rfl⟩ : f = 1 ∧ j = i ∧ D' = D := ⟨(congrArg (·.1) this).symm, (congrArg (·.2.1) this).symm, (congrArg (·.2.2) this).symm⟩
            exact ⟨R, rfl, hT, hi, fun _ _ => rfl, FX_refl _ _, fun z => absurd z (by decide)⟩
          · rw [if_neg qo] at he
            rw [if_neg qo]
            have h40 : (Kst b n nt kd).1 i ≠ 40 := fun z => qo (c40 z).2.1
            by_cases q8 : o = 8
            · rw [if_pos q8] at he
              have e3 : f_X10_opened N R (jj (opc P ((Kst b n nt kd).1 i))) = some (3, R) := by
                unfold f_X10_opened
                have h7 : gI R 1017 0 0 = jj o := hR.2.2.1
                rw [h7, q8, if_pos (show jj 8 = 8 from rfl)]
              rw [bnd_of e3]
              have := Option.some.inj he
              obtain ⟨rfl, rfl, rfl⟩ : f = 3 ∧ j = i ∧ D' = D := ⟨(congrArg (·.1) this).symm, (congrArg (·.2.1) this).symm, (congrArg (·.2.2) this).symm⟩
              exact ⟨R, rfl, hT, hi, fun _ _ => rfl, FX_refl _ _, fun z => absurd z (by decide)⟩
            · rw [if_neg q8] at he
              by_cases ql : P.length < 160
              · rw [if_pos ql] at he
                obtain ⟨R1, e1, S1, T1, O1, F1⟩ := r_opened (x := opc P ((Kst b n nt kd).1 i)) hN hR hT ql q8 (by omega) (by omega)
                rw [bnd_of e1]
                show ∃ R', (if (0 : Int32) = 0 then (f_X10_summed_b15 N fuel R1) else (some ((0 : Int32), R1))) = some (jj f, R') ∧ _
                rw [if_pos rfl]
                have ob := @opc_b P ((Kst b n nt kd).1 i)
                refine go R1 _ 0 S1 T1 O1 F1 (Or.inl rfl) (fun x hx => ?_) (by simp only [List.length_cons]; omega) (by simp only [List.length_cons]; omega) (nx h40) (by simp only [List.length_cons]; omega) (by show o + 1 ≤ _; omega) he
                rcases List.mem_cons.mp hx with z | z
                · rw [z]; omega
                · exact hB x z
              · rw [if_neg ql] at he
                exact absurd he (by simp)
    · rw [if_neg (show ¬ (1 : Int) = 0 by decide)] at he
      rw [if_neg (show ¬ jj 1 = 0 by decide)]
      by_cases qb : 0 ≤ btw P ((Kst b n nt kd).1 i)
      · rw [if_pos qb] at he
        have h40 : (Kst b n nt kd).1 i ≠ 40 := fun z => by have := (c40 z).2.2.1; omega
        by_cases ql : (stl (lvl (btw P ((Kst b n nt kd).1 i))) P D o).1.length < 160
        · rw [if_pos ql] at he
          obtain ⟨R1, e1, S1, T1, O1, F1⟩ := r_behind_btw (s := (P, D, o)) hN hL hR hB hP (by show D.length + P.length ≤ 300; omega) hT rfl qb ql
          obtain ⟨l1, l2, l3, l4, l5⟩ := stl_len (m := lvl (btw P ((Kst b n nt kd).1 i))) P D o
          rw [bnd_of e1, if_neg (show ¬ (1 : Int32) = 0 by decide)]
          have bb := @btw_b P ((Kst b n nt kd).1 i)
          refine go R1 _ 0 S1 T1 O1 F1 (Or.inl rfl) (fun x hx => ?_) (by show (_ :: _ : List Int).length ≤ 160; rw [List.length_cons]; exact ql) ?_ (nx h40) ?_ ?_ he
          · rcases List.mem_cons.mp hx with z | z
            · rw [z]
              show 0 ≤ btw P ((Kst b n nt kd).1 i) ∧ btw P ((Kst b n nt kd).1 i) ≤ 43
              omega
            · exact hB x (l5 x z)
          · show (stl (lvl (btw P ((Kst b n nt kd).1 i))) P D o).2.1.length + (_ :: (stl (lvl (btw P ((Kst b n nt kd).1 i))) P D o).1 : List Int).length ≤ i + 1
            rw [List.length_cons]; omega
          · show -((i + 1 : Nat) : Int) ≤ (stl (lvl (btw P ((Kst b n nt kd).1 i))) P D o).2.2 - (((_ :: (stl (lvl (btw P ((Kst b n nt kd).1 i))) P D o).1 : List Int).length : Nat) : Int)
            rw [List.length_cons]; omega
          · show (stl (lvl (btw P ((Kst b n nt kd).1 i))) P D o).2.2 ≤ _
            omega
        · rw [if_neg ql] at he
          exact absurd he (by simp)
      · rw [if_neg qb] at he
        by_cases qp : ptk P ((Kst b n nt kd).1 i) < 0
        · rw [if_pos qp] at he
          have eb := l_btw hN hR hB hP hT
          have ep := l_ptk hN hR hB hP hT
          have eo := r_opn hN hP hB hR
          have bb := @btw_b P ((Kst b n nt kd).1 i)
          have pb := @ptk_b P ((Kst b n nt kd).1 i)
          have ob := opn_b P hB
          rw [← K1] at eb ep
          simp only at eb ep eo
          have eB : f_X10_behindOne N R = some (0, R) := by
            unfold f_X10_behindOne
            rw [bnd_of eb, if_pos (show jj (btw P ((Kst b n nt kd).1 i)) < (0 : Int32) by rw [show (0 : Int32) = jj 0 from rfl, jj_lt (by omega) (by omega) (by decide) (by decide)]; omega), bnd_of eo, bnd_of ep, if_neg (show ¬ (0 : Int32) ≤ jj (ptk P ((Kst b n nt kd).1 i)) by rw [show (0 : Int32) = jj 0 from rfl, jj_le (by decide) (by decide) (by omega) (by omega)]; omega)]
          have lo : (jj (opn P) < (0 : Int32)) = (opn P < 0) := jj_lt (b := 0) (by omega) (by omega) (by decide) (by decide)
          rw [bnd_of eB, if_pos rfl, bnd_of eo]
          by_cases qo : 0 ≤ opn P
          · rw [if_pos qo] at he
            rw [if_neg (fun z => by have := lo.mp z; omega)]
            have := Option.some.inj he
            obtain ⟨rfl, rfl, rfl⟩ : f = 1 ∧ j = i ∧ D' = D := ⟨(congrArg (·.1) this).symm, (congrArg (·.2.1) this).symm, (congrArg (·.2.2) this).symm⟩
            exact ⟨R, rfl, hT, hi, fun _ _ => rfl, FX_refl _ _, fun z => absurd z (by decide)⟩
          · rw [if_neg qo] at he
            rw [if_pos (lo.mpr (by omega))]
            obtain ⟨R1, e1, S1, O1, F1⟩ := r_settle (N := N) (m := 1) hL (by decide) (by decide) P D o R N (by omega) (by omega) hP hB hR
            have e1 : f_X10_settle N R 1 = some R1 := e1
            obtain ⟨l1, l2, l3, l4, l5⟩ := stl_len (m := 1) P D o
            rw [bnd_of e1]
            have := Option.some.inj he
            obtain ⟨rfl, rfl, rfl⟩ : f = 0 ∧ j = i ∧ D' = (stl 1 P D o).2.1 := ⟨(congrArg (·.1) this).symm, (congrArg (·.2.1) this).symm, (congrArg (·.2.2) this).symm⟩
            exact ⟨R1, rfl, TRR_FX F1 (by unfold SFX; omega) (by unfold SFX; omega) (fun f a c => by unfold SFX; omega) hT, hi, O1, FX_sub F1 (fun f _ z => by unfold SFX at z; unfold PFX; omega), fun _ => ⟨S1.2.2.2.2.1, S1.2.2.2.2.2.2.1, by omega⟩⟩
        · rw [if_neg qp] at he
          have h40 : (Kst b n nt kd).1 i ≠ 40 := fun z => qp (c40 z).2.2.2
          have pb := @ptk_b P ((Kst b n nt kd).1 i)
          obtain ⟨R1, e1, S1, S2, T1, O1, F1⟩ := r_behind_part (s := (P, D, o)) hN hL hR hB hP (by show D.length + P.length ≤ 300; omega) hT (by show btw P ((Kst b n nt kd).1 i) < 0; omega) (show ptk P ((tkd b n (plc b n i) : Nat) : Int) = ptk P ((Kst b n nt kd).1 i) from rfl) (by omega)
          obtain ⟨l1, l2, l3, l4, l5⟩ := stl_len (m := 1) P D o
          simp only at S1 S2
          have lt' : (stl 1 P D o).1.tail.length ≤ (stl 1 P D o).1.length ∧ (stl 1 P D o).1.length ≤ (stl 1 P D o).1.tail.length + 1 ∧ ∀ x ∈ (stl 1 P D o).1.tail, x ∈ (stl 1 P D o).1 := by
            rw [List.length_tail]
            exact ⟨by omega, by omega, fun x hx => List.mem_of_mem_tail hx⟩
          have o0 : 0 ≤ opn P := by
            rcases opn_b P hB with z | z
            · have e : ptk P ((Kst b n nt kd).1 i) = -1 := by
                unfold ptk
                rw [if_neg (by omega), if_neg (by omega), if_neg (by omega), if_neg (by omega)]
              omega
            · omega
          obtain ⟨P2, hP2, -⟩ := stl_open P D o o0
          have lt2 : (stl 1 P D o).1.length = (stl 1 P D o).1.tail.length + 1 := by rw [hP2]; rfl
          rw [bnd_of e1, if_neg (show ¬ (1 : Int32) = 0 by decide)]
          by_cases q0 : 0 < ptk P ((Kst b n nt kd).1 i)
          · rw [if_pos q0] at he
            refine go R1 _ 0 (S1 q0) T1 O1 F1 (Or.inl rfl) (fun x hx => ?_) ?_ ?_ (nx h40) ?_ ?_ he
            · rcases List.mem_cons.mp hx with z | z
              · rw [z]; omega
              · exact hB x (l5 x (lt'.2.2 x z))
            · show (_ :: (stl 1 P D o).1.tail : List Int).length ≤ 160
              rw [List.length_cons]; omega
            · show (stl 1 P D o).2.1.length + (_ :: (stl 1 P D o).1.tail : List Int).length ≤ i + 1
              rw [List.length_cons]; omega
            · show -((i + 1 : Nat) : Int) ≤ (stl 1 P D o).2.2 - (((_ :: (stl 1 P D o).1.tail : List Int).length : Nat) : Int)
              rw [List.length_cons]; omega
            · show (stl 1 P D o).2.2 ≤ _
              omega
          · rw [if_neg q0] at he
            have S3 := S2 (by omega)
            obtain ⟨m1, m2, m3, m4, m5⟩ := stl_len (m := 7) (stl 1 P D o).1.tail (if opn P = 43 then (stl 1 P D o).2.1 ++ [(3, 0)] else (stl 1 P D o).2.1) ((stl 1 P D o).2.2 - 1)
            have dl : (if opn P = 43 then (stl 1 P D o).2.1 ++ [(3, 0)] else (stl 1 P D o).2.1).length ≤ (stl 1 P D o).2.1.length + 1 := by
              split
              · rw [List.length_append, List.length_singleton]; omega
              · omega
            exact go R1 _ 1 S3 T1 O1 F1 (Or.inr rfl) (fun x hx => hB x (l5 x (lt'.2.2 x (m5 x hx)))) (by omega) (by omega) (nx h40) (by omega) (by omega) he
