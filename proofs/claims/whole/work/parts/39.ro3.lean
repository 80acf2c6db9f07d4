def f_X7_fewest_b18 (N : Nat) : Nat → Int32 → Int32 → Int32 → St → Option (Int32 × St)
  | 0, _, _, _, _ => none
  | n + 1, x1, x2, x3, S =>
  if (3 : Int32) < x3 then
  (some ((-2 : Int32), S))
  else
  (bnd (f_X7_isPlan N S (0 : Int32) x3 x1 x2) fun q3 =>
 if q3.1 = (0 : Int32) then
  (lt (x3 + (1 : Int32)) fun v4 =>
  f_X7_fewest_b18 N n x1 x2 v4 q3.2)
  else
  (some (x3, q3.2)))
set_option maxRecDepth 100000 in
set_option maxHeartbeats 4000000 in
theorem tb_X7_fewest_18 {l : Launch} {G : v_G} {N : Nat}    {r : Int32 × St}   : ∀ (n : Nat) (x1 : Int32) (x2 : Int32) (x3 : Int32) (S : St),  f_X7_fewest_b18 N n x1 x2 x3 S = some r → V l G yX7_fewest cX7_fewest 4 (some .int) (v_rm 14 0 0) (QI r.1 (lay G r.2)) 0 0 18 [(0, .ref (v_B G + 261)), (1, .int x1), (2, .int x2), (3, .int x3)] [] (lay G S) := by
  intro n
  induction n with
  | zero =>
    intro x1 x2 x3 S  hh
    rw [f_X7_fewest_b18] at hh
    cases hh
  | succ n ih =>
    intro x1 x2 x3 S  hh
    rw [f_X7_fewest_b18] at hh
    refine v_iload_n 3 dX7_fewest_18 rfl rfl ?_
    refine v_iconst dX7_fewest_19 (by decide : _ = (3 : Int32)) ?_
    refine v_icmp_gt (tgt := 42) dX7_fewest_20 (by decide) (fun c => ?_) (fun c => ?_)
    · replace hh := (if_pos c).symm.trans hh
      refine v_bipush dX7_fewest_42 (by decide : _ = (-2 : Int32)) ?_
      obtain rfl := Option.some.inj hh
      exact v_iret dX7_fewest_44 rfl (Nat.zero_le _) (Nat.zero_le _) ⟨rfl, rfl⟩
    · replace hh := (if_neg c).symm.trans hh
      refine v_aload_n 0 dX7_fewest_23 rfl rfl ?_
      refine v_iconst dX7_fewest_24 (by decide : _ = (0 : Int32)) ?_
      refine v_iload_n 3 dX7_fewest_25 rfl rfl ?_
      refine v_iload_n 1 dX7_fewest_26 rfl rfl ?_
      refine v_iload_n 2 dX7_fewest_27 rfl rfl ?_
      obtain ⟨q3, eq3, hh⟩ := bnd_some hh
      refine v_callVi (t_X7_isPlan eq3) dX7_fewest_28 y_X7_isPlan ml_X7_75 (ci := 6) rfl rfl (e_Trials) rfl rfl (Nat.le_of_ble_eq_true rfl) ⟨(Nat.le_of_ble_eq_true rfl), (Nat.le_of_ble_eq_true rfl)⟩ ⟨Nat.zero_le _, Nat.zero_le _⟩ ?_
      refine v_if_eq (tgt := 36) dX7_fewest_31 (by decide) (fun c => ?_) (fun c => ?_)
      · replace hh := (if_pos c).symm.trans hh
        refine v_iinc (v := _ + (1 : Int32)) 3 dX7_fewest_36 rfl rfl (by decide) rfl ?_
        replace hh := lt_of hh
        refine v_goto (tgt := 18) dX7_fewest_39 (by decide) ?_
        exact v_sub [1, 2, 3, 0] rfl (ih _ _ _ _ hh)
      · replace hh := (if_neg c).symm.trans hh
        refine v_iload_n 3 dX7_fewest_34 rfl rfl ?_
        obtain rfl := Option.some.inj hh
        exact v_iret dX7_fewest_35 rfl (Nat.zero_le _) (Nat.zero_le _) ⟨rfl, rfl⟩
def f_X7_fewest (N : Nat) (S : St) (x1 : Int32) (x2 : Int32) : Option (Int32 × St) :=
  bnd (f_X4_laysAs 62 0 S ) fun q2 =>
 f_X7_fewest_b18 N N x1 x2 (0 : Int32) q2
set_option maxRecDepth 100000 in
set_option maxHeartbeats 4000000 in
theorem t_X7_fewest {l : Launch} {G : v_G} {N : Nat} {S : St}   {x1 : Int32} {x2 : Int32} {r : Int32 × St} (hh : f_X7_fewest N S x1 x2 = some r) : v_M l G yX7_fewest cX7_fewest 4 (some .int) 14 0 0 [.ref (v_B G + 261), .int x1, .int x2] (lay G S) (QI r.1 (lay G r.2)) := by
  refine v_entry (by decide) (Nat.le_of_ble_eq_true rfl) ?_
  unfold f_X7_fewest at hh
  show V l G yX7_fewest cX7_fewest 4 (some .int) (v_rm 14 0 0) (QI r.1 (lay G r.2)) 0 0 0 [(0, .ref (v_B G + 261)), (1, .int x1), (2, .int x2)] [] (lay G S)
  refine v_aload_n 0 dX7_fewest_0 rfl rfl ?_
  refine r_Trials_tries dX7_fewest_1 fl_X7_11 ?_
  refine v_iconst dX7_fewest_4 (by decide : _ = (0 : Int32)) ?_
  refine ld_tries dX7_fewest_5 (inb_in (by decide)) ?_
  refine v_aload_n 0 dX7_fewest_6 rfl rfl ?_
  refine r_Trials_world dX7_fewest_7 fl_X7_21 ?_
  refine r_World_sheet (by decide) dX7_fewest_10 fl_X7_33 ?_
  obtain ⟨q2, eq2, hh⟩ := bnd_some hh
  refine v_callVv (t_X4_laysAs (by decide) (by decide) eq2) dX7_fewest_13 y_X4_laysAs ml_X7_55 (ci := 3) rfl rfl (e_Sheet (by decide)) rfl rfl (Nat.le_of_ble_eq_true rfl) ⟨(Nat.le_of_ble_eq_true rfl), (Nat.le_of_ble_eq_true rfl)⟩ ⟨Nat.zero_le _, Nat.zero_le _⟩ ?_
  refine v_iconst dX7_fewest_16 (by decide : _ = (0 : Int32)) ?_
  refine v_istore_n dX7_fewest_17 rfl (by decide) rfl ?_
  exact v_sub [1, 2, 3, 0] rfl (tb_X7_fewest_18 N _ _ _ _ hh)
def f_X9_plan (N : Nat) (S : St) (x1 : Int32) (x2 : Int32) (x3 : Int32) : Option (Int32 × St) :=
  bnd (f_X9_isHand S x1) fun q1 =>
 if q1 = (0 : Int32) then
  (some ((-2 : Int32), S))
  else
  (if x2 < (0 : Int32) then
  (some ((-2 : Int32), S))
  else
  (if (9999 : Int32) < x2 then
  (some ((-2 : Int32), S))
  else
  (if x3 < (-1 : Int32) then
  (some ((-2 : Int32), S))
  else
  (if x3 < (3 : Int32) then
  (bnd (f_X7_fewest N S x1 x2) fun q2 =>
 if x3 = (-1 : Int32) then
  (some (q2.1, q2.2))
  else
  (if q2.1 ≤ x3 then
  (some ((-2 : Int32), q2.2))
  else
  (chk (inb x3 3) (
  some (gI q2.2 704 0 x3.toNatClampNeg, q2.2)))))
  else
  (some ((-2 : Int32), S))))))
set_option maxRecDepth 100000 in
set_option maxHeartbeats 4000000 in
theorem t_X9_plan {l : Launch} {G : v_G} {N : Nat} {S : St}   {x1 : Int32} {x2 : Int32} {x3 : Int32} {r : Int32 × St} (hh : f_X9_plan N S x1 x2 x3 = some r) : v_M l G yX9_plan cX9_plan 5 (some .int) 15 0 0 [.ref (v_B G + 0), .int x1, .int x2, .int x3] (lay G S) (QI r.1 (lay G r.2)) := by
  refine v_entry (by decide) (Nat.le_of_ble_eq_true rfl) ?_
  unfold f_X9_plan at hh
  show V l G yX9_plan cX9_plan 5 (some .int) (v_rm 15 0 0) (QI r.1 (lay G r.2)) 0 0 0 [(0, .ref (v_B G + 0)), (1, .int x1), (2, .int x2), (3, .int x3)] [] (lay G S)
  refine v_aload_n 0 dX9_plan_0 rfl rfl ?_
  refine v_iload_n 1 dX9_plan_1 rfl rfl ?_
  obtain ⟨q1, eq1, hh⟩ := bnd_some hh
  refine v_callVi (t_X9_isHand eq1) dX9_plan_2 y_X9_isHand ml_X9_119 (ci := 8) rfl rfl (e_RolledOut) rfl rfl (Nat.le_of_ble_eq_true rfl) ⟨(Nat.le_of_ble_eq_true rfl), (Nat.le_of_ble_eq_true rfl)⟩ ⟨Nat.zero_le _, Nat.zero_le _⟩ ?_
  refine v_if_eq (tgt := 29) dX9_plan_5 (by decide) (fun c => ?_) (fun c => ?_)
  · replace hh := (if_pos c).symm.trans hh
    refine v_bipush dX9_plan_29 (by decide : _ = (-2 : Int32)) ?_
    obtain rfl := Option.some.inj hh
    exact v_iret dX9_plan_31 rfl (Nat.zero_le _) (Nat.zero_le _) ⟨rfl, rfl⟩
  · replace hh := (if_neg c).symm.trans hh
    refine v_iload_n 2 dX9_plan_8 rfl rfl ?_
    refine v_if_lt (tgt := 29) dX9_plan_9 (by decide) (fun c => ?_) (fun c => ?_)
    · replace hh := (if_pos c).symm.trans hh
      refine v_bipush dX9_plan_29 (by decide : _ = (-2 : Int32)) ?_
      obtain rfl := Option.some.inj hh
      exact v_iret dX9_plan_31 rfl (Nat.zero_le _) (Nat.zero_le _) ⟨rfl, rfl⟩
    · replace hh := (if_neg c).symm.trans hh
      refine v_iload_n 2 dX9_plan_12 rfl rfl ?_
      refine v_sipush dX9_plan_13 (by decide : _ = (9999 : Int32)) ?_
      refine v_icmp_gt (tgt := 29) dX9_plan_16 (by decide) (fun c => ?_) (fun c => ?_)
      · replace hh := (if_pos c).symm.trans hh
        refine v_bipush dX9_plan_29 (by decide : _ = (-2 : Int32)) ?_
        obtain rfl := Option.some.inj hh
        exact v_iret dX9_plan_31 rfl (Nat.zero_le _) (Nat.zero_le _) ⟨rfl, rfl⟩
      · replace hh := (if_neg c).symm.trans hh
        refine v_iload_n 3 dX9_plan_19 rfl rfl ?_
        refine v_iconst dX9_plan_20 (by decide : _ = (-1 : Int32)) ?_
        refine v_icmp_lt (tgt := 29) dX9_plan_21 (by decide) (fun c => ?_) (fun c => ?_)
        · replace hh := (if_pos c).symm.trans hh
          refine v_bipush dX9_plan_29 (by decide : _ = (-2 : Int32)) ?_
          obtain rfl := Option.some.inj hh
          exact v_iret dX9_plan_31 rfl (Nat.zero_le _) (Nat.zero_le _) ⟨rfl, rfl⟩
        · replace hh := (if_neg c).symm.trans hh
          refine v_iload_n 3 dX9_plan_24 rfl rfl ?_
          refine v_iconst dX9_plan_25 (by decide : _ = (3 : Int32)) ?_
          refine v_icmp_lt (tgt := 32) dX9_plan_26 (by decide) (fun c => ?_) (fun c => ?_)
          · replace hh := (if_pos c).symm.trans hh
            refine v_aload_n 0 dX9_plan_32 rfl rfl ?_
            refine r_RolledOut_trials dX9_plan_33 fl_X9_33 ?_
            refine v_iload_n 1 dX9_plan_36 rfl rfl ?_
            refine v_iload_n 2 dX9_plan_37 rfl rfl ?_
            obtain ⟨q2, eq2, hh⟩ := bnd_some hh
            refine v_callVi (t_X7_fewest eq2) dX9_plan_38 y_X7_fewest ml_X9_278 (ci := 6) rfl rfl (e_Trials) rfl rfl (Nat.le_of_ble_eq_true rfl) ⟨(Nat.le_of_ble_eq_true rfl), (Nat.le_of_ble_eq_true rfl)⟩ ⟨Nat.zero_le _, Nat.zero_le _⟩ ?_
            refine v_istore dX9_plan_41 (by decide) rfl ?_
            refine v_iload_n 4 dX9_plan_43 rfl rfl ?_
            refine v_iconst dX9_plan_44 (by decide : _ = (-1 : Int32)) ?_
            refine v_icmp_ne (tgt := 51) dX9_plan_45 (by decide) (fun c => ?_) (fun c => ?_)
            · replace hh := (if_neg c).symm.trans hh
              refine v_iload_n 4 dX9_plan_51 rfl rfl ?_
              refine v_iload 0 dX9_plan_52 rfl ?_
              refine v_icmp_ge (tgt := 69) dX9_plan_54 (by decide) (fun c => ?_) (fun c => ?_)
              · replace hh := (if_pos c).symm.trans hh
                refine v_bipush dX9_plan_69 (by decide : _ = (-2 : Int32)) ?_
                obtain rfl := Option.some.inj hh
                exact v_iret dX9_plan_71 rfl (Nat.zero_le _) (Nat.zero_le _) ⟨rfl, rfl⟩
              · replace hh := (if_neg c).symm.trans hh
                refine v_aload_n 1 dX9_plan_57 rfl rfl ?_
                refine r_RolledOut_trials dX9_plan_58 fl_X9_33 ?_
                refine r_Trials_found dX9_plan_61 fl_X9_281 ?_
                refine v_iload_n 4 dX9_plan_64 rfl rfl ?_
                obtain ⟨g3, hh⟩ := chk_some hh
                replace g3 := inb_in g3
                refine ld_found dX9_plan_65 g3 ?_
                refine v_goto (tgt := 71) dX9_plan_66 (by decide) ?_
                obtain rfl := Option.some.inj hh
                exact v_iret dX9_plan_71 rfl (Nat.zero_le _) (Nat.zero_le _) ⟨rfl, rfl⟩
            · replace hh := (if_pos c).symm.trans hh
              refine v_iload 0 dX9_plan_48 rfl ?_
              obtain rfl := Option.some.inj hh
              exact v_iret dX9_plan_50 rfl (Nat.zero_le _) (Nat.zero_le _) ⟨rfl, rfl⟩
          · replace hh := (if_neg c).symm.trans hh
            refine v_bipush dX9_plan_29 (by decide : _ = (-2 : Int32)) ?_
            obtain rfl := Option.some.inj hh
            exact v_iret dX9_plan_31 rfl (Nat.zero_le _) (Nat.zero_le _) ⟨rfl, rfl⟩
