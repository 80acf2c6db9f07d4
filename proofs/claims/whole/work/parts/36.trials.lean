def f_X7_behind_b20 (N : Nat) : Nat → Int32 → Int32 → St → Option (St)
  | 0, _, _, _ => none
  | n + 1, x1, x3, S =>
  if x1 ≤ x3 then
  (some S)
  else
  (if (9999 : Int32) ≤ (gI S 407 62 0) then
  (some S)
  else
  (bnd (f_X2_passTurn N 62 S ) fun q3 =>
 lt (x3 + (1 : Int32)) fun v4 =>
  f_X7_behind_b20 N n x1 v4 q3))
set_option maxRecDepth 100000 in
set_option maxHeartbeats 4000000 in
theorem tb_X7_behind_20 {l : Launch} {G : v_G} {N : Nat}    {r : St}   : ∀ (n : Nat) (x1 : Int32) (x3 : Int32) (S : St),  f_X7_behind_b20 N n x1 x3 S = some r → V l G yX7_behind cX7_behind 4 (some (.object "RolledOut$Sheet")) (v_rm 5 0 0) (QA (.ref (v_B G + so 62)) (lay G r)) 0 0 20 [(0, .ref (v_B G + 261)), (1, .int x1), (2, .ref (v_B G + (so 62))), (3, .int x3)] [] (lay G S) := by
  intro n
  induction n with
  | zero =>
    intro x1 x3 S  hh
    rw [f_X7_behind_b20] at hh
    cases hh
  | succ n ih =>
    intro x1 x3 S  hh
    rw [f_X7_behind_b20] at hh
    refine v_iload_n 3 dX7_behind_20 rfl rfl ?_
    refine v_iload_n 1 dX7_behind_21 rfl rfl ?_
    refine v_icmp_ge (tgt := 49) dX7_behind_22 (by decide) (fun c => ?_) (fun c => ?_)
    · replace hh := (if_pos c).symm.trans hh
      refine v_aload_n 2 dX7_behind_49 rfl rfl ?_
      obtain rfl := Option.some.inj hh
      exact v_aret dX7_behind_50 rfl (by first | exact Or.inl ⟨_, rfl⟩ | exact Or.inr ⟨_, rfl⟩) (Or.inr ⟨_, rfl⟩) (Nat.zero_le _) (Nat.zero_le _) ⟨rfl, rfl⟩
    · replace hh := (if_neg c).symm.trans hh
      refine v_aload_n 2 dX7_behind_25 rfl rfl ?_
      refine r_Sheet_turn (by decide) dX7_behind_26 fl_X7_43 ?_
      refine v_sipush dX7_behind_29 (by decide : _ = (9999 : Int32)) ?_
      refine v_icmp_ge (tgt := 49) dX7_behind_32 (by decide) (fun c => ?_) (fun c => ?_)
      · replace hh := (if_pos c).symm.trans hh
        refine v_aload_n 2 dX7_behind_49 rfl rfl ?_
        obtain rfl := Option.some.inj hh
        exact v_aret dX7_behind_50 rfl (by first | exact Or.inl ⟨_, rfl⟩ | exact Or.inr ⟨_, rfl⟩) (Or.inr ⟨_, rfl⟩) (Nat.zero_le _) (Nat.zero_le _) ⟨rfl, rfl⟩
      · replace hh := (if_neg c).symm.trans hh
        refine v_aload_n 0 dX7_behind_35 rfl rfl ?_
        refine r_Trials_rules dX7_behind_36 fl_X7_28 ?_
        refine v_aload_n 2 dX7_behind_39 rfl rfl ?_
        obtain ⟨q3, eq3, hh⟩ := bnd_some hh
        refine v_callVv (t_X2_passTurn (by decide) eq3) dX7_behind_40 y_X2_passTurn ml_X7_47 (ci := 1) rfl rfl (e_Rules) rfl rfl (Nat.le_of_ble_eq_true rfl) ⟨(Nat.le_of_ble_eq_true rfl), (Nat.le_of_ble_eq_true rfl)⟩ ⟨Nat.zero_le _, Nat.zero_le _⟩ ?_
        refine v_iinc (v := _ + (1 : Int32)) 3 dX7_behind_43 rfl rfl (by decide) rfl ?_
        replace hh := lt_of hh
        refine v_goto (tgt := 20) dX7_behind_46 (by decide) ?_
        exact v_sub [1, 2, 3, 0] rfl (ih _ _ _ hh)
def f_X7_behind (N : Nat) (S : St) (x1 : Int32) : Option (St) :=
  bnd (f_X4_becomes 62 0 S ) fun q2 =>
 f_X7_behind_b20 N N x1 (0 : Int32) q2
set_option maxRecDepth 100000 in
set_option maxHeartbeats 4000000 in
theorem t_X7_behind {l : Launch} {G : v_G} {N : Nat} {S : St}   {x1 : Int32} {r : St} (hh : f_X7_behind N S x1 = some r) : v_M l G yX7_behind cX7_behind 4 (some (.object "RolledOut$Sheet")) 5 0 0 [.ref (v_B G + 261), .int x1] (lay G S) (QA (.ref (v_B G + so 62)) (lay G r)) := by
  refine v_entry (by decide) (Nat.le_of_ble_eq_true rfl) ?_
  unfold f_X7_behind at hh
  show V l G yX7_behind cX7_behind 4 (some (.object "RolledOut$Sheet")) (v_rm 5 0 0) (QA (.ref (v_B G + so 62)) (lay G r)) 0 0 0 [(0, .ref (v_B G + 261)), (1, .int x1)] [] (lay G S)
  refine v_aload_n 0 dX7_behind_0 rfl rfl ?_
  refine r_Trials_tries dX7_behind_1 fl_X7_11 ?_
  refine v_iconst dX7_behind_4 (by decide : _ = (0 : Int32)) ?_
  refine ld_tries dX7_behind_5 (inb_in (by decide)) ?_
  refine v_astore_n dX7_behind_6 rfl (by decide) rfl ?_
  refine v_aload_n 0 dX7_behind_7 rfl rfl ?_
  refine v_aload_n 1 dX7_behind_8 rfl rfl ?_
  refine r_Trials_world dX7_behind_9 fl_X7_21 ?_
  refine r_World_sheet (by decide) dX7_behind_12 fl_X7_33 ?_
  obtain ⟨q2, eq2, hh⟩ := bnd_some hh
  refine v_callVv (t_X4_becomes (by decide) (by decide) eq2) dX7_behind_15 y_X4_becomes ml_X7_39 (ci := 3) rfl rfl (e_Sheet (by decide)) rfl rfl (Nat.le_of_ble_eq_true rfl) ⟨(Nat.le_of_ble_eq_true rfl), (Nat.le_of_ble_eq_true rfl)⟩ ⟨Nat.zero_le _, Nat.zero_le _⟩ ?_
  refine v_iconst dX7_behind_18 (by decide : _ = (0 : Int32)) ?_
  refine v_istore_n dX7_behind_19 rfl (by decide) rfl ?_
  exact v_sub [2, 3, 1, 0] rfl (tb_X7_behind_20 N _ _ _ hh)
def f_X7_tried_b66 (N : Nat) (s0 : Int32) (s1 : Int32) (s2 : Int32) (r3 : Nat) (S : St) : Option (Int32 × St) :=
  bnd (f_X2_push N r3 S s2 s1 s0) fun q8 =>
 some ((1 : Int32), q8.2)
set_option maxRecDepth 100000 in
set_option maxHeartbeats 4000000 in
theorem tb_X7_tried_66 {l : Launch} {G : v_G} {N : Nat}    {r : Int32 × St}   : ∀ (s0 : Int32) (s1 : Int32) (s2 : Int32) (r3 : Nat) (S : St), (hr3 : r3 < 66) → f_X7_tried_b66 N s0 s1 s2 r3 S = some r → V l G yX7_tried cX7_tried 5 (some .boolean) (v_rm 4 0 0) (QI r.1 (lay G r.2)) 0 0 66 [] [.int s0, .int s1, .int s2, .ref (v_B G + (so r3)), .ref (v_B G + 259)] (lay G S) := by
  intro s0 s1 s2 r3 S hr3 hh
  unfold f_X7_tried_b66 at hh
  obtain ⟨q8, eq8, hh⟩ := bnd_some hh
  refine v_callVi (t_X2_push hr3 eq8) dX7_tried_66 y_X2_push ml_X7_58 (ci := 1) rfl rfl (e_Rules) rfl rfl (Nat.le_of_ble_eq_true rfl) ⟨(Nat.le_of_ble_eq_true rfl), (Nat.le_of_ble_eq_true rfl)⟩ ⟨Nat.zero_le _, Nat.zero_le _⟩ ?_
  refine v_pop dX7_tried_69 rfl ?_
  refine v_iconst dX7_tried_70 (by decide : _ = (1 : Int32)) ?_
  obtain rfl := Option.some.inj hh
  exact v_zret dX7_tried_71 rfl (zb (by decide)).1 (Nat.zero_le _) (Nat.zero_le _) ⟨rfl, rfl⟩
def f_X7_tried (N : Nat) (S : St) (x1 : Int32) (x2 : Int32) (x3 : Int32) : Option (Int32 × St) :=
  lt (x3 / (2 : Int32)) fun v1 =>
  chk (inb x1 4) (
  chk (inb v1 12) (
  if (0 : Int32) < (gI S 400 (62 + x1.toNatClampNeg) v1.toNatClampNeg) then
  (chk (inb (x1 + (1 : Int32)) 4) (
  chk (inb x1 4) (
  bnd (f_X4_laysAs (62 + (x1 + (1 : Int32)).toNatClampNeg) (62 + x1.toNatClampNeg) S ) fun q6 =>
 chk (inb (x1 + (1 : Int32)) 4) (
  if (x3 - x3 / (2 : Int32) * (2 : Int32)) = (1 : Int32) then
  (f_X7_tried_b66 N (1 : Int32) v1 x2 (62 + (x1 + (1 : Int32)).toNatClampNeg) q6)
  else
  (f_X7_tried_b66 N (0 : Int32) v1 x2 (62 + (x1 + (1 : Int32)).toNatClampNeg) q6)))))
  else
  (some ((0 : Int32), S))))
set_option maxRecDepth 100000 in
set_option maxHeartbeats 4000000 in
theorem t_X7_tried {l : Launch} {G : v_G} {N : Nat} {S : St}   {x1 : Int32} {x2 : Int32} {x3 : Int32} {r : Int32 × St} (hh : f_X7_tried N S x1 x2 x3 = some r) : v_M l G yX7_tried cX7_tried 5 (some .boolean) 4 0 0 [.ref (v_B G + 261), .int x1, .int x2, .int x3] (lay G S) (QI r.1 (lay G r.2)) := by
  refine v_entry (by decide) (Nat.le_of_ble_eq_true rfl) ?_
  unfold f_X7_tried at hh
  show V l G yX7_tried cX7_tried 5 (some .boolean) (v_rm 4 0 0) (QI r.1 (lay G r.2)) 0 0 0 [(0, .ref (v_B G + 261)), (1, .int x1), (2, .int x2), (3, .int x3)] [] (lay G S)
  refine v_iload_n 3 dX7_tried_0 rfl rfl ?_
  refine v_iconst dX7_tried_1 (by decide : _ = (2 : Int32)) ?_
  refine v_idiv dX7_tried_2 (by decide) ?_
  refine v_istore dX7_tried_3 (by decide) rfl ?_
  replace hh := lt_of hh
  refine v_aload_n 1 dX7_tried_5 rfl rfl ?_
  refine r_Trials_tries dX7_tried_6 fl_X7_11 ?_
  refine v_iload_n 2 dX7_tried_9 rfl rfl ?_
  obtain ⟨g2, hh⟩ := chk_some hh
  replace g2 := inb_in g2
  refine ld_tries dX7_tried_10 g2 ?_
  refine r_Sheet_cells (ix_tries g2) dX7_tried_11 fl_X7_52 ?_
  refine v_iload 0 dX7_tried_14 rfl ?_
  obtain ⟨g3, hh⟩ := chk_some hh
  replace g3 := inb_in g3
  refine ld_cells (ix_tries g2) dX7_tried_16 g3 ?_
  refine v_if_gt (tgt := 22) dX7_tried_17 (by decide) (fun c => ?_) (fun c => ?_)
  · replace hh := (if_pos c).symm.trans hh
    refine v_aload_n 1 dX7_tried_22 rfl rfl ?_
    refine r_Trials_tries dX7_tried_23 fl_X7_11 ?_
    refine v_iload_n 2 dX7_tried_26 rfl rfl ?_
    refine v_iconst dX7_tried_27 (by decide : _ = (1 : Int32)) ?_
    refine v_iadd dX7_tried_28 ?_
    obtain ⟨g4, hh⟩ := chk_some hh
    replace g4 := inb_in g4
    refine ld_tries dX7_tried_29 g4 ?_
    refine v_aload_n 1 dX7_tried_30 rfl rfl ?_
    refine r_Trials_tries dX7_tried_31 fl_X7_11 ?_
    refine v_iload_n 2 dX7_tried_34 rfl rfl ?_
    obtain ⟨g5, hh⟩ := chk_some hh
    replace g5 := inb_in g5
    refine ld_tries dX7_tried_35 g5 ?_
    obtain ⟨q6, eq6, hh⟩ := bnd_some hh
    refine v_callVv (t_X4_laysAs (ix_tries g4) (ix_tries g5) eq6) dX7_tried_36 y_X4_laysAs ml_X7_55 (ci := 3) rfl rfl (e_Sheet (ix_tries g4)) rfl rfl (Nat.le_of_ble_eq_true rfl) ⟨(Nat.le_of_ble_eq_true rfl), (Nat.le_of_ble_eq_true rfl)⟩ ⟨Nat.zero_le _, Nat.zero_le _⟩ ?_
    refine v_aload_n 1 dX7_tried_39 rfl rfl ?_
    refine r_Trials_rules dX7_tried_40 fl_X7_28 ?_
    refine v_aload_n 1 dX7_tried_43 rfl rfl ?_
    refine r_Trials_tries dX7_tried_44 fl_X7_11 ?_
    refine v_iload_n 2 dX7_tried_47 rfl rfl ?_
    refine v_iconst dX7_tried_48 (by decide : _ = (1 : Int32)) ?_
    refine v_iadd dX7_tried_49 ?_
    obtain ⟨g7, hh⟩ := chk_some hh
    replace g7 := inb_in g7
    refine ld_tries dX7_tried_50 g7 ?_
    refine v_iload_n 3 dX7_tried_51 rfl rfl ?_
    refine v_iload 0 dX7_tried_52 rfl ?_
    refine v_iload_n 4 dX7_tried_54 rfl rfl ?_
    refine v_iconst dX7_tried_55 (by decide : _ = (2 : Int32)) ?_
    refine v_irem dX7_tried_56 (by decide) ?_
    refine v_iconst dX7_tried_57 (by decide : _ = (1 : Int32)) ?_
    refine v_icmp_ne (tgt := 65) dX7_tried_58 (by decide) (fun c => ?_) (fun c => ?_)
    · replace hh := (if_neg c).symm.trans hh
      refine v_iconst dX7_tried_65 (by decide : _ = (0 : Int32)) ?_
      exact v_sub [] rfl (tb_X7_tried_66 _ _ _ _ _ (ix_tries g7) hh)
    · replace hh := (if_pos c).symm.trans hh
      refine v_iconst dX7_tried_61 (by decide : _ = (1 : Int32)) ?_
      refine v_goto (tgt := 66) dX7_tried_62 (by decide) ?_
      exact v_sub [] rfl (tb_X7_tried_66 _ _ _ _ _ (ix_tries g7) hh)
  · replace hh := (if_neg c).symm.trans hh
    refine v_iconst dX7_tried_20 (by decide : _ = (0 : Int32)) ?_
    obtain rfl := Option.some.inj hh
    exact v_zret dX7_tried_21 rfl (zb (by decide)).1 (Nat.zero_le _) (Nat.zero_le _) ⟨rfl, rfl⟩
def f_X7_flattest_b23 (N : Nat) : Nat → Int32 → Int32 → Int32 → Int32 → St → Option (Int32 × St)
  | 0, _, _, _, _, _ => none
  | n + 1, x1, x2, x3, x4, S =>
  if (24 : Int32) ≤ x4 then
  (some (x2, S))
  else
  (bnd (f_X7_tried N S (0 : Int32) x1 x4) fun q3 =>
 if q3.1 = (0 : Int32) then
  (lt (x4 + (1 : Int32)) fun v4 =>
  f_X7_flattest_b23 N n x1 x2 x3 v4 q3.2)
  else
  (bnd (f_X3_mostCell N 63 q3.2 ) fun q6 =>
 chk (inb q6 12) (
  lt (gI q3.2 400 63 q6.toNatClampNeg) fun v8 =>
  if x2 = (-1 : Int32) then
  (lt (x4 + (1 : Int32)) fun v9 =>
  f_X7_flattest_b23 N n x1 x4 v8 v9 q3.2)
  else
  (if x3 ≤ v8 then
  (lt (x4 + (1 : Int32)) fun v10 =>
  f_X7_flattest_b23 N n x1 x2 x3 v10 q3.2)
  else
  (lt (x4 + (1 : Int32)) fun v11 =>
  f_X7_flattest_b23 N n x1 x4 v8 v11 q3.2)))))
set_option maxRecDepth 100000 in
set_option maxHeartbeats 4000000 in
theorem tb_X7_flattest_23 {l : Launch} {G : v_G} {N : Nat}    {r : Int32 × St}   : ∀ (n : Nat) (x1 : Int32) (x2 : Int32) (x3 : Int32) (x4 : Int32) (S : St),  f_X7_flattest_b23 N n x1 x2 x3 x4 S = some r → V l G yX7_flattest cX7_flattest 7 (some .int) (v_rm 5 0 0) (QI r.1 (lay G r.2)) 0 0 23 [(0, .ref (v_B G + 261)), (1, .int x1), (2, .int x2), (3, .int x3), (4, .int x4)] [] (lay G S) := by
  intro n
  induction n with
  | zero =>
    intro x1 x2 x3 x4 S  hh
    rw [f_X7_flattest_b23] at hh
    cases hh
  | succ n ih =>
    intro x1 x2 x3 x4 S  hh
    rw [f_X7_flattest_b23] at hh
    refine v_iload 4 dX7_flattest_23 rfl ?_
    refine v_bipush dX7_flattest_25 (by decide : _ = (24 : Int32)) ?_
    refine v_icmp_ge (tgt := 85) dX7_flattest_27 (by decide) (fun c => ?_) (fun c => ?_)
    · replace hh := (if_pos c).symm.trans hh
      refine v_iload_n 2 dX7_flattest_85 rfl rfl ?_
      obtain rfl := Option.some.inj hh
      exact v_iret dX7_flattest_86 rfl (Nat.zero_le _) (Nat.zero_le _) ⟨rfl, rfl⟩
    · replace hh := (if_neg c).symm.trans hh
      refine v_aload_n 0 dX7_flattest_30 rfl rfl ?_
      refine v_iconst dX7_flattest_31 (by decide : _ = (0 : Int32)) ?_
      refine v_iload_n 1 dX7_flattest_32 rfl rfl ?_
      refine v_iload 4 dX7_flattest_33 rfl ?_
      obtain ⟨q3, eq3, hh⟩ := bnd_some hh
      refine v_callVi (t_X7_tried eq3) dX7_flattest_35 y_X7_tried ml_X7_62 (ci := 6) rfl rfl (e_Trials) rfl rfl (Nat.le_of_ble_eq_true rfl) ⟨(Nat.le_of_ble_eq_true rfl), (Nat.le_of_ble_eq_true rfl)⟩ ⟨Nat.zero_le _, Nat.zero_le _⟩ ?_
      refine v_if_eq (tgt := 79) dX7_flattest_38 (by decide) (fun c => ?_) (fun c => ?_)
      · replace hh := (if_pos c).symm.trans hh
        refine v_iinc (v := _ + (1 : Int32)) 4 dX7_flattest_79 rfl rfl (by decide) rfl ?_
        replace hh := lt_of hh
        refine v_goto (tgt := 23) dX7_flattest_82 (by decide) ?_
        exact v_sub [1, 2, 3, 4, 0] rfl (ih _ _ _ _ _ hh)
      · replace hh := (if_neg c).symm.trans hh
        refine v_aload_n 0 dX7_flattest_41 rfl rfl ?_
        refine r_Trials_tries dX7_flattest_42 fl_X7_11 ?_
        refine v_iconst dX7_flattest_45 (by decide : _ = (1 : Int32)) ?_
        refine ld_tries dX7_flattest_46 (inb_in (by decide)) ?_
        refine r_Sheet_cells (by decide) dX7_flattest_47 fl_X7_52 ?_
        refine v_astore dX7_flattest_50 (by decide) rfl ?_
        refine v_aload 0 dX7_flattest_52 rfl ?_
        refine v_aload 0 dX7_flattest_54 rfl ?_
        obtain ⟨q6, eq6, hh⟩ := bnd_some hh
        refine v_callSi (t_X3_mostCell (by decide) eq6) dX7_flattest_56 y_X3_mostCell ml_X7_66 rfl rfl (Nat.le_of_ble_eq_true rfl) ⟨(Nat.le_of_ble_eq_true rfl), (Nat.le_of_ble_eq_true rfl)⟩ ⟨Nat.zero_le _, Nat.zero_le _⟩ ?_
        obtain ⟨g7, hh⟩ := chk_some hh
        replace g7 := inb_in g7
        refine ld_cells (by decide) dX7_flattest_59 g7 ?_
        refine v_istore dX7_flattest_60 (by decide) rfl ?_
        replace hh := lt_of hh
        refine v_iload_n 4 dX7_flattest_62 rfl rfl ?_
        refine v_iconst dX7_flattest_63 (by decide : _ = (-1 : Int32)) ?_
        refine v_icmp_eq (tgt := 73) dX7_flattest_64 (by decide) (fun c => ?_) (fun c => ?_)
        · replace hh := (if_pos c).symm.trans hh
          refine v_iload 6 dX7_flattest_73 rfl ?_
          refine v_istore_n dX7_flattest_75 rfl (by decide) rfl ?_
          refine v_iload 1 dX7_flattest_76 rfl ?_
          refine v_istore_n dX7_flattest_78 rfl (by decide) rfl ?_
          refine v_iinc (v := _ + (1 : Int32)) 6 dX7_flattest_79 rfl rfl (by decide) rfl ?_
          replace hh := lt_of hh
          refine v_goto (tgt := 23) dX7_flattest_82 (by decide) ?_
          exact v_sub [5, 6, 2, 1, 0] rfl (ih _ _ _ _ _ hh)
        · replace hh := (if_neg c).symm.trans hh
          refine v_iload 0 dX7_flattest_67 rfl ?_
          refine v_iload_n 5 dX7_flattest_69 rfl rfl ?_
          refine v_icmp_ge (tgt := 79) dX7_flattest_70 (by decide) (fun c => ?_) (fun c => ?_)
          · replace hh := (if_pos c).symm.trans hh
            refine v_iinc (v := _ + (1 : Int32)) 6 dX7_flattest_79 rfl rfl (by decide) rfl ?_
            replace hh := lt_of hh
            refine v_goto (tgt := 23) dX7_flattest_82 (by decide) ?_
            exact v_sub [3, 4, 5, 6, 0] rfl (ih _ _ _ _ _ hh)
          · replace hh := (if_neg c).symm.trans hh
            refine v_iload 6 dX7_flattest_73 rfl ?_
            refine v_istore_n dX7_flattest_75 rfl (by decide) rfl ?_
            refine v_iload 1 dX7_flattest_76 rfl ?_
            refine v_istore_n dX7_flattest_78 rfl (by decide) rfl ?_
            refine v_iinc (v := _ + (1 : Int32)) 6 dX7_flattest_79 rfl rfl (by decide) rfl ?_
            replace hh := lt_of hh
            refine v_goto (tgt := 23) dX7_flattest_82 (by decide) ?_
            exact v_sub [5, 6, 2, 1, 0] rfl (ih _ _ _ _ _ hh)
def f_X7_flattest (N : Nat) (S : St) (x1 : Int32) : Option (Int32 × St) :=
  bnd (f_X4_laysAs 62 0 S ) fun q2 =>
 f_X7_flattest_b23 N N x1 (-1 : Int32) (0 : Int32) (0 : Int32) q2
set_option maxRecDepth 100000 in
set_option maxHeartbeats 4000000 in
theorem t_X7_flattest {l : Launch} {G : v_G} {N : Nat} {S : St}   {x1 : Int32} {r : Int32 × St} (hh : f_X7_flattest N S x1 = some r) : v_M l G yX7_flattest cX7_flattest 7 (some .int) 5 0 0 [.ref (v_B G + 261), .int x1] (lay G S) (QI r.1 (lay G r.2)) := by
  refine v_entry (by decide) (Nat.le_of_ble_eq_true rfl) ?_
  unfold f_X7_flattest at hh
  show V l G yX7_flattest cX7_flattest 7 (some .int) (v_rm 5 0 0) (QI r.1 (lay G r.2)) 0 0 0 [(0, .ref (v_B G + 261)), (1, .int x1)] [] (lay G S)
  refine v_iconst dX7_flattest_0 (by decide : _ = (-1 : Int32)) ?_
  refine v_istore_n dX7_flattest_1 rfl (by decide) rfl ?_
  refine v_iconst dX7_flattest_2 (by decide : _ = (0 : Int32)) ?_
  refine v_istore_n dX7_flattest_3 rfl (by decide) rfl ?_
  refine v_aload_n 2 dX7_flattest_4 rfl rfl ?_
  refine r_Trials_tries dX7_flattest_5 fl_X7_11 ?_
  refine v_iconst dX7_flattest_8 (by decide : _ = (0 : Int32)) ?_
  refine ld_tries dX7_flattest_9 (inb_in (by decide)) ?_
  refine v_aload_n 2 dX7_flattest_10 rfl rfl ?_
  refine r_Trials_world dX7_flattest_11 fl_X7_21 ?_
  refine r_World_sheet (by decide) dX7_flattest_14 fl_X7_33 ?_
  obtain ⟨q2, eq2, hh⟩ := bnd_some hh
  refine v_callVv (t_X4_laysAs (by decide) (by decide) eq2) dX7_flattest_17 y_X4_laysAs ml_X7_55 (ci := 3) rfl rfl (e_Sheet (by decide)) rfl rfl (Nat.le_of_ble_eq_true rfl) ⟨(Nat.le_of_ble_eq_true rfl), (Nat.le_of_ble_eq_true rfl)⟩ ⟨Nat.zero_le _, Nat.zero_le _⟩ ?_
  refine v_iconst dX7_flattest_20 (by decide : _ = (0 : Int32)) ?_
  refine v_istore dX7_flattest_21 (by decide) rfl ?_
  exact v_sub [3, 4, 2, 1, 0] rfl (tb_X7_flattest_23 N _ _ _ _ _ hh)
def f_X7_tearingStrokes_b20 (N : Nat) : Nat → Int32 → Int32 → Int32 → St → Option (Int32 × St)
  | 0, _, _, _, _ => none
  | n + 1, x1, x2, x3, S =>
  if (24 : Int32) ≤ x3 then
  (some (x2, S))
  else
  (bnd (f_X7_tried N S (0 : Int32) x1 x3) fun q3 =>
 if q3.1 = (0 : Int32) then
  (lt (x3 + (1 : Int32)) fun v4 =>
  f_X7_tearingStrokes_b20 N n x1 x2 v4 q3.2)
  else
  (if (gI q3.2 404 63 0) = (gI q3.2 404 62 0) then
  (lt (x3 + (1 : Int32)) fun v7 =>
  f_X7_tearingStrokes_b20 N n x1 x2 v7 q3.2)
  else
  (lt (x2 + (1 : Int32)) fun v8 =>
  lt (x3 + (1 : Int32)) fun v9 =>
  f_X7_tearingStrokes_b20 N n x1 v8 v9 q3.2)))
set_option maxRecDepth 100000 in
set_option maxHeartbeats 4000000 in
theorem tb_X7_tearingStrokes_20 {l : Launch} {G : v_G} {N : Nat}    {r : Int32 × St}   : ∀ (n : Nat) (x1 : Int32) (x2 : Int32) (x3 : Int32) (S : St),  f_X7_tearingStrokes_b20 N n x1 x2 x3 S = some r → V l G yX7_tearingStrokes cX7_tearingStrokes 4 (some .int) (v_rm 5 0 0) (QI r.1 (lay G r.2)) 0 0 20 [(0, .ref (v_B G + 261)), (1, .int x1), (2, .int x2), (3, .int x3)] [] (lay G S) := by
  intro n
  induction n with
  | zero =>
    intro x1 x2 x3 S  hh
    rw [f_X7_tearingStrokes_b20] at hh
    cases hh
  | succ n ih =>
    intro x1 x2 x3 S  hh
    rw [f_X7_tearingStrokes_b20] at hh
    refine v_iload_n 3 dX7_tearingStrokes_20 rfl rfl ?_
    refine v_bipush dX7_tearingStrokes_21 (by decide : _ = (24 : Int32)) ?_
    refine v_icmp_ge (tgt := 66) dX7_tearingStrokes_23 (by decide) (fun c => ?_) (fun c => ?_)
    · replace hh := (if_pos c).symm.trans hh
      refine v_iload_n 2 dX7_tearingStrokes_66 rfl rfl ?_
      obtain rfl := Option.some.inj hh
      exact v_iret dX7_tearingStrokes_67 rfl (Nat.zero_le _) (Nat.zero_le _) ⟨rfl, rfl⟩
    · replace hh := (if_neg c).symm.trans hh
      refine v_aload_n 0 dX7_tearingStrokes_26 rfl rfl ?_
      refine v_iconst dX7_tearingStrokes_27 (by decide : _ = (0 : Int32)) ?_
      refine v_iload_n 1 dX7_tearingStrokes_28 rfl rfl ?_
      refine v_iload_n 3 dX7_tearingStrokes_29 rfl rfl ?_
      obtain ⟨q3, eq3, hh⟩ := bnd_some hh
      refine v_callVi (t_X7_tried eq3) dX7_tearingStrokes_30 y_X7_tried ml_X7_62 (ci := 6) rfl rfl (e_Trials) rfl rfl (Nat.le_of_ble_eq_true rfl) ⟨(Nat.le_of_ble_eq_true rfl), (Nat.le_of_ble_eq_true rfl)⟩ ⟨Nat.zero_le _, Nat.zero_le _⟩ ?_
      refine v_if_eq (tgt := 60) dX7_tearingStrokes_33 (by decide) (fun c => ?_) (fun c => ?_)
      · replace hh := (if_pos c).symm.trans hh
        refine v_iinc (v := _ + (1 : Int32)) 3 dX7_tearingStrokes_60 rfl rfl (by decide) rfl ?_
        replace hh := lt_of hh
        refine v_goto (tgt := 20) dX7_tearingStrokes_63 (by decide) ?_
        exact v_sub [1, 2, 3, 0] rfl (ih _ _ _ _ hh)
      · replace hh := (if_neg c).symm.trans hh
        refine v_aload_n 0 dX7_tearingStrokes_36 rfl rfl ?_
        refine r_Trials_tries dX7_tearingStrokes_37 fl_X7_11 ?_
        refine v_iconst dX7_tearingStrokes_40 (by decide : _ = (1 : Int32)) ?_
        refine ld_tries dX7_tearingStrokes_41 (inb_in (by decide)) ?_
        refine r_Sheet_torn (by decide) dX7_tearingStrokes_42 fl_X7_72 ?_
        refine v_aload_n 0 dX7_tearingStrokes_45 rfl rfl ?_
        refine r_Trials_tries dX7_tearingStrokes_46 fl_X7_11 ?_
        refine v_iconst dX7_tearingStrokes_49 (by decide : _ = (0 : Int32)) ?_
        refine ld_tries dX7_tearingStrokes_50 (inb_in (by decide)) ?_
        refine r_Sheet_torn (by decide) dX7_tearingStrokes_51 fl_X7_72 ?_
        refine v_icmp_eq (tgt := 60) dX7_tearingStrokes_54 (by decide) (fun c => ?_) (fun c => ?_)
        · replace hh := (if_pos c).symm.trans hh
          refine v_iinc (v := _ + (1 : Int32)) 3 dX7_tearingStrokes_60 rfl rfl (by decide) rfl ?_
          replace hh := lt_of hh
          refine v_goto (tgt := 20) dX7_tearingStrokes_63 (by decide) ?_
          exact v_sub [1, 2, 3, 0] rfl (ih _ _ _ _ hh)
        · replace hh := (if_neg c).symm.trans hh
          refine v_iinc (v := _ + (1 : Int32)) 2 dX7_tearingStrokes_57 rfl rfl (by decide) rfl ?_
          replace hh := lt_of hh
          refine v_iinc (v := _ + (1 : Int32)) 3 dX7_tearingStrokes_60 rfl rfl (by decide) rfl ?_
          replace hh := lt_of hh
          refine v_goto (tgt := 20) dX7_tearingStrokes_63 (by decide) ?_
          exact v_sub [2, 3, 1, 0] rfl (ih _ _ _ _ hh)
def f_X7_tearingStrokes (N : Nat) (S : St) (x1 : Int32) : Option (Int32 × St) :=
  bnd (f_X4_laysAs 62 0 S ) fun q2 =>
 f_X7_tearingStrokes_b20 N N x1 (0 : Int32) (0 : Int32) q2
set_option maxRecDepth 100000 in
set_option maxHeartbeats 4000000 in
theorem t_X7_tearingStrokes {l : Launch} {G : v_G} {N : Nat} {S : St}   {x1 : Int32} {r : Int32 × St} (hh : f_X7_tearingStrokes N S x1 = some r) : v_M l G yX7_tearingStrokes cX7_tearingStrokes 4 (some .int) 5 0 0 [.ref (v_B G + 261), .int x1] (lay G S) (QI r.1 (lay G r.2)) := by
  refine v_entry (by decide) (Nat.le_of_ble_eq_true rfl) ?_
  unfold f_X7_tearingStrokes at hh
  show V l G yX7_tearingStrokes cX7_tearingStrokes 4 (some .int) (v_rm 5 0 0) (QI r.1 (lay G r.2)) 0 0 0 [(0, .ref (v_B G + 261)), (1, .int x1)] [] (lay G S)
  refine v_iconst dX7_tearingStrokes_0 (by decide : _ = (0 : Int32)) ?_
  refine v_istore_n dX7_tearingStrokes_1 rfl (by decide) rfl ?_
  refine v_aload_n 1 dX7_tearingStrokes_2 rfl rfl ?_
  refine r_Trials_tries dX7_tearingStrokes_3 fl_X7_11 ?_
  refine v_iconst dX7_tearingStrokes_6 (by decide : _ = (0 : Int32)) ?_
  refine ld_tries dX7_tearingStrokes_7 (inb_in (by decide)) ?_
  refine v_aload_n 1 dX7_tearingStrokes_8 rfl rfl ?_
  refine r_Trials_world dX7_tearingStrokes_9 fl_X7_21 ?_
  refine r_World_sheet (by decide) dX7_tearingStrokes_12 fl_X7_33 ?_
  obtain ⟨q2, eq2, hh⟩ := bnd_some hh
  refine v_callVv (t_X4_laysAs (by decide) (by decide) eq2) dX7_tearingStrokes_15 y_X4_laysAs ml_X7_55 (ci := 3) rfl rfl (e_Sheet (by decide)) rfl rfl (Nat.le_of_ble_eq_true rfl) ⟨(Nat.le_of_ble_eq_true rfl), (Nat.le_of_ble_eq_true rfl)⟩ ⟨Nat.zero_le _, Nat.zero_le _⟩ ?_
  refine v_iconst dX7_tearingStrokes_18 (by decide : _ = (0 : Int32)) ?_
  refine v_istore_n dX7_tearingStrokes_19 rfl (by decide) rfl ?_
  exact v_sub [2, 3, 1, 0] rfl (tb_X7_tearingStrokes_20 N _ _ _ _ hh)
def f_X7_touched_b20  (x1 : Int32) (s0 : Int32) (S : St) : Option (Int32) :=
  if (0 : Int32) ≤ s0 then
  (some (((1 : Int32) <<< (x1 &&& 31)) ||| ((1 : Int32) <<< (s0 &&& 31))))
  else
  (some (((1 : Int32) <<< (x1 &&& 31)) ||| ((1 : Int32) <<< ((12 : Int32) &&& 31))))
set_option maxRecDepth 100000 in
set_option maxHeartbeats 4000000 in
theorem tb_X7_touched_20 {l : Launch} {G : v_G}    {r : Int32} {S0 : St}   : ∀ (x1 : Int32) (s0 : Int32) (S : St),  S = S0 → f_X7_touched_b20  x1 s0 S = some r → V l G yX7_touched cX7_touched 3 (some .int) (v_rm 0 0 0) (QI r (lay G S0)) 0 0 20 [(1, .int x1)] [.int s0] (lay G S) := by
  intro x1 s0 S  hS0 hh
  unfold f_X7_touched_b20 at hh
  refine v_istore_n dX7_touched_20 rfl (by decide) rfl ?_
  refine v_iconst dX7_touched_21 (by decide : _ = (1 : Int32)) ?_
  refine v_iload_n 1 dX7_touched_22 rfl rfl ?_
  refine v_ishl dX7_touched_23 ?_
  refine v_iconst dX7_touched_24 (by decide : _ = (1 : Int32)) ?_
  refine v_iload_n 0 dX7_touched_25 rfl rfl ?_
  refine v_if_ge (tgt := 34) dX7_touched_26 (by decide) (fun c => ?_) (fun c => ?_)
  · replace hh := (if_pos c).symm.trans hh
    refine v_iload_n 0 dX7_touched_34 rfl rfl ?_
    refine v_ishl dX7_touched_35 ?_
    refine v_ior dX7_touched_36 ?_
    obtain rfl := Option.some.inj hh
    exact v_iret dX7_touched_37 rfl (Nat.zero_le _) (Nat.zero_le _) ⟨rfl, by rw [hS0]⟩
  · replace hh := (if_neg c).symm.trans hh
    refine v_bipush dX7_touched_29 (by decide : _ = (12 : Int32)) ?_
    refine v_goto (tgt := 35) dX7_touched_31 (by decide) ?_
    refine v_ishl dX7_touched_35 ?_
    refine v_ior dX7_touched_36 ?_
    obtain rfl := Option.some.inj hh
    exact v_iret dX7_touched_37 rfl (Nat.zero_le _) (Nat.zero_le _) ⟨rfl, by rw [hS0]⟩
def f_X7_touched  (S : St) (x0 : Int32) : Option (Int32) :=
  lt (x0 / (2 : Int32)) fun v1 =>
  if (x0 - x0 / (2 : Int32) * (2 : Int32)) = (1 : Int32) then
  (f_X7_touched_b20 v1 (v1 + (1 : Int32)) S)
  else
  (f_X7_touched_b20 v1 (v1 - (1 : Int32)) S)
set_option maxRecDepth 100000 in
set_option maxHeartbeats 4000000 in
theorem t_X7_touched {l : Launch} {G : v_G} {S : St}   {x0 : Int32} {r : Int32} (hh : f_X7_touched  S x0 = some r) : v_M l G yX7_touched cX7_touched 3 (some .int) 0 0 0 [.int x0] (lay G S) (QI r (lay G S)) := by
  refine v_entry (by decide) (Nat.le_of_ble_eq_true rfl) ?_
  unfold f_X7_touched at hh
  show V l G yX7_touched cX7_touched 3 (some .int) (v_rm 0 0 0) (QI r (lay G S)) 0 0 0 [(0, .int x0)] [] (lay G S)
  refine v_iload_n 0 dX7_touched_0 rfl rfl ?_
  refine v_iconst dX7_touched_1 (by decide : _ = (2 : Int32)) ?_
  refine v_idiv dX7_touched_2 (by decide) ?_
  refine v_istore_n dX7_touched_3 rfl (by decide) rfl ?_
  replace hh := lt_of hh
  refine v_iload_n 1 dX7_touched_4 rfl rfl ?_
  refine v_iconst dX7_touched_5 (by decide : _ = (2 : Int32)) ?_
  refine v_irem dX7_touched_6 (by decide) ?_
  refine v_iconst dX7_touched_7 (by decide : _ = (1 : Int32)) ?_
  refine v_icmp_ne (tgt := 17) dX7_touched_8 (by decide) (fun c => ?_) (fun c => ?_)
  · replace hh := (if_neg c).symm.trans hh
    refine v_iload_n 0 dX7_touched_17 rfl rfl ?_
    refine v_iconst dX7_touched_18 (by decide : _ = (1 : Int32)) ?_
    refine v_isub dX7_touched_19 ?_
    exact v_sub [0] rfl (tb_X7_touched_20 _ _ _ rfl hh)
  · replace hh := (if_pos c).symm.trans hh
    refine v_iload_n 0 dX7_touched_11 rfl rfl ?_
    refine v_iconst dX7_touched_12 (by decide : _ = (1 : Int32)) ?_
    refine v_iadd dX7_touched_13 ?_
    refine v_goto (tgt := 20) dX7_touched_14 (by decide) ?_
    exact v_sub [0] rfl (tb_X7_touched_20 _ _ _ rfl hh)
def f_X7_seekSecond_b20 (N : Nat) : Nat → Int32 → Int32 → Int32 → Int32 → St → Option (St)
  | 0, _, _, _, _, _ => none
  | n + 1, x1, x2, x3, x4, S =>
  if (24 : Int32) ≤ x4 then
  (some S)
  else
  (bnd (f_X7_touched S x4) fun q3 =>
 if (x3 &&& (q3 ^^^ (-1 : Int32))) = (0 : Int32) then
  (bnd (f_X7_tried N S (1 : Int32) x1 x4) fun q5 =>
 if q5.1 = (0 : Int32) then
  (lt (x4 + (1 : Int32)) fun v6 =>
  f_X7_seekSecond_b20 N n x1 x2 x3 v6 q5.2)
  else
  (bnd (f_X4_laysLike N 64 0 q5.2 ) fun q8 =>
 if q8 = (0 : Int32) then
  (lt (x4 + (1 : Int32)) fun v9 =>
  f_X7_seekSecond_b20 N n x1 x2 x3 v9 q5.2)
  else
  (lt (sI q5.2 705 0 0 ((gI q5.2 705 0 0) + (1 : Int32))) fun S10 =>
  if (gI S10 707 0 0) = (-1 : Int32) then
  (lt (sI S10 707 0 0 x2) fun S13 =>
  lt (x4 + (1 : Int32)) fun v14 =>
  f_X7_seekSecond_b20 N n x1 x2 x3 v14 S13)
  else
  (lt (sI S10 707 0 0 (gI S10 707 0 0)) fun S11 =>
  lt (x4 + (1 : Int32)) fun v12 =>
  f_X7_seekSecond_b20 N n x1 x2 x3 v12 S11))))
  else
  (lt (x4 + (1 : Int32)) fun v4 =>
  f_X7_seekSecond_b20 N n x1 x2 x3 v4 S))
set_option maxRecDepth 100000 in
set_option maxHeartbeats 4000000 in
theorem tb_X7_seekSecond_20 {l : Launch} {G : v_G} {N : Nat}    {r : St}   : ∀ (n : Nat) (x1 : Int32) (x2 : Int32) (x3 : Int32) (x4 : Int32) (S : St),  f_X7_seekSecond_b20 N n x1 x2 x3 x4 S = some r → V l G yX7_seekSecond cX7_seekSecond 5 (none) (v_rm 5 0 0) (QV (lay G r)) 0 0 20 [(0, .ref (v_B G + 261)), (1, .int x1), (2, .int x2), (3, .int x3), (4, .int x4)] [] (lay G S) := by
  intro n
  induction n with
  | zero =>
    intro x1 x2 x3 x4 S  hh
    rw [f_X7_seekSecond_b20] at hh
    cases hh
  | succ n ih =>
    intro x1 x2 x3 x4 S  hh
    rw [f_X7_seekSecond_b20] at hh
    refine v_iload 4 dX7_seekSecond_20 rfl ?_
    refine v_bipush dX7_seekSecond_22 (by decide : _ = (24 : Int32)) ?_
    refine v_icmp_ge (tgt := 105) dX7_seekSecond_24 (by decide) (fun c => ?_) (fun c => ?_)
    · replace hh := (if_pos c).symm.trans hh
      obtain rfl := Option.some.inj hh
      exact v_vret dX7_seekSecond_105 rfl (Nat.zero_le _) (Nat.zero_le _) ⟨rfl, rfl⟩
    · replace hh := (if_neg c).symm.trans hh
      refine v_iload_n 3 dX7_seekSecond_27 rfl rfl ?_
      refine v_iload 4 dX7_seekSecond_28 rfl ?_
      obtain ⟨q3, eq3, hh⟩ := bnd_some hh
      refine v_callSi (t_X7_touched eq3) dX7_seekSecond_30 y_X7_touched ml_X7_104 rfl rfl (Nat.le_of_ble_eq_true rfl) ⟨(Nat.le_of_ble_eq_true rfl), (Nat.le_of_ble_eq_true rfl)⟩ ⟨Nat.zero_le _, Nat.zero_le _⟩ ?_
      refine v_iconst dX7_seekSecond_33 (by decide : _ = (-1 : Int32)) ?_
      refine v_ixor dX7_seekSecond_34 ?_
      refine v_iand dX7_seekSecond_35 ?_
      refine v_if_ne (tgt := 99) dX7_seekSecond_36 (by decide) (fun c => ?_) (fun c => ?_)
      · replace hh := (if_neg c).symm.trans hh
        refine v_iinc (v := _ + (1 : Int32)) 4 dX7_seekSecond_99 rfl rfl (by decide) rfl ?_
        replace hh := lt_of hh
        refine v_goto (tgt := 20) dX7_seekSecond_102 (by decide) ?_
        exact v_sub [1, 2, 3, 4, 0] rfl (ih _ _ _ _ _ hh)
      · replace hh := (if_pos c).symm.trans hh
        refine v_aload_n 0 dX7_seekSecond_39 rfl rfl ?_
        refine v_iconst dX7_seekSecond_40 (by decide : _ = (1 : Int32)) ?_
        refine v_iload_n 1 dX7_seekSecond_41 rfl rfl ?_
        refine v_iload 4 dX7_seekSecond_42 rfl ?_
        obtain ⟨q5, eq5, hh⟩ := bnd_some hh
        refine v_callVi (t_X7_tried eq5) dX7_seekSecond_44 y_X7_tried ml_X7_62 (ci := 6) rfl rfl (e_Trials) rfl rfl (Nat.le_of_ble_eq_true rfl) ⟨(Nat.le_of_ble_eq_true rfl), (Nat.le_of_ble_eq_true rfl)⟩ ⟨Nat.zero_le _, Nat.zero_le _⟩ ?_
        refine v_if_eq (tgt := 99) dX7_seekSecond_47 (by decide) (fun c => ?_) (fun c => ?_)
        · replace hh := (if_pos c).symm.trans hh
          refine v_iinc (v := _ + (1 : Int32)) 4 dX7_seekSecond_99 rfl rfl (by decide) rfl ?_
          replace hh := lt_of hh
          refine v_goto (tgt := 20) dX7_seekSecond_102 (by decide) ?_
          exact v_sub [1, 2, 3, 4, 0] rfl (ih _ _ _ _ _ hh)
        · replace hh := (if_neg c).symm.trans hh
          refine v_aload_n 0 dX7_seekSecond_50 rfl rfl ?_
          refine r_Trials_tries dX7_seekSecond_51 fl_X7_11 ?_
          refine v_iconst dX7_seekSecond_54 (by decide : _ = (2 : Int32)) ?_
          refine ld_tries dX7_seekSecond_55 (inb_in (by decide)) ?_
          refine v_aload_n 0 dX7_seekSecond_56 rfl rfl ?_
          refine r_Trials_world dX7_seekSecond_57 fl_X7_21 ?_
          refine r_World_sheet (by decide) dX7_seekSecond_60 fl_X7_33 ?_
          obtain ⟨q8, eq8, hh⟩ := bnd_some hh
          refine v_callVi (t_X4_laysLike (by decide) (by decide) eq8) dX7_seekSecond_63 y_X4_laysLike ml_X7_92 (ci := 3) rfl rfl (e_Sheet (by decide)) rfl rfl (Nat.le_of_ble_eq_true rfl) ⟨(Nat.le_of_ble_eq_true rfl), (Nat.le_of_ble_eq_true rfl)⟩ ⟨Nat.zero_le _, Nat.zero_le _⟩ ?_
          refine v_if_eq (tgt := 99) dX7_seekSecond_66 (by decide) (fun c => ?_) (fun c => ?_)
          · replace hh := (if_pos c).symm.trans hh
            refine v_iinc (v := _ + (1 : Int32)) 4 dX7_seekSecond_99 rfl rfl (by decide) rfl ?_
            replace hh := lt_of hh
            refine v_goto (tgt := 20) dX7_seekSecond_102 (by decide) ?_
            exact v_sub [1, 2, 3, 4, 0] rfl (ih _ _ _ _ _ hh)
          · replace hh := (if_neg c).symm.trans hh
            refine v_aload_n 0 dX7_seekSecond_69 rfl rfl ?_
            refine v_dup dX7_seekSecond_70 rfl ?_
            refine r_Trials_ways dX7_seekSecond_71 fl_X7_83 ?_
            refine v_iconst dX7_seekSecond_74 (by decide : _ = (1 : Int32)) ?_
            refine v_iadd dX7_seekSecond_75 ?_
            refine w_Trials_ways dX7_seekSecond_76 fl_X7_83 ?_
            replace hh := lt_of hh
            refine v_aload_n 0 dX7_seekSecond_79 rfl rfl ?_
            refine v_aload_n 0 dX7_seekSecond_80 rfl rfl ?_
            refine r_Trials_lowestOfTwo dX7_seekSecond_81 fl_X7_89 ?_
            refine v_iconst dX7_seekSecond_84 (by decide : _ = (-1 : Int32)) ?_
            refine v_icmp_ne (tgt := 92) dX7_seekSecond_85 (by decide) (fun c => ?_) (fun c => ?_)
            · replace hh := (if_neg c).symm.trans hh
              refine v_aload_n 0 dX7_seekSecond_92 rfl rfl ?_
              refine r_Trials_lowestOfTwo dX7_seekSecond_93 fl_X7_89 ?_
              refine w_Trials_lowestOfTwo dX7_seekSecond_96 fl_X7_89 ?_
              replace hh := lt_of hh
              refine v_iinc (v := _ + (1 : Int32)) 4 dX7_seekSecond_99 rfl rfl (by decide) rfl ?_
              replace hh := lt_of hh
              refine v_goto (tgt := 20) dX7_seekSecond_102 (by decide) ?_
              exact v_sub [1, 2, 3, 4, 0] rfl (ih _ _ _ _ _ hh)
            · replace hh := (if_pos c).symm.trans hh
              refine v_iload_n 2 dX7_seekSecond_88 rfl rfl ?_
              refine v_goto (tgt := 96) dX7_seekSecond_89 (by decide) ?_
              refine w_Trials_lowestOfTwo dX7_seekSecond_96 fl_X7_89 ?_
              replace hh := lt_of hh
              refine v_iinc (v := _ + (1 : Int32)) 4 dX7_seekSecond_99 rfl rfl (by decide) rfl ?_
              replace hh := lt_of hh
              refine v_goto (tgt := 20) dX7_seekSecond_102 (by decide) ?_
              exact v_sub [1, 2, 3, 4, 0] rfl (ih _ _ _ _ _ hh)
def f_X7_seekSecond (N : Nat) (S : St) (x1 : Int32) (x2 : Int32) : Option (St) :=
  bnd (f_X4_unlike N 63 0 S ) fun q2 =>
 f_X7_seekSecond_b20 N N x1 x2 q2 (0 : Int32) S
set_option maxRecDepth 100000 in
set_option maxHeartbeats 4000000 in
theorem t_X7_seekSecond {l : Launch} {G : v_G} {N : Nat} {S : St}   {x1 : Int32} {x2 : Int32} {r : St} (hh : f_X7_seekSecond N S x1 x2 = some r) : v_M l G yX7_seekSecond cX7_seekSecond 5 (none) 5 0 0 [.ref (v_B G + 261), .int x1, .int x2] (lay G S) (QV (lay G r)) := by
  refine v_entry (by decide) (Nat.le_of_ble_eq_true rfl) ?_
  unfold f_X7_seekSecond at hh
  show V l G yX7_seekSecond cX7_seekSecond 5 (none) (v_rm 5 0 0) (QV (lay G r)) 0 0 0 [(0, .ref (v_B G + 261)), (1, .int x1), (2, .int x2)] [] (lay G S)
  refine v_aload_n 0 dX7_seekSecond_0 rfl rfl ?_
  refine r_Trials_tries dX7_seekSecond_1 fl_X7_11 ?_
  refine v_iconst dX7_seekSecond_4 (by decide : _ = (1 : Int32)) ?_
  refine ld_tries dX7_seekSecond_5 (inb_in (by decide)) ?_
  refine v_aload_n 0 dX7_seekSecond_6 rfl rfl ?_
  refine r_Trials_world dX7_seekSecond_7 fl_X7_21 ?_
  refine r_World_sheet (by decide) dX7_seekSecond_10 fl_X7_33 ?_
  obtain ⟨q2, eq2, hh⟩ := bnd_some hh
  refine v_callVi (t_X4_unlike (by decide) (by decide) eq2) dX7_seekSecond_13 y_X4_unlike ml_X7_100 (ci := 3) rfl rfl (e_Sheet (by decide)) rfl rfl (Nat.le_of_ble_eq_true rfl) ⟨(Nat.le_of_ble_eq_true rfl), (Nat.le_of_ble_eq_true rfl)⟩ ⟨Nat.zero_le _, Nat.zero_le _⟩ ?_
  refine v_istore_n dX7_seekSecond_16 rfl (by decide) rfl ?_
  refine v_iconst dX7_seekSecond_17 (by decide : _ = (0 : Int32)) ?_
  refine v_istore dX7_seekSecond_18 (by decide) rfl ?_
  exact v_sub [2, 3, 4, 1, 0] rfl (tb_X7_seekSecond_20 N _ _ _ _ _ hh)
def f_X7_seekWays_b117 (rec52 : (Int32 → Int32 → St → Option (St))) (N : Nat) (x1 : Int32) (x2 : Int32) (S : St) : Option (St) :=
  bnd (f_X7_seekSecond N S x1 x2) fun q12 =>
 lt (x2 + (1 : Int32)) fun v13 =>
  rec52 x1 v13 q12
set_option maxRecDepth 100000 in
set_option maxHeartbeats 4000000 in
theorem tb_X7_seekWays_117 {l : Launch} {G : v_G} {N : Nat}    {r : St} {rec52 : (Int32 → Int32 → St → Option (St))} (hrec52 : ∀ (x1 : Int32) (x2 : Int32) (S : St),  rec52 x1 x2 S = some r → V l G yX7_seekWays cX7_seekWays 3 (none) (v_rm 6 0 0) (QV (lay G r)) 0 0 52 [(0, .ref (v_B G + 261)), (1, .int x1), (2, .int x2)] [] (lay G S)) : ∀ (x1 : Int32) (x2 : Int32) (S : St),  f_X7_seekWays_b117 rec52 N x1 x2 S = some r → V l G yX7_seekWays cX7_seekWays 3 (none) (v_rm 6 0 0) (QV (lay G r)) 0 0 117 [(0, .ref (v_B G + 261)), (1, .int x1), (2, .int x2)] [] (lay G S) := by
  intro x1 x2 S  hh
  unfold f_X7_seekWays_b117 at hh
  refine v_aload_n 0 dX7_seekWays_117 rfl rfl ?_
  refine v_iload_n 1 dX7_seekWays_118 rfl rfl ?_
  refine v_iload_n 2 dX7_seekWays_119 rfl rfl ?_
  obtain ⟨q12, eq12, hh⟩ := bnd_some hh
  refine v_callVv (t_X7_seekSecond eq12) dX7_seekWays_120 y_X7_seekSecond ml_X7_96 (ci := 6) rfl rfl (e_Trials) rfl rfl (Nat.le_of_ble_eq_true rfl) ⟨(Nat.le_of_ble_eq_true rfl), (Nat.le_of_ble_eq_true rfl)⟩ ⟨Nat.zero_le _, Nat.zero_le _⟩ ?_
  refine v_iinc (v := _ + (1 : Int32)) 2 dX7_seekWays_123 rfl rfl (by decide) rfl ?_
  replace hh := lt_of hh
  refine v_goto (tgt := 52) dX7_seekWays_126 (by decide) ?_
  exact v_sub [1, 2, 0] rfl (hrec52 _ _ _ hh)
def f_X7_seekWays_b114 (rec52 : (Int32 → Int32 → St → Option (St))) (N : Nat) (x1 : Int32) (x2 : Int32) (s0 : Int32) (S : St) : Option (St) :=
  lt (sI S 706 0 0 s0) fun S15 =>
  f_X7_seekWays_b117 rec52 N x1 x2 S15
set_option maxRecDepth 100000 in
set_option maxHeartbeats 4000000 in
theorem tb_X7_seekWays_114 {l : Launch} {G : v_G} {N : Nat}    {r : St} {rec52 : (Int32 → Int32 → St → Option (St))} (hrec52 : ∀ (x1 : Int32) (x2 : Int32) (S : St),  rec52 x1 x2 S = some r → V l G yX7_seekWays cX7_seekWays 3 (none) (v_rm 6 0 0) (QV (lay G r)) 0 0 52 [(0, .ref (v_B G + 261)), (1, .int x1), (2, .int x2)] [] (lay G S)) : ∀ (x1 : Int32) (x2 : Int32) (s0 : Int32) (S : St),  f_X7_seekWays_b114 rec52 N x1 x2 s0 S = some r → V l G yX7_seekWays cX7_seekWays 3 (none) (v_rm 6 0 0) (QV (lay G r)) 0 0 114 [(0, .ref (v_B G + 261)), (1, .int x1), (2, .int x2)] [.int s0, .ref (v_B G + 261)] (lay G S) := by
  intro x1 x2 s0 S  hh
  unfold f_X7_seekWays_b114 at hh
  refine w_Trials_lowestOfOne dX7_seekWays_114 fl_X7_86 ?_
  replace hh := lt_of hh
  exact v_sub [0, 1, 2] rfl (tb_X7_seekWays_117 hrec52 _ _ _ hh)
def f_X7_seekWays_b52 (N : Nat) : Nat → Int32 → Int32 → St → Option (St)
  | 0, _, _, _ => none
  | n + 1, x1, x2, S =>
  if (24 : Int32) ≤ x2 then
  (some S)
  else
  (bnd (f_X7_tried N S (0 : Int32) x1 x2) fun q8 =>
 if q8.1 = (0 : Int32) then
  (lt (x2 + (1 : Int32)) fun v9 =>
  f_X7_seekWays_b52 N n x1 v9 q8.2)
  else
  (bnd (f_X4_laysLike N 63 0 q8.2 ) fun q11 =>
 if q11 = (0 : Int32) then
  (f_X7_seekWays_b117 (f_X7_seekWays_b52 N n) N x1 x2 q8.2)
  else
  (lt (sI q8.2 705 0 0 ((gI q8.2 705 0 0) + (1 : Int32))) fun S14 =>
  if (gI S14 706 0 0) = (-1 : Int32) then
  (f_X7_seekWays_b114 (f_X7_seekWays_b52 N n) N x1 x2 x2 S14)
  else
  (f_X7_seekWays_b114 (f_X7_seekWays_b52 N n) N x1 x2 (gI S14 706 0 0) S14))))
set_option maxRecDepth 100000 in
set_option maxHeartbeats 4000000 in
theorem tb_X7_seekWays_52 {l : Launch} {G : v_G} {N : Nat}    {r : St}   : ∀ (n : Nat) (x1 : Int32) (x2 : Int32) (S : St),  f_X7_seekWays_b52 N n x1 x2 S = some r → V l G yX7_seekWays cX7_seekWays 3 (none) (v_rm 6 0 0) (QV (lay G r)) 0 0 52 [(0, .ref (v_B G + 261)), (1, .int x1), (2, .int x2)] [] (lay G S) := by
  intro n
  induction n with
  | zero =>
    intro x1 x2 S  hh
    rw [f_X7_seekWays_b52] at hh
    cases hh
  | succ n ih =>
    intro x1 x2 S  hh
    rw [f_X7_seekWays_b52] at hh
    refine v_iload_n 2 dX7_seekWays_52 rfl rfl ?_
    refine v_bipush dX7_seekWays_53 (by decide : _ = (24 : Int32)) ?_
    refine v_icmp_ge (tgt := 129) dX7_seekWays_55 (by decide) (fun c => ?_) (fun c => ?_)
    · replace hh := (if_pos c).symm.trans hh
      obtain rfl := Option.some.inj hh
      exact v_vret dX7_seekWays_129 rfl (Nat.zero_le _) (Nat.zero_le _) ⟨rfl, rfl⟩
    · replace hh := (if_neg c).symm.trans hh
      refine v_aload_n 0 dX7_seekWays_58 rfl rfl ?_
      refine v_iconst dX7_seekWays_59 (by decide : _ = (0 : Int32)) ?_
      refine v_iload_n 1 dX7_seekWays_60 rfl rfl ?_
      refine v_iload_n 2 dX7_seekWays_61 rfl rfl ?_
      obtain ⟨q8, eq8, hh⟩ := bnd_some hh
      refine v_callVi (t_X7_tried eq8) dX7_seekWays_62 y_X7_tried ml_X7_62 (ci := 6) rfl rfl (e_Trials) rfl rfl (Nat.le_of_ble_eq_true rfl) ⟨(Nat.le_of_ble_eq_true rfl), (Nat.le_of_ble_eq_true rfl)⟩ ⟨Nat.zero_le _, Nat.zero_le _⟩ ?_
      refine v_if_eq (tgt := 123) dX7_seekWays_65 (by decide) (fun c => ?_) (fun c => ?_)
      · replace hh := (if_pos c).symm.trans hh
        refine v_iinc (v := _ + (1 : Int32)) 2 dX7_seekWays_123 rfl rfl (by decide) rfl ?_
        replace hh := lt_of hh
        refine v_goto (tgt := 52) dX7_seekWays_126 (by decide) ?_
        exact v_sub [1, 2, 0] rfl (ih _ _ _ hh)
      · replace hh := (if_neg c).symm.trans hh
        refine v_aload_n 0 dX7_seekWays_68 rfl rfl ?_
        refine r_Trials_tries dX7_seekWays_69 fl_X7_11 ?_
        refine v_iconst dX7_seekWays_72 (by decide : _ = (1 : Int32)) ?_
        refine ld_tries dX7_seekWays_73 (inb_in (by decide)) ?_
        refine v_aload_n 0 dX7_seekWays_74 rfl rfl ?_
        refine r_Trials_world dX7_seekWays_75 fl_X7_21 ?_
        refine r_World_sheet (by decide) dX7_seekWays_78 fl_X7_33 ?_
        obtain ⟨q11, eq11, hh⟩ := bnd_some hh
        refine v_callVi (t_X4_laysLike (by decide) (by decide) eq11) dX7_seekWays_81 y_X4_laysLike ml_X7_92 (ci := 3) rfl rfl (e_Sheet (by decide)) rfl rfl (Nat.le_of_ble_eq_true rfl) ⟨(Nat.le_of_ble_eq_true rfl), (Nat.le_of_ble_eq_true rfl)⟩ ⟨Nat.zero_le _, Nat.zero_le _⟩ ?_
        refine v_if_eq (tgt := 117) dX7_seekWays_84 (by decide) (fun c => ?_) (fun c => ?_)
        · replace hh := (if_pos c).symm.trans hh
          exact v_sub [0, 1, 2] rfl (tb_X7_seekWays_117 (fun _ _ _ hh => ih _ _ _ hh) _ _ _ hh)
        · replace hh := (if_neg c).symm.trans hh
          refine v_aload_n 0 dX7_seekWays_87 rfl rfl ?_
          refine v_dup dX7_seekWays_88 rfl ?_
          refine r_Trials_ways dX7_seekWays_89 fl_X7_83 ?_
          refine v_iconst dX7_seekWays_92 (by decide : _ = (1 : Int32)) ?_
          refine v_iadd dX7_seekWays_93 ?_
          refine w_Trials_ways dX7_seekWays_94 fl_X7_83 ?_
          replace hh := lt_of hh
          refine v_aload_n 0 dX7_seekWays_97 rfl rfl ?_
          refine v_aload_n 0 dX7_seekWays_98 rfl rfl ?_
          refine r_Trials_lowestOfOne dX7_seekWays_99 fl_X7_86 ?_
          refine v_iconst dX7_seekWays_102 (by decide : _ = (-1 : Int32)) ?_
          refine v_icmp_ne (tgt := 110) dX7_seekWays_103 (by decide) (fun c => ?_) (fun c => ?_)
          · replace hh := (if_neg c).symm.trans hh
            refine v_aload_n 0 dX7_seekWays_110 rfl rfl ?_
            refine r_Trials_lowestOfOne dX7_seekWays_111 fl_X7_86 ?_
            exact v_sub [0, 1, 2] rfl (tb_X7_seekWays_114 (fun _ _ _ hh => ih _ _ _ hh) _ _ _ _ hh)
          · replace hh := (if_pos c).symm.trans hh
            refine v_iload_n 2 dX7_seekWays_106 rfl rfl ?_
            refine v_goto (tgt := 114) dX7_seekWays_107 (by decide) ?_
            exact v_sub [0, 1, 2] rfl (tb_X7_seekWays_114 (fun _ _ _ hh => ih _ _ _ hh) _ _ _ _ hh)
def f_X7_seekWays (N : Nat) (S : St) (x1 : Int32) : Option (St) :=
  lt (sI S 705 0 0 (0 : Int32)) fun S1 =>
  lt (sI S1 706 0 0 (-1 : Int32)) fun S2 =>
  lt (sI S2 707 0 0 (-1 : Int32)) fun S3 =>
  bnd (f_X4_laysAs 62 31 S3 ) fun q5 =>
 lt (sI q5 407 62 0 (gI q5 407 0 0)) fun S7 =>
  f_X7_seekWays_b52 N N x1 (0 : Int32) S7
set_option maxRecDepth 100000 in
set_option maxHeartbeats 4000000 in
theorem t_X7_seekWays {l : Launch} {G : v_G} {N : Nat} {S : St}   {x1 : Int32} {r : St} (hh : f_X7_seekWays N S x1 = some r) : v_M l G yX7_seekWays cX7_seekWays 3 (none) 6 0 0 [.ref (v_B G + 261), .int x1] (lay G S) (QV (lay G r)) := by
  refine v_entry (by decide) (Nat.le_of_ble_eq_true rfl) ?_
  unfold f_X7_seekWays at hh
  show V l G yX7_seekWays cX7_seekWays 3 (none) (v_rm 6 0 0) (QV (lay G r)) 0 0 0 [(0, .ref (v_B G + 261)), (1, .int x1)] [] (lay G S)
  refine v_aload_n 0 dX7_seekWays_0 rfl rfl ?_
  refine v_iconst dX7_seekWays_1 (by decide : _ = (0 : Int32)) ?_
  refine w_Trials_ways dX7_seekWays_2 fl_X7_83 ?_
  replace hh := lt_of hh
  refine v_aload_n 0 dX7_seekWays_5 rfl rfl ?_
  refine v_iconst dX7_seekWays_6 (by decide : _ = (-1 : Int32)) ?_
  refine w_Trials_lowestOfOne dX7_seekWays_7 fl_X7_86 ?_
  replace hh := lt_of hh
  refine v_aload_n 0 dX7_seekWays_10 rfl rfl ?_
  refine v_iconst dX7_seekWays_11 (by decide : _ = (-1 : Int32)) ?_
  refine w_Trials_lowestOfTwo dX7_seekWays_12 fl_X7_89 ?_
  replace hh := lt_of hh
  refine v_aload_n 0 dX7_seekWays_15 rfl rfl ?_
  refine r_Trials_tries dX7_seekWays_16 fl_X7_11 ?_
  refine v_iconst dX7_seekWays_19 (by decide : _ = (0 : Int32)) ?_
  refine ld_tries dX7_seekWays_20 (inb_in (by decide)) ?_
  refine v_aload_n 0 dX7_seekWays_21 rfl rfl ?_
  refine r_Trials_kept dX7_seekWays_22 fl_X7_25 ?_
  refine r_World_sheet (by decide) dX7_seekWays_25 fl_X7_33 ?_
  obtain ⟨q5, eq5, hh⟩ := bnd_some hh
  refine v_callVv (t_X4_laysAs (by decide) (by decide) eq5) dX7_seekWays_28 y_X4_laysAs ml_X7_55 (ci := 3) rfl rfl (e_Sheet (by decide)) rfl rfl (Nat.le_of_ble_eq_true rfl) ⟨(Nat.le_of_ble_eq_true rfl), (Nat.le_of_ble_eq_true rfl)⟩ ⟨Nat.zero_le _, Nat.zero_le _⟩ ?_
  refine v_aload_n 0 dX7_seekWays_31 rfl rfl ?_
  refine r_Trials_tries dX7_seekWays_32 fl_X7_11 ?_
  refine v_iconst dX7_seekWays_35 (by decide : _ = (0 : Int32)) ?_
  refine ld_tries dX7_seekWays_36 (inb_in (by decide)) ?_
  refine v_aload_n 0 dX7_seekWays_37 rfl rfl ?_
  refine r_Trials_world dX7_seekWays_38 fl_X7_21 ?_
  refine r_World_sheet (by decide) dX7_seekWays_41 fl_X7_33 ?_
  refine r_Sheet_turn (by decide) dX7_seekWays_44 fl_X7_43 ?_
  refine w_Sheet_turn (by decide) dX7_seekWays_47 fl_X7_43 ?_
  replace hh := lt_of hh
  refine v_iconst dX7_seekWays_50 (by decide : _ = (0 : Int32)) ?_
  refine v_istore_n dX7_seekWays_51 rfl (by decide) rfl ?_
  exact v_sub [1, 2, 0] rfl (tb_X7_seekWays_52 N _ _ _ hh)
def f_X7_lowestFirst  (S : St)  : Option (Int32) :=
  if (gI S 706 0 0) = (-1 : Int32) then
  (some (gI S 707 0 0))
  else
  (some (gI S 706 0 0))
set_option maxRecDepth 100000 in
set_option maxHeartbeats 4000000 in
theorem t_X7_lowestFirst {l : Launch} {G : v_G} {S : St}    {r : Int32} (hh : f_X7_lowestFirst  S  = some r) : v_M l G yX7_lowestFirst cX7_lowestFirst 1 (some .int) 0 0 0 [.ref (v_B G + 261)] (lay G S) (QI r (lay G S)) := by
  refine v_entry (by decide) (Nat.le_of_ble_eq_true rfl) ?_
  unfold f_X7_lowestFirst at hh
  show V l G yX7_lowestFirst cX7_lowestFirst 1 (some .int) (v_rm 0 0 0) (QI r (lay G S)) 0 0 0 [(0, .ref (v_B G + 261))] [] (lay G S)
  refine v_aload_n 0 dX7_lowestFirst_0 rfl rfl ?_
  refine r_Trials_lowestOfOne dX7_lowestFirst_1 fl_X7_86 ?_
  refine v_iconst dX7_lowestFirst_4 (by decide : _ = (-1 : Int32)) ?_
  refine v_icmp_ne (tgt := 15) dX7_lowestFirst_5 (by decide) (fun c => ?_) (fun c => ?_)
  · replace hh := (if_neg c).symm.trans hh
    refine v_aload_n 0 dX7_lowestFirst_15 rfl rfl ?_
    refine r_Trials_lowestOfOne dX7_lowestFirst_16 fl_X7_86 ?_
    obtain rfl := Option.some.inj hh
    exact v_iret dX7_lowestFirst_19 rfl (Nat.zero_le _) (Nat.zero_le _) ⟨rfl, rfl⟩
  · replace hh := (if_pos c).symm.trans hh
    refine v_aload_n 0 dX7_lowestFirst_8 rfl rfl ?_
    refine r_Trials_lowestOfTwo dX7_lowestFirst_9 fl_X7_89 ?_
    refine v_goto (tgt := 19) dX7_lowestFirst_12 (by decide) ?_
    obtain rfl := Option.some.inj hh
    exact v_iret dX7_lowestFirst_19 rfl (Nat.zero_le _) (Nat.zero_le _) ⟨rfl, rfl⟩
