def f_X9_isCell  (S : St) (x0 : Int32) : Option (Int32) :=
  if x0 < (0 : Int32) then
  (some (0 : Int32))
  else
  (if (12 : Int32) ≤ x0 then
  (some (0 : Int32))
  else
  (some (1 : Int32)))
set_option maxRecDepth 100000 in
set_option maxHeartbeats 4000000 in
theorem t_X9_isCell {l : Launch} {G : v_G} {S : St}   {x0 : Int32} {r : Int32} (hh : f_X9_isCell  S x0 = some r) : v_M l G yX9_isCell cX9_isCell 1 (some .boolean) 0 0 0 [.int x0] (lay G S) (QI r (lay G S)) := by
  refine v_entry (by decide) (Nat.le_of_ble_eq_true rfl) ?_
  unfold f_X9_isCell at hh
  show V l G yX9_isCell cX9_isCell 1 (some .boolean) (v_rm 0 0 0) (QI r (lay G S)) 0 0 0 [(0, .int x0)] [] (lay G S)
  refine v_iload_n 0 dX9_isCell_0 rfl rfl ?_
  refine v_if_lt (tgt := 14) dX9_isCell_1 (by decide) (fun c => ?_) (fun c => ?_)
  · replace hh := (if_pos c).symm.trans hh
    refine v_iconst dX9_isCell_14 (by decide : _ = (0 : Int32)) ?_
    obtain rfl := Option.some.inj hh
    exact v_zret dX9_isCell_15 rfl (zb (by decide)).1 (Nat.zero_le _) (Nat.zero_le _) ⟨rfl, rfl⟩
  · replace hh := (if_neg c).symm.trans hh
    refine v_iload_n 0 dX9_isCell_4 rfl rfl ?_
    refine v_bipush dX9_isCell_5 (by decide : _ = (12 : Int32)) ?_
    refine v_icmp_ge (tgt := 14) dX9_isCell_7 (by decide) (fun c => ?_) (fun c => ?_)
    · replace hh := (if_pos c).symm.trans hh
      refine v_iconst dX9_isCell_14 (by decide : _ = (0 : Int32)) ?_
      obtain rfl := Option.some.inj hh
      exact v_zret dX9_isCell_15 rfl (zb (by decide)).1 (Nat.zero_le _) (Nat.zero_le _) ⟨rfl, rfl⟩
    · replace hh := (if_neg c).symm.trans hh
      refine v_iconst dX9_isCell_10 (by decide : _ = (1 : Int32)) ?_
      refine v_goto (tgt := 15) dX9_isCell_11 (by decide) ?_
      obtain rfl := Option.some.inj hh
      exact v_zret dX9_isCell_15 rfl (zb (by decide)).1 (Nat.zero_le _) (Nat.zero_le _) ⟨rfl, rfl⟩
def f_X9_isRow  (S : St) (x0 : Int32) (x1 : Int32) : Option (Int32) :=
  if x0 < (0 : Int32) then
  (some (0 : Int32))
  else
  (if x1 < x0 then
  (some (0 : Int32))
  else
  (if (12 : Int32) ≤ x1 then
  (some (0 : Int32))
  else
  (some (1 : Int32))))
set_option maxRecDepth 100000 in
set_option maxHeartbeats 4000000 in
theorem t_X9_isRow {l : Launch} {G : v_G} {S : St}   {x0 : Int32} {x1 : Int32} {r : Int32} (hh : f_X9_isRow  S x0 x1 = some r) : v_M l G yX9_isRow cX9_isRow 2 (some .boolean) 0 0 0 [.int x0, .int x1] (lay G S) (QI r (lay G S)) := by
  refine v_entry (by decide) (Nat.le_of_ble_eq_true rfl) ?_
  unfold f_X9_isRow at hh
  show V l G yX9_isRow cX9_isRow 2 (some .boolean) (v_rm 0 0 0) (QI r (lay G S)) 0 0 0 [(0, .int x0), (1, .int x1)] [] (lay G S)
  refine v_iload_n 0 dX9_isRow_0 rfl rfl ?_
  refine v_if_lt (tgt := 19) dX9_isRow_1 (by decide) (fun c => ?_) (fun c => ?_)
  · replace hh := (if_pos c).symm.trans hh
    refine v_iconst dX9_isRow_19 (by decide : _ = (0 : Int32)) ?_
    obtain rfl := Option.some.inj hh
    exact v_zret dX9_isRow_20 rfl (zb (by decide)).1 (Nat.zero_le _) (Nat.zero_le _) ⟨rfl, rfl⟩
  · replace hh := (if_neg c).symm.trans hh
    refine v_iload_n 0 dX9_isRow_4 rfl rfl ?_
    refine v_iload_n 1 dX9_isRow_5 rfl rfl ?_
    refine v_icmp_gt (tgt := 19) dX9_isRow_6 (by decide) (fun c => ?_) (fun c => ?_)
    · replace hh := (if_pos c).symm.trans hh
      refine v_iconst dX9_isRow_19 (by decide : _ = (0 : Int32)) ?_
      obtain rfl := Option.some.inj hh
      exact v_zret dX9_isRow_20 rfl (zb (by decide)).1 (Nat.zero_le _) (Nat.zero_le _) ⟨rfl, rfl⟩
    · replace hh := (if_neg c).symm.trans hh
      refine v_iload_n 1 dX9_isRow_9 rfl rfl ?_
      refine v_bipush dX9_isRow_10 (by decide : _ = (12 : Int32)) ?_
      refine v_icmp_ge (tgt := 19) dX9_isRow_12 (by decide) (fun c => ?_) (fun c => ?_)
      · replace hh := (if_pos c).symm.trans hh
        refine v_iconst dX9_isRow_19 (by decide : _ = (0 : Int32)) ?_
        obtain rfl := Option.some.inj hh
        exact v_zret dX9_isRow_20 rfl (zb (by decide)).1 (Nat.zero_le _) (Nat.zero_le _) ⟨rfl, rfl⟩
      · replace hh := (if_neg c).symm.trans hh
        refine v_iconst dX9_isRow_15 (by decide : _ = (1 : Int32)) ?_
        refine v_goto (tgt := 20) dX9_isRow_16 (by decide) ?_
        obtain rfl := Option.some.inj hh
        exact v_zret dX9_isRow_20 rfl (zb (by decide)).1 (Nat.zero_le _) (Nat.zero_le _) ⟨rfl, rfl⟩
def f_X9_isHand  (S : St) (x1 : Int32) : Option (Int32) :=
  if x1 < (0 : Int32) then
  (some (0 : Int32))
  else
  (if (gI S 805 0 0) ≤ x1 then
  (some (0 : Int32))
  else
  (some (1 : Int32)))
set_option maxRecDepth 100000 in
set_option maxHeartbeats 4000000 in
theorem t_X9_isHand {l : Launch} {G : v_G} {S : St}   {x1 : Int32} {r : Int32} (hh : f_X9_isHand  S x1 = some r) : v_M l G yX9_isHand cX9_isHand 2 (some .boolean) 0 0 0 [.ref (v_B G + 0), .int x1] (lay G S) (QI r (lay G S)) := by
  refine v_entry (by decide) (Nat.le_of_ble_eq_true rfl) ?_
  unfold f_X9_isHand at hh
  show V l G yX9_isHand cX9_isHand 2 (some .boolean) (v_rm 0 0 0) (QI r (lay G S)) 0 0 0 [(0, .ref (v_B G + 0)), (1, .int x1)] [] (lay G S)
  refine v_iload_n 1 dX9_isHand_0 rfl rfl ?_
  refine v_if_lt (tgt := 19) dX9_isHand_1 (by decide) (fun c => ?_) (fun c => ?_)
  · replace hh := (if_pos c).symm.trans hh
    refine v_iconst dX9_isHand_19 (by decide : _ = (0 : Int32)) ?_
    obtain rfl := Option.some.inj hh
    exact v_zret dX9_isHand_20 rfl (zb (by decide)).1 (Nat.zero_le _) (Nat.zero_le _) ⟨rfl, rfl⟩
  · replace hh := (if_neg c).symm.trans hh
    refine v_iload_n 1 dX9_isHand_4 rfl rfl ?_
    refine v_aload_n 0 dX9_isHand_5 rfl rfl ?_
    refine r_RolledOut_now dX9_isHand_6 fl_X9_12 ?_
    refine r_World_hands (by decide) dX9_isHand_9 fl_X9_60 ?_
    refine v_icmp_ge (tgt := 19) dX9_isHand_12 (by decide) (fun c => ?_) (fun c => ?_)
    · replace hh := (if_pos c).symm.trans hh
      refine v_iconst dX9_isHand_19 (by decide : _ = (0 : Int32)) ?_
      obtain rfl := Option.some.inj hh
      exact v_zret dX9_isHand_20 rfl (zb (by decide)).1 (Nat.zero_le _) (Nat.zero_le _) ⟨rfl, rfl⟩
    · replace hh := (if_neg c).symm.trans hh
      refine v_iconst dX9_isHand_15 (by decide : _ = (1 : Int32)) ?_
      refine v_goto (tgt := 20) dX9_isHand_16 (by decide) ?_
      obtain rfl := Option.some.inj hh
      exact v_zret dX9_isHand_20 rfl (zb (by decide)).1 (Nat.zero_le _) (Nat.zero_le _) ⟨rfl, rfl⟩
def f_X9_isTown  (S : St) (x1 : Int32) : Option (Int32) :=
  if x1 < (0 : Int32) then
  (some (0 : Int32))
  else
  (if (gI S 806 0 0) ≤ x1 then
  (some (0 : Int32))
  else
  (some (1 : Int32)))
set_option maxRecDepth 100000 in
set_option maxHeartbeats 4000000 in
theorem t_X9_isTown {l : Launch} {G : v_G} {S : St}   {x1 : Int32} {r : Int32} (hh : f_X9_isTown  S x1 = some r) : v_M l G yX9_isTown cX9_isTown 2 (some .boolean) 0 0 0 [.ref (v_B G + 0), .int x1] (lay G S) (QI r (lay G S)) := by
  refine v_entry (by decide) (Nat.le_of_ble_eq_true rfl) ?_
  unfold f_X9_isTown at hh
  show V l G yX9_isTown cX9_isTown 2 (some .boolean) (v_rm 0 0 0) (QI r (lay G S)) 0 0 0 [(0, .ref (v_B G + 0)), (1, .int x1)] [] (lay G S)
  refine v_iload_n 1 dX9_isTown_0 rfl rfl ?_
  refine v_if_lt (tgt := 19) dX9_isTown_1 (by decide) (fun c => ?_) (fun c => ?_)
  · replace hh := (if_pos c).symm.trans hh
    refine v_iconst dX9_isTown_19 (by decide : _ = (0 : Int32)) ?_
    obtain rfl := Option.some.inj hh
    exact v_zret dX9_isTown_20 rfl (zb (by decide)).1 (Nat.zero_le _) (Nat.zero_le _) ⟨rfl, rfl⟩
  · replace hh := (if_neg c).symm.trans hh
    refine v_iload_n 1 dX9_isTown_4 rfl rfl ?_
    refine v_aload_n 0 dX9_isTown_5 rfl rfl ?_
    refine r_RolledOut_now dX9_isTown_6 fl_X9_12 ?_
    refine r_World_towns (by decide) dX9_isTown_9 fl_X9_76 ?_
    refine v_icmp_ge (tgt := 19) dX9_isTown_12 (by decide) (fun c => ?_) (fun c => ?_)
    · replace hh := (if_pos c).symm.trans hh
      refine v_iconst dX9_isTown_19 (by decide : _ = (0 : Int32)) ?_
      obtain rfl := Option.some.inj hh
      exact v_zret dX9_isTown_20 rfl (zb (by decide)).1 (Nat.zero_le _) (Nat.zero_le _) ⟨rfl, rfl⟩
    · replace hh := (if_neg c).symm.trans hh
      refine v_iconst dX9_isTown_15 (by decide : _ = (1 : Int32)) ?_
      refine v_goto (tgt := 20) dX9_isTown_16 (by decide) ?_
      obtain rfl := Option.some.inj hh
      exact v_zret dX9_isTown_20 rfl (zb (by decide)).1 (Nat.zero_le _) (Nat.zero_le _) ⟨rfl, rfl⟩
def f_X9_isText  (S : St) (x1 : Int32) : Option (Int32) :=
  if x1 < (0 : Int32) then
  (some (0 : Int32))
  else
  (if (gI S 808 0 0) ≤ x1 then
  (some (0 : Int32))
  else
  (chk (inb x1 4) (
  if gR S 807 0 x1.toNatClampNeg = 0 then
  (some (0 : Int32))
  else
  (some (1 : Int32)))))
set_option maxRecDepth 100000 in
set_option maxHeartbeats 4000000 in
theorem t_X9_isText {l : Launch} {G : v_G} {S : St}   {x1 : Int32} {r : Int32} (hh : f_X9_isText  S x1 = some r) : v_M l G yX9_isText cX9_isText 2 (some .boolean) 0 0 0 [.ref (v_B G + 0), .int x1] (lay G S) (QI r (lay G S)) := by
  refine v_entry (by decide) (Nat.le_of_ble_eq_true rfl) ?_
  unfold f_X9_isText at hh
  show V l G yX9_isText cX9_isText 2 (some .boolean) (v_rm 0 0 0) (QI r (lay G S)) 0 0 0 [(0, .ref (v_B G + 0)), (1, .int x1)] [] (lay G S)
  refine v_iload_n 1 dX9_isText_0 rfl rfl ?_
  refine v_if_lt (tgt := 31) dX9_isText_1 (by decide) (fun c => ?_) (fun c => ?_)
  · replace hh := (if_pos c).symm.trans hh
    refine v_iconst dX9_isText_31 (by decide : _ = (0 : Int32)) ?_
    obtain rfl := Option.some.inj hh
    exact v_zret dX9_isText_32 rfl (zb (by decide)).1 (Nat.zero_le _) (Nat.zero_le _) ⟨rfl, rfl⟩
  · replace hh := (if_neg c).symm.trans hh
    refine v_iload_n 1 dX9_isText_4 rfl rfl ?_
    refine v_aload_n 0 dX9_isText_5 rfl rfl ?_
    refine r_RolledOut_now dX9_isText_6 fl_X9_12 ?_
    refine r_World_textCount (by decide) dX9_isText_9 fl_X9_92 ?_
    refine v_icmp_ge (tgt := 31) dX9_isText_12 (by decide) (fun c => ?_) (fun c => ?_)
    · replace hh := (if_pos c).symm.trans hh
      refine v_iconst dX9_isText_31 (by decide : _ = (0 : Int32)) ?_
      obtain rfl := Option.some.inj hh
      exact v_zret dX9_isText_32 rfl (zb (by decide)).1 (Nat.zero_le _) (Nat.zero_le _) ⟨rfl, rfl⟩
    · replace hh := (if_neg c).symm.trans hh
      refine v_aload_n 0 dX9_isText_15 rfl rfl ?_
      refine r_RolledOut_now dX9_isText_16 fl_X9_12 ?_
      refine r_World_texts (by decide) dX9_isText_19 fl_X9_99 ?_
      refine v_iload_n 1 dX9_isText_22 rfl rfl ?_
      obtain ⟨g1, hh⟩ := chk_some hh
      replace g1 := inb_in g1
      refine tx_cases (fun c => ?_) (fun c => ?_) hh
      · intro hh
        refine ld_textsN (by decide) dX9_isText_23 g1 c ?_
        refine v_ifnullN (tgt := 31) dX9_isText_24 (by decide) ?_
        refine v_iconst dX9_isText_31 (by decide : _ = (0 : Int32)) ?_
        obtain rfl := Option.some.inj hh
        exact v_zret dX9_isText_32 rfl (zb (by decide)).1 (Nat.zero_le _) (Nat.zero_le _) ⟨rfl, rfl⟩
      · intro hh
        refine ld_textsT (by decide) dX9_isText_23 g1 c ?_
        refine v_ifnull dX9_isText_24 ?_
        refine v_iconst dX9_isText_27 (by decide : _ = (1 : Int32)) ?_
        refine v_goto (tgt := 32) dX9_isText_28 (by decide) ?_
        obtain rfl := Option.some.inj hh
        exact v_zret dX9_isText_32 rfl (zb (by decide)).1 (Nat.zero_le _) (Nat.zero_le _) ⟨rfl, rfl⟩
def f_X9_hand  (S : St) (x1 : Int32) : Option (Int32 × St) :=
  if x1 < (1 : Int32) then
  (some ((-1 : Int32), S))
  else
  (if (9 : Int32) < x1 then
  (some ((-1 : Int32), S))
  else
  (if (gI S 805 0 0) < (4 : Int32) then
  (chk (inb (gI S 805 0 0) 4) (
  lt (sI S 804 0 ((gI S 805 0 0).toNatClampNeg) x1) fun S2 =>
  lt (sI S2 805 0 0 ((gI S2 805 0 0) + (1 : Int32))) fun S3 =>
  some ((gI S3 805 0 0) - (1 : Int32), S3)))
  else
  (some ((-1 : Int32), S))))
set_option maxRecDepth 100000 in
set_option maxHeartbeats 4000000 in
theorem t_X9_hand {l : Launch} {G : v_G} {S : St}   {x1 : Int32} {r : Int32 × St} (hh : f_X9_hand  S x1 = some r) : v_M l G yX9_hand cX9_hand 2 (some .int) 0 0 0 [.ref (v_B G + 0), .int x1] (lay G S) (QI r.1 (lay G r.2)) := by
  refine v_entry (by decide) (Nat.le_of_ble_eq_true rfl) ?_
  unfold f_X9_hand at hh
  show V l G yX9_hand cX9_hand 2 (some .int) (v_rm 0 0 0) (QI r.1 (lay G r.2)) 0 0 0 [(0, .ref (v_B G + 0)), (1, .int x1)] [] (lay G S)
  refine v_iload_n 1 dX9_hand_0 rfl rfl ?_
  refine v_iconst dX9_hand_1 (by decide : _ = (1 : Int32)) ?_
  refine v_icmp_lt (tgt := 22) dX9_hand_2 (by decide) (fun c => ?_) (fun c => ?_)
  · replace hh := (if_pos c).symm.trans hh
    refine v_iconst dX9_hand_22 (by decide : _ = (-1 : Int32)) ?_
    obtain rfl := Option.some.inj hh
    exact v_iret dX9_hand_23 rfl (Nat.zero_le _) (Nat.zero_le _) ⟨rfl, rfl⟩
  · replace hh := (if_neg c).symm.trans hh
    refine v_iload_n 1 dX9_hand_5 rfl rfl ?_
    refine v_bipush dX9_hand_6 (by decide : _ = (9 : Int32)) ?_
    refine v_icmp_gt (tgt := 22) dX9_hand_8 (by decide) (fun c => ?_) (fun c => ?_)
    · replace hh := (if_pos c).symm.trans hh
      refine v_iconst dX9_hand_22 (by decide : _ = (-1 : Int32)) ?_
      obtain rfl := Option.some.inj hh
      exact v_iret dX9_hand_23 rfl (Nat.zero_le _) (Nat.zero_le _) ⟨rfl, rfl⟩
    · replace hh := (if_neg c).symm.trans hh
      refine v_aload_n 0 dX9_hand_11 rfl rfl ?_
      refine r_RolledOut_now dX9_hand_12 fl_X9_12 ?_
      refine r_World_hands (by decide) dX9_hand_15 fl_X9_60 ?_
      refine v_iconst dX9_hand_18 (by decide : _ = (4 : Int32)) ?_
      refine v_icmp_lt (tgt := 24) dX9_hand_19 (by decide) (fun c => ?_) (fun c => ?_)
      · replace hh := (if_pos c).symm.trans hh
        refine v_aload_n 0 dX9_hand_24 rfl rfl ?_
        refine r_RolledOut_now dX9_hand_25 fl_X9_12 ?_
        refine r_World_strengths (by decide) dX9_hand_28 fl_X9_64 ?_
        refine v_aload_n 0 dX9_hand_31 rfl rfl ?_
        refine r_RolledOut_now dX9_hand_32 fl_X9_12 ?_
        refine r_World_hands (by decide) dX9_hand_35 fl_X9_60 ?_
        refine v_iload_n 1 dX9_hand_38 rfl rfl ?_
        obtain ⟨g1, hh⟩ := chk_some hh
        replace g1 := inb_in g1
        refine st_strengths (by decide) dX9_hand_39 g1 ?_
        replace hh := lt_of hh
        refine v_aload_n 0 dX9_hand_40 rfl rfl ?_
        refine r_RolledOut_now dX9_hand_41 fl_X9_12 ?_
        refine v_dup dX9_hand_44 rfl ?_
        refine r_World_hands (by decide) dX9_hand_45 fl_X9_60 ?_
        refine v_iconst dX9_hand_48 (by decide : _ = (1 : Int32)) ?_
        refine v_iadd dX9_hand_49 ?_
        refine w_World_hands (by decide) dX9_hand_50 fl_X9_60 ?_
        replace hh := lt_of hh
        refine v_aload_n 0 dX9_hand_53 rfl rfl ?_
        refine r_RolledOut_now dX9_hand_54 fl_X9_12 ?_
        refine r_World_hands (by decide) dX9_hand_57 fl_X9_60 ?_
        refine v_iconst dX9_hand_60 (by decide : _ = (1 : Int32)) ?_
        refine v_isub dX9_hand_61 ?_
        obtain rfl := Option.some.inj hh
        exact v_iret dX9_hand_62 rfl (Nat.zero_le _) (Nat.zero_le _) ⟨rfl, rfl⟩
      · replace hh := (if_neg c).symm.trans hh
        refine v_iconst dX9_hand_22 (by decide : _ = (-1 : Int32)) ?_
        obtain rfl := Option.some.inj hh
        exact v_iret dX9_hand_23 rfl (Nat.zero_le _) (Nat.zero_le _) ⟨rfl, rfl⟩
def f_X9_dough (N : Nat) (S : St) (x1 : Int32) (x2 : Int32) : Option (Int32 × St) :=
  bnd (f_X9_isCell S x1) fun q1 =>
 if q1 = (0 : Int32) then
  (some ((0 : Int32), S))
  else
  (if x2 < (0 : Int32) then
  (some ((0 : Int32), S))
  else
  (if x2 ≤ (999 : Int32) then
  (bnd (f_X8_tellDough N 0 S x1 x2) fun q2 =>
 some ((1 : Int32), q2))
  else
  (some ((0 : Int32), S))))
set_option maxRecDepth 100000 in
set_option maxHeartbeats 4000000 in
theorem t_X9_dough {l : Launch} {G : v_G} {N : Nat} {S : St}   {x1 : Int32} {x2 : Int32} {r : Int32 × St} (hh : f_X9_dough N S x1 x2 = some r) : v_M l G yX9_dough cX9_dough 3 (some .boolean) 1 0 0 [.ref (v_B G + 0), .int x1, .int x2] (lay G S) (QI r.1 (lay G r.2)) := by
  refine v_entry (by decide) (Nat.le_of_ble_eq_true rfl) ?_
  unfold f_X9_dough at hh
  show V l G yX9_dough cX9_dough 3 (some .boolean) (v_rm 1 0 0) (QI r.1 (lay G r.2)) 0 0 0 [(0, .ref (v_B G + 0)), (1, .int x1), (2, .int x2)] [] (lay G S)
  refine v_iload_n 1 dX9_dough_0 rfl rfl ?_
  obtain ⟨q1, eq1, hh⟩ := bnd_some hh
  refine v_callSi (t_X9_isCell eq1) dX9_dough_1 y_X9_isCell ml_X9_68 rfl rfl (Nat.le_of_ble_eq_true rfl) ⟨(Nat.le_of_ble_eq_true rfl), (Nat.le_of_ble_eq_true rfl)⟩ ⟨Nat.zero_le _, Nat.zero_le _⟩ ?_
  refine v_if_eq (tgt := 18) dX9_dough_4 (by decide) (fun c => ?_) (fun c => ?_)
  · replace hh := (if_pos c).symm.trans hh
    refine v_iconst dX9_dough_18 (by decide : _ = (0 : Int32)) ?_
    obtain rfl := Option.some.inj hh
    exact v_zret dX9_dough_19 rfl (zb (by decide)).1 (Nat.zero_le _) (Nat.zero_le _) ⟨rfl, rfl⟩
  · replace hh := (if_neg c).symm.trans hh
    refine v_iload_n 2 dX9_dough_7 rfl rfl ?_
    refine v_if_lt (tgt := 18) dX9_dough_8 (by decide) (fun c => ?_) (fun c => ?_)
    · replace hh := (if_pos c).symm.trans hh
      refine v_iconst dX9_dough_18 (by decide : _ = (0 : Int32)) ?_
      obtain rfl := Option.some.inj hh
      exact v_zret dX9_dough_19 rfl (zb (by decide)).1 (Nat.zero_le _) (Nat.zero_le _) ⟨rfl, rfl⟩
    · replace hh := (if_neg c).symm.trans hh
      refine v_iload_n 2 dX9_dough_11 rfl rfl ?_
      refine v_sipush dX9_dough_12 (by decide : _ = (999 : Int32)) ?_
      refine v_icmp_le (tgt := 20) dX9_dough_15 (by decide) (fun c => ?_) (fun c => ?_)
      · replace hh := (if_pos c).symm.trans hh
        refine v_aload_n 0 dX9_dough_20 rfl rfl ?_
        refine r_RolledOut_now dX9_dough_21 fl_X9_12 ?_
        refine v_iload_n 1 dX9_dough_24 rfl rfl ?_
        refine v_iload_n 2 dX9_dough_25 rfl rfl ?_
        obtain ⟨q2, eq2, hh⟩ := bnd_some hh
        refine v_callVv (t_X8_tellDough (by decide) eq2) dX9_dough_26 y_X8_tellDough ml_X9_72 (ci := 7) rfl rfl (e_World (by decide)) rfl rfl (Nat.le_of_ble_eq_true rfl) ⟨(Nat.le_of_ble_eq_true rfl), (Nat.le_of_ble_eq_true rfl)⟩ ⟨Nat.zero_le _, Nat.zero_le _⟩ ?_
        refine v_iconst dX9_dough_29 (by decide : _ = (1 : Int32)) ?_
        obtain rfl := Option.some.inj hh
        exact v_zret dX9_dough_30 rfl (zb (by decide)).1 (Nat.zero_le _) (Nat.zero_le _) ⟨rfl, rfl⟩
      · replace hh := (if_neg c).symm.trans hh
        refine v_iconst dX9_dough_18 (by decide : _ = (0 : Int32)) ?_
        obtain rfl := Option.some.inj hh
        exact v_zret dX9_dough_19 rfl (zb (by decide)).1 (Nat.zero_le _) (Nat.zero_le _) ⟨rfl, rfl⟩
def f_X9_town (N : Nat) (S : St) (x1 : Int32) : Option (Int32 × St) :=
  bnd (f_X9_isCell S x1) fun q1 =>
 if q1 = (0 : Int32) then
  (some ((-1 : Int32), S))
  else
  (if (gI S 806 0 0) < (6 : Int32) then
  (bnd (f_X8_tellTown N 0 S x1) fun q2 =>
 some ((gI q2 806 0 0) - (1 : Int32), q2))
  else
  (some ((-1 : Int32), S)))
set_option maxRecDepth 100000 in
set_option maxHeartbeats 4000000 in
theorem t_X9_town {l : Launch} {G : v_G} {N : Nat} {S : St}   {x1 : Int32} {r : Int32 × St} (hh : f_X9_town N S x1 = some r) : v_M l G yX9_town cX9_town 2 (some .int) 1 0 0 [.ref (v_B G + 0), .int x1] (lay G S) (QI r.1 (lay G r.2)) := by
  refine v_entry (by decide) (Nat.le_of_ble_eq_true rfl) ?_
  unfold f_X9_town at hh
  show V l G yX9_town cX9_town 2 (some .int) (v_rm 1 0 0) (QI r.1 (lay G r.2)) 0 0 0 [(0, .ref (v_B G + 0)), (1, .int x1)] [] (lay G S)
  refine v_iload_n 1 dX9_town_0 rfl rfl ?_
  obtain ⟨q1, eq1, hh⟩ := bnd_some hh
  refine v_callSi (t_X9_isCell eq1) dX9_town_1 y_X9_isCell ml_X9_68 rfl rfl (Nat.le_of_ble_eq_true rfl) ⟨(Nat.le_of_ble_eq_true rfl), (Nat.le_of_ble_eq_true rfl)⟩ ⟨Nat.zero_le _, Nat.zero_le _⟩ ?_
  refine v_if_eq (tgt := 19) dX9_town_4 (by decide) (fun c => ?_) (fun c => ?_)
  · replace hh := (if_pos c).symm.trans hh
    refine v_iconst dX9_town_19 (by decide : _ = (-1 : Int32)) ?_
    obtain rfl := Option.some.inj hh
    exact v_iret dX9_town_20 rfl (Nat.zero_le _) (Nat.zero_le _) ⟨rfl, rfl⟩
  · replace hh := (if_neg c).symm.trans hh
    refine v_aload_n 0 dX9_town_7 rfl rfl ?_
    refine r_RolledOut_now dX9_town_8 fl_X9_12 ?_
    refine r_World_towns (by decide) dX9_town_11 fl_X9_76 ?_
    refine v_bipush dX9_town_14 (by decide : _ = (6 : Int32)) ?_
    refine v_icmp_lt (tgt := 21) dX9_town_16 (by decide) (fun c => ?_) (fun c => ?_)
    · replace hh := (if_pos c).symm.trans hh
      refine v_aload_n 0 dX9_town_21 rfl rfl ?_
      refine r_RolledOut_now dX9_town_22 fl_X9_12 ?_
      refine v_iload_n 1 dX9_town_25 rfl rfl ?_
      obtain ⟨q2, eq2, hh⟩ := bnd_some hh
      refine v_callVv (t_X8_tellTown (by decide) eq2) dX9_town_26 y_X8_tellTown ml_X9_79 (ci := 7) rfl rfl (e_World (by decide)) rfl rfl (Nat.le_of_ble_eq_true rfl) ⟨(Nat.le_of_ble_eq_true rfl), (Nat.le_of_ble_eq_true rfl)⟩ ⟨Nat.zero_le _, Nat.zero_le _⟩ ?_
      refine v_aload_n 0 dX9_town_29 rfl rfl ?_
      refine r_RolledOut_now dX9_town_30 fl_X9_12 ?_
      refine r_World_towns (by decide) dX9_town_33 fl_X9_76 ?_
      refine v_iconst dX9_town_36 (by decide : _ = (1 : Int32)) ?_
      refine v_isub dX9_town_37 ?_
      obtain rfl := Option.some.inj hh
      exact v_iret dX9_town_38 rfl (Nat.zero_le _) (Nat.zero_le _) ⟨rfl, rfl⟩
    · replace hh := (if_neg c).symm.trans hh
      refine v_iconst dX9_town_19 (by decide : _ = (-1 : Int32)) ?_
      obtain rfl := Option.some.inj hh
      exact v_iret dX9_town_20 rfl (Nat.zero_le _) (Nat.zero_le _) ⟨rfl, rfl⟩
def f_X9_feed (N : Nat) (S : St) (x1 : Int32) (x2 : Int32) (x3 : Int32) (x4 : Int32) (x5 : Int32) : Option (Int32 × St) :=
  bnd (f_X5_hasRoomFor S (20 : Int32)) fun q1 =>
 if q1 = (0 : Int32) then
  (some ((-1 : Int32), S))
  else
  (bnd (f_X5_takeFour N S x1) fun q2 =>
 bnd (f_X5_takeFour N q2 x2) fun q3 =>
 bnd (f_X5_takeFour N q3 x3) fun q4 =>
 bnd (f_X5_takeFour N q4 x4) fun q5 =>
 bnd (f_X5_takeFour N q5 x5) fun q6 =>
 some (gI q6 501 0 0, q6))
set_option maxRecDepth 100000 in
set_option maxHeartbeats 4000000 in
theorem t_X9_feed {l : Launch} {G : v_G} {N : Nat} {S : St}   {x1 : Int32} {x2 : Int32} {x3 : Int32} {x4 : Int32} {x5 : Int32} {r : Int32 × St} (hh : f_X9_feed N S x1 x2 x3 x4 x5 = some r) : v_M l G yX9_feed cX9_feed 6 (some .int) 1 0 0 [.ref (v_B G + 0), .int x1, .int x2, .int x3, .int x4, .int x5] (lay G S) (QI r.1 (lay G r.2)) := by
  refine v_entry (by decide) (Nat.le_of_ble_eq_true rfl) ?_
  unfold f_X9_feed at hh
  show V l G yX9_feed cX9_feed 6 (some .int) (v_rm 1 0 0) (QI r.1 (lay G r.2)) 0 0 0 [(0, .ref (v_B G + 0)), (1, .int x1), (2, .int x2), (3, .int x3), (4, .int x4), (5, .int x5)] [] (lay G S)
  refine v_aload_n 0 dX9_feed_0 rfl rfl ?_
  refine r_RolledOut_tape dX9_feed_1 fl_X9_47 ?_
  refine v_bipush dX9_feed_4 (by decide : _ = (20 : Int32)) ?_
  obtain ⟨q1, eq1, hh⟩ := bnd_some hh
  refine v_callVi (t_X5_hasRoomFor eq1) dX9_feed_6 y_X5_hasRoomFor ml_X9_83 (ci := 4) rfl rfl (e_Tape) rfl rfl (Nat.le_of_ble_eq_true rfl) ⟨(Nat.le_of_ble_eq_true rfl), (Nat.le_of_ble_eq_true rfl)⟩ ⟨Nat.zero_le _, Nat.zero_le _⟩ ?_
  refine v_if_ne (tgt := 14) dX9_feed_9 (by decide) (fun c => ?_) (fun c => ?_)
  · replace hh := (if_neg c).symm.trans hh
    refine v_aload_n 0 dX9_feed_14 rfl rfl ?_
    refine r_RolledOut_tape dX9_feed_15 fl_X9_47 ?_
    refine v_iload_n 1 dX9_feed_18 rfl rfl ?_
    obtain ⟨q2, eq2, hh⟩ := bnd_some hh
    refine v_callVv (t_X5_takeFour eq2) dX9_feed_19 y_X5_takeFour ml_X9_86 (ci := 4) rfl rfl (e_Tape) rfl rfl (Nat.le_of_ble_eq_true rfl) ⟨(Nat.le_of_ble_eq_true rfl), (Nat.le_of_ble_eq_true rfl)⟩ ⟨Nat.zero_le _, Nat.zero_le _⟩ ?_
    refine v_aload_n 0 dX9_feed_22 rfl rfl ?_
    refine r_RolledOut_tape dX9_feed_23 fl_X9_47 ?_
    refine v_iload_n 2 dX9_feed_26 rfl rfl ?_
    obtain ⟨q3, eq3, hh⟩ := bnd_some hh
    refine v_callVv (t_X5_takeFour eq3) dX9_feed_27 y_X5_takeFour ml_X9_86 (ci := 4) rfl rfl (e_Tape) rfl rfl (Nat.le_of_ble_eq_true rfl) ⟨(Nat.le_of_ble_eq_true rfl), (Nat.le_of_ble_eq_true rfl)⟩ ⟨Nat.zero_le _, Nat.zero_le _⟩ ?_
    refine v_aload_n 0 dX9_feed_30 rfl rfl ?_
    refine r_RolledOut_tape dX9_feed_31 fl_X9_47 ?_
    refine v_iload_n 3 dX9_feed_34 rfl rfl ?_
    obtain ⟨q4, eq4, hh⟩ := bnd_some hh
    refine v_callVv (t_X5_takeFour eq4) dX9_feed_35 y_X5_takeFour ml_X9_86 (ci := 4) rfl rfl (e_Tape) rfl rfl (Nat.le_of_ble_eq_true rfl) ⟨(Nat.le_of_ble_eq_true rfl), (Nat.le_of_ble_eq_true rfl)⟩ ⟨Nat.zero_le _, Nat.zero_le _⟩ ?_
    refine v_aload_n 0 dX9_feed_38 rfl rfl ?_
    refine r_RolledOut_tape dX9_feed_39 fl_X9_47 ?_
    refine v_iload 4 dX9_feed_42 rfl ?_
    obtain ⟨q5, eq5, hh⟩ := bnd_some hh
    refine v_callVv (t_X5_takeFour eq5) dX9_feed_44 y_X5_takeFour ml_X9_86 (ci := 4) rfl rfl (e_Tape) rfl rfl (Nat.le_of_ble_eq_true rfl) ⟨(Nat.le_of_ble_eq_true rfl), (Nat.le_of_ble_eq_true rfl)⟩ ⟨Nat.zero_le _, Nat.zero_le _⟩ ?_
    refine v_aload_n 0 dX9_feed_47 rfl rfl ?_
    refine r_RolledOut_tape dX9_feed_48 fl_X9_47 ?_
    refine v_iload 5 dX9_feed_51 rfl ?_
    obtain ⟨q6, eq6, hh⟩ := bnd_some hh
    refine v_callVv (t_X5_takeFour eq6) dX9_feed_53 y_X5_takeFour ml_X9_86 (ci := 4) rfl rfl (e_Tape) rfl rfl (Nat.le_of_ble_eq_true rfl) ⟨(Nat.le_of_ble_eq_true rfl), (Nat.le_of_ble_eq_true rfl)⟩ ⟨Nat.zero_le _, Nat.zero_le _⟩ ?_
    refine v_aload_n 0 dX9_feed_56 rfl rfl ?_
    refine r_RolledOut_tape dX9_feed_57 fl_X9_47 ?_
    refine r_Tape_length dX9_feed_60 fl_X9_89 ?_
    obtain rfl := Option.some.inj hh
    exact v_iret dX9_feed_63 rfl (Nat.zero_le _) (Nat.zero_le _) ⟨rfl, rfl⟩
  · replace hh := (if_pos c).symm.trans hh
    refine v_iconst dX9_feed_12 (by decide : _ = (-1 : Int32)) ?_
    obtain rfl := Option.some.inj hh
    exact v_iret dX9_feed_13 rfl (Nat.zero_le _) (Nat.zero_le _) ⟨rfl, rfl⟩
def f_X9_end  (S : St) (x1 : Int32) : Option (Int32 × St) :=
  if x1 < (0 : Int32) then
  (some ((-1 : Int32), S))
  else
  (if x1 ≤ (gI S 501 0 0) then
  (lt (sI S 501 0 0 x1) fun S1 =>
  some (x1, S1))
  else
  (some ((-1 : Int32), S)))
set_option maxRecDepth 100000 in
set_option maxHeartbeats 4000000 in
theorem t_X9_end {l : Launch} {G : v_G} {S : St}   {x1 : Int32} {r : Int32 × St} (hh : f_X9_end  S x1 = some r) : v_M l G yX9_end cX9_end 2 (some .int) 0 0 0 [.ref (v_B G + 0), .int x1] (lay G S) (QI r.1 (lay G r.2)) := by
  refine v_entry (by decide) (Nat.le_of_ble_eq_true rfl) ?_
  unfold f_X9_end at hh
  show V l G yX9_end cX9_end 2 (some .int) (v_rm 0 0 0) (QI r.1 (lay G r.2)) 0 0 0 [(0, .ref (v_B G + 0)), (1, .int x1)] [] (lay G S)
  refine v_iload_n 1 dX9_end_0 rfl rfl ?_
  refine v_if_lt (tgt := 15) dX9_end_1 (by decide) (fun c => ?_) (fun c => ?_)
  · replace hh := (if_pos c).symm.trans hh
    refine v_iconst dX9_end_15 (by decide : _ = (-1 : Int32)) ?_
    obtain rfl := Option.some.inj hh
    exact v_iret dX9_end_16 rfl (Nat.zero_le _) (Nat.zero_le _) ⟨rfl, rfl⟩
  · replace hh := (if_neg c).symm.trans hh
    refine v_iload_n 1 dX9_end_4 rfl rfl ?_
    refine v_aload_n 0 dX9_end_5 rfl rfl ?_
    refine r_RolledOut_tape dX9_end_6 fl_X9_47 ?_
    refine r_Tape_length dX9_end_9 fl_X9_89 ?_
    refine v_icmp_le (tgt := 17) dX9_end_12 (by decide) (fun c => ?_) (fun c => ?_)
    · replace hh := (if_pos c).symm.trans hh
      refine v_aload_n 0 dX9_end_17 rfl rfl ?_
      refine r_RolledOut_tape dX9_end_18 fl_X9_47 ?_
      refine v_iload_n 1 dX9_end_21 rfl rfl ?_
      refine w_Tape_length dX9_end_22 fl_X9_89 ?_
      replace hh := lt_of hh
      refine v_iload_n 1 dX9_end_25 rfl rfl ?_
      obtain rfl := Option.some.inj hh
      exact v_iret dX9_end_26 rfl (Nat.zero_le _) (Nat.zero_le _) ⟨rfl, rfl⟩
    · replace hh := (if_neg c).symm.trans hh
      refine v_iconst dX9_end_15 (by decide : _ = (-1 : Int32)) ?_
      obtain rfl := Option.some.inj hh
      exact v_iret dX9_end_16 rfl (Nat.zero_le _) (Nat.zero_le _) ⟨rfl, rfl⟩
def f_X9_fault  (S : St) (x1 : Int32) : Option (Int32) :=
  if (gI S 101 0 0) = (0 : Int32) then
  (some (-1 : Int32))
  else
  (if x1 = (0 : Int32) then
  (some (gI S 102 0 0))
  else
  (if x1 = (1 : Int32) then
  (some (gI S 103 0 0))
  else
  (some (-1 : Int32))))
set_option maxRecDepth 100000 in
set_option maxHeartbeats 4000000 in
theorem t_X9_fault {l : Launch} {G : v_G} {S : St}   {x1 : Int32} {r : Int32} (hh : f_X9_fault  S x1 = some r) : v_M l G yX9_fault cX9_fault 2 (some .int) 0 0 0 [.ref (v_B G + 0), .int x1] (lay G S) (QI r (lay G S)) := by
  refine v_entry (by decide) (Nat.le_of_ble_eq_true rfl) ?_
  unfold f_X9_fault at hh
  show V l G yX9_fault cX9_fault 2 (some .int) (v_rm 0 0 0) (QI r (lay G S)) 0 0 0 [(0, .ref (v_B G + 0)), (1, .int x1)] [] (lay G S)
  refine v_aload_n 0 dX9_fault_0 rfl rfl ?_
  refine r_RolledOut_reader dX9_fault_1 fl_X9_56 ?_
  refine r_Reader_hasRead dX9_fault_4 fl_X9_103 ?_
  refine v_if_ne (tgt := 12) dX9_fault_7 (by decide) (fun c => ?_) (fun c => ?_)
  · replace hh := (if_neg c).symm.trans hh
    refine v_iload_n 1 dX9_fault_12 rfl rfl ?_
    refine v_if_ne (tgt := 26) dX9_fault_13 (by decide) (fun c => ?_) (fun c => ?_)
    · replace hh := (if_neg c).symm.trans hh
      refine v_iload_n 1 dX9_fault_26 rfl rfl ?_
      refine v_iconst dX9_fault_27 (by decide : _ = (1 : Int32)) ?_
      refine v_icmp_ne (tgt := 41) dX9_fault_28 (by decide) (fun c => ?_) (fun c => ?_)
      · replace hh := (if_neg c).symm.trans hh
        refine v_iconst dX9_fault_41 (by decide : _ = (-1 : Int32)) ?_
        obtain rfl := Option.some.inj hh
        exact v_iret dX9_fault_42 rfl (Nat.zero_le _) (Nat.zero_le _) ⟨rfl, rfl⟩
      · replace hh := (if_pos c).symm.trans hh
        refine v_aload_n 0 dX9_fault_31 rfl rfl ?_
        refine r_RolledOut_reader dX9_fault_32 fl_X9_56 ?_
        refine r_Reader_faultAt dX9_fault_35 fl_X9_110 ?_
        refine v_goto (tgt := 42) dX9_fault_38 (by decide) ?_
        obtain rfl := Option.some.inj hh
        exact v_iret dX9_fault_42 rfl (Nat.zero_le _) (Nat.zero_le _) ⟨rfl, rfl⟩
    · replace hh := (if_pos c).symm.trans hh
      refine v_aload_n 0 dX9_fault_16 rfl rfl ?_
      refine r_RolledOut_reader dX9_fault_17 fl_X9_56 ?_
      refine r_Reader_fault dX9_fault_20 fl_X9_107 ?_
      refine v_goto (tgt := 42) dX9_fault_23 (by decide) ?_
      obtain rfl := Option.some.inj hh
      exact v_iret dX9_fault_42 rfl (Nat.zero_le _) (Nat.zero_le _) ⟨rfl, rfl⟩
  · replace hh := (if_pos c).symm.trans hh
    refine v_iconst dX9_fault_10 (by decide : _ = (-1 : Int32)) ?_
    obtain rfl := Option.some.inj hh
    exact v_iret dX9_fault_11 rfl (Nat.zero_le _) (Nat.zero_le _) ⟨rfl, rfl⟩
def f_X9_by  (S : St) (x1 : Int32) : Option (Int32 × St) :=
  if x1 = (-1 : Int32) then
  (lt (sI S 809 0 0 x1) fun S1 =>
  some ((1 : Int32), S1))
  else
  (bnd (f_X9_isText S x1) fun q2 =>
 if q2 = (0 : Int32) then
  (some ((0 : Int32), S))
  else
  (lt (sI S 809 0 0 x1) fun S3 =>
  some ((1 : Int32), S3)))
set_option maxRecDepth 100000 in
set_option maxHeartbeats 4000000 in
theorem t_X9_by {l : Launch} {G : v_G} {S : St}   {x1 : Int32} {r : Int32 × St} (hh : f_X9_by  S x1 = some r) : v_M l G yX9_by cX9_by 2 (some .boolean) 1 0 0 [.ref (v_B G + 0), .int x1] (lay G S) (QI r.1 (lay G r.2)) := by
  refine v_entry (by decide) (Nat.le_of_ble_eq_true rfl) ?_
  unfold f_X9_by at hh
  show V l G yX9_by cX9_by 2 (some .boolean) (v_rm 1 0 0) (QI r.1 (lay G r.2)) 0 0 0 [(0, .ref (v_B G + 0)), (1, .int x1)] [] (lay G S)
  refine v_iload_n 1 dX9_by_0 rfl rfl ?_
  refine v_iconst dX9_by_1 (by decide : _ = (-1 : Int32)) ?_
  refine v_icmp_eq (tgt := 15) dX9_by_2 (by decide) (fun c => ?_) (fun c => ?_)
  · replace hh := (if_pos c).symm.trans hh
    refine v_aload_n 0 dX9_by_15 rfl rfl ?_
    refine r_RolledOut_now dX9_by_16 fl_X9_12 ?_
    refine v_iload_n 1 dX9_by_19 rfl rfl ?_
    refine w_World_law (by decide) dX9_by_20 fl_X9_116 ?_
    replace hh := lt_of hh
    refine v_iconst dX9_by_23 (by decide : _ = (1 : Int32)) ?_
    obtain rfl := Option.some.inj hh
    exact v_zret dX9_by_24 rfl (zb (by decide)).1 (Nat.zero_le _) (Nat.zero_le _) ⟨rfl, rfl⟩
  · replace hh := (if_neg c).symm.trans hh
    refine v_aload_n 0 dX9_by_5 rfl rfl ?_
    refine v_iload_n 1 dX9_by_6 rfl rfl ?_
    obtain ⟨q2, eq2, hh⟩ := bnd_some hh
    refine v_callVi (t_X9_isText eq2) dX9_by_7 y_X9_isText ml_X9_113 (ci := 8) rfl rfl (e_RolledOut) rfl rfl (Nat.le_of_ble_eq_true rfl) ⟨(Nat.le_of_ble_eq_true rfl), (Nat.le_of_ble_eq_true rfl)⟩ ⟨Nat.zero_le _, Nat.zero_le _⟩ ?_
    refine v_if_ne (tgt := 15) dX9_by_10 (by decide) (fun c => ?_) (fun c => ?_)
    · replace hh := (if_neg c).symm.trans hh
      refine v_aload_n 0 dX9_by_15 rfl rfl ?_
      refine r_RolledOut_now dX9_by_16 fl_X9_12 ?_
      refine v_iload_n 1 dX9_by_19 rfl rfl ?_
      refine w_World_law (by decide) dX9_by_20 fl_X9_116 ?_
      replace hh := lt_of hh
      refine v_iconst dX9_by_23 (by decide : _ = (1 : Int32)) ?_
      obtain rfl := Option.some.inj hh
      exact v_zret dX9_by_24 rfl (zb (by decide)).1 (Nat.zero_le _) (Nat.zero_le _) ⟨rfl, rfl⟩
    · replace hh := (if_pos c).symm.trans hh
      refine v_iconst dX9_by_13 (by decide : _ = (0 : Int32)) ?_
      obtain rfl := Option.some.inj hh
      exact v_zret dX9_by_14 rfl (zb (by decide)).1 (Nat.zero_le _) (Nat.zero_le _) ⟨rfl, rfl⟩
def f_X9_stroke (N : Nat) (S : St) (x1 : Int32) (x2 : Int32) (x3 : Int32) : Option (Int32 × St) :=
  bnd (f_X9_isHand S x1) fun q1 =>
 if q1 = (0 : Int32) then
  (some ((-1 : Int32), S))
  else
  (bnd (f_X9_isCell S x2) fun q2 =>
 if q2 = (0 : Int32) then
  (some ((-1 : Int32), S))
  else
  (chk (inb x2 12) (
  if (0 : Int32) < (gI S 400 0 x2.toNatClampNeg) then
  (bnd (f_X8_keepStep 0 S ) fun q4 =>
 bnd (f_X2_push N 0 q4 x1 x2 x3) fun q5 =>
 some (q5.1, q5.2))
  else
  (some ((-1 : Int32), S)))))
set_option maxRecDepth 100000 in
set_option maxHeartbeats 4000000 in
theorem t_X9_stroke {l : Launch} {G : v_G} {N : Nat} {S : St}   {x1 : Int32} {x2 : Int32} {x3 : Int32} {r : Int32 × St} (hh : f_X9_stroke N S x1 x2 x3 = some r) : v_M l G yX9_stroke cX9_stroke 4 (some .int) 4 0 0 [.ref (v_B G + 0), .int x1, .int x2, .int x3] (lay G S) (QI r.1 (lay G r.2)) := by
  refine v_entry (by decide) (Nat.le_of_ble_eq_true rfl) ?_
  unfold f_X9_stroke at hh
  show V l G yX9_stroke cX9_stroke 4 (some .int) (v_rm 4 0 0) (QI r.1 (lay G r.2)) 0 0 0 [(0, .ref (v_B G + 0)), (1, .int x1), (2, .int x2), (3, .int x3)] [] (lay G S)
  refine v_aload_n 0 dX9_stroke_0 rfl rfl ?_
  refine v_iload_n 1 dX9_stroke_1 rfl rfl ?_
  obtain ⟨q1, eq1, hh⟩ := bnd_some hh
  refine v_callVi (t_X9_isHand eq1) dX9_stroke_2 y_X9_isHand ml_X9_119 (ci := 8) rfl rfl (e_RolledOut) rfl rfl (Nat.le_of_ble_eq_true rfl) ⟨(Nat.le_of_ble_eq_true rfl), (Nat.le_of_ble_eq_true rfl)⟩ ⟨Nat.zero_le _, Nat.zero_le _⟩ ?_
  refine v_if_eq (tgt := 30) dX9_stroke_5 (by decide) (fun c => ?_) (fun c => ?_)
  · replace hh := (if_pos c).symm.trans hh
    refine v_iconst dX9_stroke_30 (by decide : _ = (-1 : Int32)) ?_
    obtain rfl := Option.some.inj hh
    exact v_iret dX9_stroke_31 rfl (Nat.zero_le _) (Nat.zero_le _) ⟨rfl, rfl⟩
  · replace hh := (if_neg c).symm.trans hh
    refine v_iload_n 2 dX9_stroke_8 rfl rfl ?_
    obtain ⟨q2, eq2, hh⟩ := bnd_some hh
    refine v_callSi (t_X9_isCell eq2) dX9_stroke_9 y_X9_isCell ml_X9_68 rfl rfl (Nat.le_of_ble_eq_true rfl) ⟨(Nat.le_of_ble_eq_true rfl), (Nat.le_of_ble_eq_true rfl)⟩ ⟨Nat.zero_le _, Nat.zero_le _⟩ ?_
    refine v_if_eq (tgt := 30) dX9_stroke_12 (by decide) (fun c => ?_) (fun c => ?_)
    · replace hh := (if_pos c).symm.trans hh
      refine v_iconst dX9_stroke_30 (by decide : _ = (-1 : Int32)) ?_
      obtain rfl := Option.some.inj hh
      exact v_iret dX9_stroke_31 rfl (Nat.zero_le _) (Nat.zero_le _) ⟨rfl, rfl⟩
    · replace hh := (if_neg c).symm.trans hh
      refine v_aload_n 0 dX9_stroke_15 rfl rfl ?_
      refine r_RolledOut_now dX9_stroke_16 fl_X9_12 ?_
      refine r_World_sheet (by decide) dX9_stroke_19 fl_X9_122 ?_
      refine r_Sheet_cells (by decide) dX9_stroke_22 fl_X9_126 ?_
      refine v_iload_n 2 dX9_stroke_25 rfl rfl ?_
      obtain ⟨g3, hh⟩ := chk_some hh
      replace g3 := inb_in g3
      refine ld_cells (by decide) dX9_stroke_26 g3 ?_
      refine v_if_gt (tgt := 32) dX9_stroke_27 (by decide) (fun c => ?_) (fun c => ?_)
      · replace hh := (if_pos c).symm.trans hh
        refine v_aload_n 0 dX9_stroke_32 rfl rfl ?_
        refine r_RolledOut_now dX9_stroke_33 fl_X9_12 ?_
        obtain ⟨q4, eq4, hh⟩ := bnd_some hh
        refine v_callVv (t_X8_keepStep (by decide) eq4) dX9_stroke_36 y_X8_keepStep ml_X9_131 (ci := 7) rfl rfl (e_World (by decide)) rfl rfl (Nat.le_of_ble_eq_true rfl) ⟨(Nat.le_of_ble_eq_true rfl), (Nat.le_of_ble_eq_true rfl)⟩ ⟨Nat.zero_le _, Nat.zero_le _⟩ ?_
        refine v_aload_n 0 dX9_stroke_39 rfl rfl ?_
        refine r_RolledOut_rules dX9_stroke_40 fl_X9_24 ?_
        refine v_aload_n 0 dX9_stroke_43 rfl rfl ?_
        refine r_RolledOut_now dX9_stroke_44 fl_X9_12 ?_
        refine r_World_sheet (by decide) dX9_stroke_47 fl_X9_122 ?_
        refine v_iload_n 1 dX9_stroke_50 rfl rfl ?_
        refine v_iload_n 2 dX9_stroke_51 rfl rfl ?_
        refine v_iload_n 3 dX9_stroke_52 rfl rfl ?_
        obtain ⟨q5, eq5, hh⟩ := bnd_some hh
        refine v_callVi (t_X2_push (by decide) eq5) dX9_stroke_53 y_X2_push ml_X9_134 (ci := 1) rfl rfl (e_Rules) rfl rfl (Nat.le_of_ble_eq_true rfl) ⟨(Nat.le_of_ble_eq_true rfl), (Nat.le_of_ble_eq_true rfl)⟩ ⟨Nat.zero_le _, Nat.zero_le _⟩ ?_
        obtain rfl := Option.some.inj hh
        exact v_iret dX9_stroke_56 rfl (Nat.zero_le _) (Nat.zero_le _) ⟨rfl, rfl⟩
      · replace hh := (if_neg c).symm.trans hh
        refine v_iconst dX9_stroke_30 (by decide : _ = (-1 : Int32)) ?_
        obtain rfl := Option.some.inj hh
        exact v_iret dX9_stroke_31 rfl (Nat.zero_le _) (Nat.zero_le _) ⟨rfl, rfl⟩
def f_X9_trim  (S : St)  : Option (Int32 × St) :=
  lt (gI S 405 0 0) fun v1 =>
  if (0 : Int32) < v1 then
  (bnd (f_X8_keepStep 0 S ) fun q2 =>
 bnd (f_X4_cutOff 0 q2 ) fun q3 =>
 some (v1, q3))
  else
  (some ((-1 : Int32), S))
set_option maxRecDepth 100000 in
set_option maxHeartbeats 4000000 in
theorem t_X9_trim {l : Launch} {G : v_G} {S : St}    {r : Int32 × St} (hh : f_X9_trim  S  = some r) : v_M l G yX9_trim cX9_trim 2 (some .int) 4 0 0 [.ref (v_B G + 0)] (lay G S) (QI r.1 (lay G r.2)) := by
  refine v_entry (by decide) (Nat.le_of_ble_eq_true rfl) ?_
  unfold f_X9_trim at hh
  show V l G yX9_trim cX9_trim 2 (some .int) (v_rm 4 0 0) (QI r.1 (lay G r.2)) 0 0 0 [(0, .ref (v_B G + 0))] [] (lay G S)
  refine v_aload_n 0 dX9_trim_0 rfl rfl ?_
  refine r_RolledOut_now dX9_trim_1 fl_X9_12 ?_
  refine r_World_sheet (by decide) dX9_trim_4 fl_X9_122 ?_
  refine r_Sheet_edge (by decide) dX9_trim_7 fl_X9_138 ?_
  refine v_istore_n dX9_trim_10 rfl (by decide) rfl ?_
  replace hh := lt_of hh
  refine v_iload_n 0 dX9_trim_11 rfl rfl ?_
  refine v_if_gt (tgt := 17) dX9_trim_12 (by decide) (fun c => ?_) (fun c => ?_)
  · replace hh := (if_pos c).symm.trans hh
    refine v_aload_n 1 dX9_trim_17 rfl rfl ?_
    refine r_RolledOut_now dX9_trim_18 fl_X9_12 ?_
    obtain ⟨q2, eq2, hh⟩ := bnd_some hh
    refine v_callVv (t_X8_keepStep (by decide) eq2) dX9_trim_21 y_X8_keepStep ml_X9_131 (ci := 7) rfl rfl (e_World (by decide)) rfl rfl (Nat.le_of_ble_eq_true rfl) ⟨(Nat.le_of_ble_eq_true rfl), (Nat.le_of_ble_eq_true rfl)⟩ ⟨Nat.zero_le _, Nat.zero_le _⟩ ?_
    refine v_aload_n 1 dX9_trim_24 rfl rfl ?_
    refine r_RolledOut_now dX9_trim_25 fl_X9_12 ?_
    refine r_World_sheet (by decide) dX9_trim_28 fl_X9_122 ?_
    obtain ⟨q3, eq3, hh⟩ := bnd_some hh
    refine v_callVv (t_X4_cutOff (by decide) eq3) dX9_trim_31 y_X4_cutOff ml_X9_141 (ci := 3) rfl rfl (e_Sheet (by decide)) rfl rfl (Nat.le_of_ble_eq_true rfl) ⟨(Nat.le_of_ble_eq_true rfl), (Nat.le_of_ble_eq_true rfl)⟩ ⟨Nat.zero_le _, Nat.zero_le _⟩ ?_
    refine v_iload_n 0 dX9_trim_34 rfl rfl ?_
    obtain rfl := Option.some.inj hh
    exact v_iret dX9_trim_35 rfl (Nat.zero_le _) (Nat.zero_le _) ⟨rfl, rfl⟩
  · replace hh := (if_neg c).symm.trans hh
    refine v_iconst dX9_trim_15 (by decide : _ = (-1 : Int32)) ?_
    obtain rfl := Option.some.inj hh
    exact v_iret dX9_trim_16 rfl (Nat.zero_le _) (Nat.zero_le _) ⟨rfl, rfl⟩
def f_X9_patch  (S : St) (x1 : Int32) (x2 : Int32) : Option (Int32 × St) :=
  bnd (f_X9_isCell S x1) fun q1 =>
 if q1 = (0 : Int32) then
  (some ((0 : Int32), S))
  else
  (if x2 < (1 : Int32) then
  (some ((0 : Int32), S))
  else
  (if (99 : Int32) < x2 then
  (some ((0 : Int32), S))
  else
  (bnd (f_X4_canMend 0 S x1 x2) fun q2 =>
 if q2 = (0 : Int32) then
  (some ((0 : Int32), S))
  else
  (bnd (f_X8_keepStep 0 S ) fun q3 =>
 bnd (f_X4_mend 0 q3 x1 x2) fun q4 =>
 some ((1 : Int32), q4)))))
set_option maxRecDepth 100000 in
set_option maxHeartbeats 4000000 in
theorem t_X9_patch {l : Launch} {G : v_G} {S : St}   {x1 : Int32} {x2 : Int32} {r : Int32 × St} (hh : f_X9_patch  S x1 x2 = some r) : v_M l G yX9_patch cX9_patch 3 (some .boolean) 4 0 0 [.ref (v_B G + 0), .int x1, .int x2] (lay G S) (QI r.1 (lay G r.2)) := by
  refine v_entry (by decide) (Nat.le_of_ble_eq_true rfl) ?_
  unfold f_X9_patch at hh
  show V l G yX9_patch cX9_patch 3 (some .boolean) (v_rm 4 0 0) (QI r.1 (lay G r.2)) 0 0 0 [(0, .ref (v_B G + 0)), (1, .int x1), (2, .int x2)] [] (lay G S)
  refine v_iload_n 1 dX9_patch_0 rfl rfl ?_
  obtain ⟨q1, eq1, hh⟩ := bnd_some hh
  refine v_callSi (t_X9_isCell eq1) dX9_patch_1 y_X9_isCell ml_X9_68 rfl rfl (Nat.le_of_ble_eq_true rfl) ⟨(Nat.le_of_ble_eq_true rfl), (Nat.le_of_ble_eq_true rfl)⟩ ⟨Nat.zero_le _, Nat.zero_le _⟩ ?_
  refine v_if_eq (tgt := 33) dX9_patch_4 (by decide) (fun c => ?_) (fun c => ?_)
  · replace hh := (if_pos c).symm.trans hh
    refine v_iconst dX9_patch_33 (by decide : _ = (0 : Int32)) ?_
    obtain rfl := Option.some.inj hh
    exact v_zret dX9_patch_34 rfl (zb (by decide)).1 (Nat.zero_le _) (Nat.zero_le _) ⟨rfl, rfl⟩
  · replace hh := (if_neg c).symm.trans hh
    refine v_iload_n 2 dX9_patch_7 rfl rfl ?_
    refine v_iconst dX9_patch_8 (by decide : _ = (1 : Int32)) ?_
    refine v_icmp_lt (tgt := 33) dX9_patch_9 (by decide) (fun c => ?_) (fun c => ?_)
    · replace hh := (if_pos c).symm.trans hh
      refine v_iconst dX9_patch_33 (by decide : _ = (0 : Int32)) ?_
      obtain rfl := Option.some.inj hh
      exact v_zret dX9_patch_34 rfl (zb (by decide)).1 (Nat.zero_le _) (Nat.zero_le _) ⟨rfl, rfl⟩
    · replace hh := (if_neg c).symm.trans hh
      refine v_iload_n 2 dX9_patch_12 rfl rfl ?_
      refine v_bipush dX9_patch_13 (by decide : _ = (99 : Int32)) ?_
      refine v_icmp_gt (tgt := 33) dX9_patch_15 (by decide) (fun c => ?_) (fun c => ?_)
      · replace hh := (if_pos c).symm.trans hh
        refine v_iconst dX9_patch_33 (by decide : _ = (0 : Int32)) ?_
        obtain rfl := Option.some.inj hh
        exact v_zret dX9_patch_34 rfl (zb (by decide)).1 (Nat.zero_le _) (Nat.zero_le _) ⟨rfl, rfl⟩
      · replace hh := (if_neg c).symm.trans hh
        refine v_aload_n 0 dX9_patch_18 rfl rfl ?_
        refine r_RolledOut_now dX9_patch_19 fl_X9_12 ?_
        refine r_World_sheet (by decide) dX9_patch_22 fl_X9_122 ?_
        refine v_iload_n 1 dX9_patch_25 rfl rfl ?_
        refine v_iload_n 2 dX9_patch_26 rfl rfl ?_
        obtain ⟨q2, eq2, hh⟩ := bnd_some hh
        refine v_callVi (t_X4_canMend (by decide) eq2) dX9_patch_27 y_X4_canMend ml_X9_144 (ci := 3) rfl rfl (e_Sheet (by decide)) rfl rfl (Nat.le_of_ble_eq_true rfl) ⟨(Nat.le_of_ble_eq_true rfl), (Nat.le_of_ble_eq_true rfl)⟩ ⟨Nat.zero_le _, Nat.zero_le _⟩ ?_
        refine v_if_ne (tgt := 35) dX9_patch_30 (by decide) (fun c => ?_) (fun c => ?_)
        · replace hh := (if_neg c).symm.trans hh
          refine v_aload_n 0 dX9_patch_35 rfl rfl ?_
          refine r_RolledOut_now dX9_patch_36 fl_X9_12 ?_
          obtain ⟨q3, eq3, hh⟩ := bnd_some hh
          refine v_callVv (t_X8_keepStep (by decide) eq3) dX9_patch_39 y_X8_keepStep ml_X9_131 (ci := 7) rfl rfl (e_World (by decide)) rfl rfl (Nat.le_of_ble_eq_true rfl) ⟨(Nat.le_of_ble_eq_true rfl), (Nat.le_of_ble_eq_true rfl)⟩ ⟨Nat.zero_le _, Nat.zero_le _⟩ ?_
          refine v_aload_n 0 dX9_patch_42 rfl rfl ?_
          refine r_RolledOut_now dX9_patch_43 fl_X9_12 ?_
          refine r_World_sheet (by decide) dX9_patch_46 fl_X9_122 ?_
          refine v_iload_n 1 dX9_patch_49 rfl rfl ?_
          refine v_iload_n 2 dX9_patch_50 rfl rfl ?_
          obtain ⟨q4, eq4, hh⟩ := bnd_some hh
          refine v_callVv (t_X4_mend (by decide) eq4) dX9_patch_51 y_X4_mend ml_X9_148 (ci := 3) rfl rfl (e_Sheet (by decide)) rfl rfl (Nat.le_of_ble_eq_true rfl) ⟨(Nat.le_of_ble_eq_true rfl), (Nat.le_of_ble_eq_true rfl)⟩ ⟨Nat.zero_le _, Nat.zero_le _⟩ ?_
          refine v_iconst dX9_patch_54 (by decide : _ = (1 : Int32)) ?_
          obtain rfl := Option.some.inj hh
          exact v_zret dX9_patch_55 rfl (zb (by decide)).1 (Nat.zero_le _) (Nat.zero_le _) ⟨rfl, rfl⟩
        · replace hh := (if_pos c).symm.trans hh
          refine v_iconst dX9_patch_33 (by decide : _ = (0 : Int32)) ?_
          obtain rfl := Option.some.inj hh
          exact v_zret dX9_patch_34 rfl (zb (by decide)).1 (Nat.zero_le _) (Nat.zero_le _) ⟨rfl, rfl⟩
def f_X9_passTurns_b4 (N : Nat) : Nat → Int32 → Int32 → Int32 → St → Option (Int32 × St)
  | 0, _, _, _, _ => none
  | n + 1, x1, x2, x3, S =>
  if x1 ≤ x3 then
  (some (x2, S))
  else
  (if (9999 : Int32) ≤ (gI S 407 0 0) then
  (some (x2, S))
  else
  (bnd (f_X8_keepStep 0 S ) fun q1 =>
 bnd (f_X2_passTurn N 0 q1 ) fun q2 =>
 lt (x2 + (1 : Int32)) fun v3 =>
  lt (x3 + (1 : Int32)) fun v4 =>
  f_X9_passTurns_b4 N n x1 v3 v4 q2))
set_option maxRecDepth 100000 in
set_option maxHeartbeats 4000000 in
theorem tb_X9_passTurns_4 {l : Launch} {G : v_G} {N : Nat}    {r : Int32 × St}   : ∀ (n : Nat) (x1 : Int32) (x2 : Int32) (x3 : Int32) (S : St),  f_X9_passTurns_b4 N n x1 x2 x3 S = some r → V l G yX9_passTurns cX9_passTurns 4 (some .int) (v_rm 5 0 0) (QI r.1 (lay G r.2)) 0 0 4 [(0, .ref (v_B G + 0)), (1, .int x1), (2, .int x2), (3, .int x3)] [] (lay G S) := by
  intro n
  induction n with
  | zero =>
    intro x1 x2 x3 S  hh
    rw [f_X9_passTurns_b4] at hh
    cases hh
  | succ n ih =>
    intro x1 x2 x3 S  hh
    rw [f_X9_passTurns_b4] at hh
    refine v_iload_n 3 dX9_passTurns_4 rfl rfl ?_
    refine v_iload_n 1 dX9_passTurns_5 rfl rfl ?_
    refine v_icmp_ge (tgt := 55) dX9_passTurns_6 (by decide) (fun c => ?_) (fun c => ?_)
    · replace hh := (if_pos c).symm.trans hh
      refine v_iload_n 2 dX9_passTurns_55 rfl rfl ?_
      obtain rfl := Option.some.inj hh
      exact v_iret dX9_passTurns_56 rfl (Nat.zero_le _) (Nat.zero_le _) ⟨rfl, rfl⟩
    · replace hh := (if_neg c).symm.trans hh
      refine v_aload_n 0 dX9_passTurns_9 rfl rfl ?_
      refine r_RolledOut_now dX9_passTurns_10 fl_X9_12 ?_
      refine r_World_sheet (by decide) dX9_passTurns_13 fl_X9_122 ?_
      refine r_Sheet_turn (by decide) dX9_passTurns_16 fl_X9_151 ?_
      refine v_sipush dX9_passTurns_19 (by decide : _ = (9999 : Int32)) ?_
      refine v_icmp_ge (tgt := 55) dX9_passTurns_22 (by decide) (fun c => ?_) (fun c => ?_)
      · replace hh := (if_pos c).symm.trans hh
        refine v_iload_n 2 dX9_passTurns_55 rfl rfl ?_
        obtain rfl := Option.some.inj hh
        exact v_iret dX9_passTurns_56 rfl (Nat.zero_le _) (Nat.zero_le _) ⟨rfl, rfl⟩
      · replace hh := (if_neg c).symm.trans hh
        refine v_aload_n 0 dX9_passTurns_25 rfl rfl ?_
        refine r_RolledOut_now dX9_passTurns_26 fl_X9_12 ?_
        obtain ⟨q1, eq1, hh⟩ := bnd_some hh
        refine v_callVv (t_X8_keepStep (by decide) eq1) dX9_passTurns_29 y_X8_keepStep ml_X9_131 (ci := 7) rfl rfl (e_World (by decide)) rfl rfl (Nat.le_of_ble_eq_true rfl) ⟨(Nat.le_of_ble_eq_true rfl), (Nat.le_of_ble_eq_true rfl)⟩ ⟨Nat.zero_le _, Nat.zero_le _⟩ ?_
        refine v_aload_n 0 dX9_passTurns_32 rfl rfl ?_
        refine r_RolledOut_rules dX9_passTurns_33 fl_X9_24 ?_
        refine v_aload_n 0 dX9_passTurns_36 rfl rfl ?_
        refine r_RolledOut_now dX9_passTurns_37 fl_X9_12 ?_
        refine r_World_sheet (by decide) dX9_passTurns_40 fl_X9_122 ?_
        obtain ⟨q2, eq2, hh⟩ := bnd_some hh
        refine v_callVv (t_X2_passTurn (by decide) eq2) dX9_passTurns_43 y_X2_passTurn ml_X9_330 (ci := 1) rfl rfl (e_Rules) rfl rfl (Nat.le_of_ble_eq_true rfl) ⟨(Nat.le_of_ble_eq_true rfl), (Nat.le_of_ble_eq_true rfl)⟩ ⟨Nat.zero_le _, Nat.zero_le _⟩ ?_
        refine v_iinc (v := _ + (1 : Int32)) 2 dX9_passTurns_46 rfl rfl (by decide) rfl ?_
        replace hh := lt_of hh
        refine v_iinc (v := _ + (1 : Int32)) 3 dX9_passTurns_49 rfl rfl (by decide) rfl ?_
        replace hh := lt_of hh
        refine v_goto (tgt := 4) dX9_passTurns_52 (by decide) ?_
        exact v_sub [2, 3, 1, 0] rfl (ih _ _ _ _ hh)
def f_X9_passTurns (N : Nat) (S : St) (x1 : Int32) : Option (Int32 × St) :=
  f_X9_passTurns_b4 N N x1 (0 : Int32) (0 : Int32) S
set_option maxRecDepth 100000 in
set_option maxHeartbeats 4000000 in
theorem t_X9_passTurns {l : Launch} {G : v_G} {N : Nat} {S : St}   {x1 : Int32} {r : Int32 × St} (hh : f_X9_passTurns N S x1 = some r) : v_M l G yX9_passTurns cX9_passTurns 4 (some .int) 5 0 0 [.ref (v_B G + 0), .int x1] (lay G S) (QI r.1 (lay G r.2)) := by
  refine v_entry (by decide) (Nat.le_of_ble_eq_true rfl) ?_
  unfold f_X9_passTurns at hh
  show V l G yX9_passTurns cX9_passTurns 4 (some .int) (v_rm 5 0 0) (QI r.1 (lay G r.2)) 0 0 0 [(0, .ref (v_B G + 0)), (1, .int x1)] [] (lay G S)
  refine v_iconst dX9_passTurns_0 (by decide : _ = (0 : Int32)) ?_
  refine v_istore_n dX9_passTurns_1 rfl (by decide) rfl ?_
  refine v_iconst dX9_passTurns_2 (by decide : _ = (0 : Int32)) ?_
  refine v_istore_n dX9_passTurns_3 rfl (by decide) rfl ?_
  exact v_sub [2, 3, 1, 0] rfl (tb_X9_passTurns_4 N _ _ _ _ hh)
def f_X9_roll (N : Nat) (S : St) (x1 : Int32) : Option (Int32 × St) :=
  if x1 < (1 : Int32) then
  (some ((-1 : Int32), S))
  else
  (if (60 : Int32) < x1 then
  (some ((-1 : Int32), S))
  else
  (if x1 ≤ ((9999 : Int32) - (gI S 407 0 0)) then
  (lt (gI S 404 0 0) fun v1 =>
  bnd (f_X9_passTurns N S x1) fun q2 =>
 bnd (f_J6_bitCount_0f7a4 q2.2 ((gI q2.2 404 0 0) &&& (v1 ^^^ (-1 : Int32)))) fun q3 =>
 some (q3, q2.2))
  else
  (some ((-1 : Int32), S))))
set_option maxRecDepth 100000 in
set_option maxHeartbeats 4000000 in
theorem t_X9_roll {l : Launch} {G : v_G} {N : Nat} {S : St}   {x1 : Int32} {r : Int32 × St} (hh : f_X9_roll N S x1 = some r) : v_M l G yX9_roll cX9_roll 3 (some .int) 6 0 0 [.ref (v_B G + 0), .int x1] (lay G S) (QI r.1 (lay G r.2)) := by
  refine v_entry (by decide) (Nat.le_of_ble_eq_true rfl) ?_
  unfold f_X9_roll at hh
  show V l G yX9_roll cX9_roll 3 (some .int) (v_rm 6 0 0) (QI r.1 (lay G r.2)) 0 0 0 [(0, .ref (v_B G + 0)), (1, .int x1)] [] (lay G S)
  refine v_iload_n 1 dX9_roll_0 rfl rfl ?_
  refine v_iconst dX9_roll_1 (by decide : _ = (1 : Int32)) ?_
  refine v_icmp_lt (tgt := 29) dX9_roll_2 (by decide) (fun c => ?_) (fun c => ?_)
  · replace hh := (if_pos c).symm.trans hh
    refine v_iconst dX9_roll_29 (by decide : _ = (-1 : Int32)) ?_
    obtain rfl := Option.some.inj hh
    exact v_iret dX9_roll_30 rfl (Nat.zero_le _) (Nat.zero_le _) ⟨rfl, rfl⟩
  · replace hh := (if_neg c).symm.trans hh
    refine v_iload_n 1 dX9_roll_5 rfl rfl ?_
    refine v_bipush dX9_roll_6 (by decide : _ = (60 : Int32)) ?_
    refine v_icmp_gt (tgt := 29) dX9_roll_8 (by decide) (fun c => ?_) (fun c => ?_)
    · replace hh := (if_pos c).symm.trans hh
      refine v_iconst dX9_roll_29 (by decide : _ = (-1 : Int32)) ?_
      obtain rfl := Option.some.inj hh
      exact v_iret dX9_roll_30 rfl (Nat.zero_le _) (Nat.zero_le _) ⟨rfl, rfl⟩
    · replace hh := (if_neg c).symm.trans hh
      refine v_iload_n 1 dX9_roll_11 rfl rfl ?_
      refine v_sipush dX9_roll_12 (by decide : _ = (9999 : Int32)) ?_
      refine v_aload_n 0 dX9_roll_15 rfl rfl ?_
      refine r_RolledOut_now dX9_roll_16 fl_X9_12 ?_
      refine r_World_sheet (by decide) dX9_roll_19 fl_X9_122 ?_
      refine r_Sheet_turn (by decide) dX9_roll_22 fl_X9_151 ?_
      refine v_isub dX9_roll_25 ?_
      refine v_icmp_le (tgt := 31) dX9_roll_26 (by decide) (fun c => ?_) (fun c => ?_)
      · replace hh := (if_pos c).symm.trans hh
        refine v_aload_n 0 dX9_roll_31 rfl rfl ?_
        refine r_RolledOut_now dX9_roll_32 fl_X9_12 ?_
        refine r_World_sheet (by decide) dX9_roll_35 fl_X9_122 ?_
        refine r_Sheet_torn (by decide) dX9_roll_38 fl_X9_154 ?_
        refine v_istore_n dX9_roll_41 rfl (by decide) rfl ?_
        replace hh := lt_of hh
        refine v_aload_n 1 dX9_roll_42 rfl rfl ?_
        refine v_iload_n 2 dX9_roll_43 rfl rfl ?_
        obtain ⟨q2, eq2, hh⟩ := bnd_some hh
        refine v_callVi (t_X9_passTurns eq2) dX9_roll_44 y_X9_passTurns ml_X9_157 (ci := 8) rfl rfl (e_RolledOut) rfl rfl (Nat.le_of_ble_eq_true rfl) ⟨(Nat.le_of_ble_eq_true rfl), (Nat.le_of_ble_eq_true rfl)⟩ ⟨Nat.zero_le _, Nat.zero_le _⟩ ?_
        refine v_pop dX9_roll_47 rfl ?_
        refine v_aload_n 1 dX9_roll_48 rfl rfl ?_
        refine r_RolledOut_now dX9_roll_49 fl_X9_12 ?_
        refine r_World_sheet (by decide) dX9_roll_52 fl_X9_122 ?_
        refine r_Sheet_torn (by decide) dX9_roll_55 fl_X9_154 ?_
        refine v_iload_n 0 dX9_roll_58 rfl rfl ?_
        refine v_iconst dX9_roll_59 (by decide : _ = (-1 : Int32)) ?_
        refine v_ixor dX9_roll_60 ?_
        refine v_iand dX9_roll_61 ?_
        obtain ⟨q3, eq3, hh⟩ := bnd_some hh
        refine v_callSi (t_J6_bitCount_0f7a4 eq3) dX9_roll_62 y_J6_bitCount_0f7a4 ml_X9_161 rfl rfl (Nat.le_of_ble_eq_true rfl) ⟨(Nat.le_of_ble_eq_true rfl), (Nat.le_of_ble_eq_true rfl)⟩ ⟨Nat.zero_le _, Nat.zero_le _⟩ ?_
        obtain rfl := Option.some.inj hh
        exact v_iret dX9_roll_65 rfl (Nat.zero_le _) (Nat.zero_le _) ⟨rfl, rfl⟩
      · replace hh := (if_neg c).symm.trans hh
        refine v_iconst dX9_roll_29 (by decide : _ = (-1 : Int32)) ?_
        obtain rfl := Option.some.inj hh
        exact v_iret dX9_roll_30 rfl (Nat.zero_le _) (Nat.zero_le _) ⟨rfl, rfl⟩
def f_X9_isDone (N : Nat) (S : St) (x1 : Int32) (x2 : Int32) (x3 : Int32) : Option (Int32 × St) :=
  if x1 = (2 : Int32) then
  (bnd (f_X9_hand S x2) fun q1 =>
 if q1.1 = (-1 : Int32) then
  (some ((0 : Int32), q1.2))
  else
  (some ((1 : Int32), q1.2)))
  else if x1 = (3 : Int32) then
  (bnd (f_X9_dough N S x3 x2) fun q2 =>
 chk (isz q2.1) (some (q2.1, q2.2)))
  else if x1 = (4 : Int32) then
  (bnd (f_X9_town N S x2) fun q3 =>
 if q3.1 = (-1 : Int32) then
  (some ((0 : Int32), q3.2))
  else
  (some ((1 : Int32), q3.2)))
  else if x1 = (5 : Int32) then
  (bnd (f_X9_stroke N S x3 x2 (0 : Int32)) fun q4 =>
 if q4.1 = (-1 : Int32) then
  (some ((0 : Int32), q4.2))
  else
  (some ((1 : Int32), q4.2)))
  else if x1 = (6 : Int32) then
  (bnd (f_X9_stroke N S x3 x2 (1 : Int32)) fun q5 =>
 if q5.1 = (-1 : Int32) then
  (some ((0 : Int32), q5.2))
  else
  (some ((1 : Int32), q5.2)))
  else if x1 = (7 : Int32) then
  (bnd (f_X9_trim S ) fun q6 =>
 if q6.1 = (-1 : Int32) then
  (some ((0 : Int32), q6.2))
  else
  (some ((1 : Int32), q6.2)))
  else if x1 = (8 : Int32) then
  (bnd (f_X9_patch S x3 x2) fun q7 =>
 chk (isz q7.1) (some (q7.1, q7.2)))
  else if x1 = (9 : Int32) then
  (bnd (f_X9_passTurns N S x2) fun q8 =>
 if q8.1 = x2 then
  (some ((1 : Int32), q8.2))
  else
  (some ((0 : Int32), q8.2)))
  else (some ((1 : Int32), S))
set_option maxRecDepth 100000 in
set_option maxHeartbeats 4000000 in
theorem t_X9_isDone {l : Launch} {G : v_G} {N : Nat} {S : St}   {x1 : Int32} {x2 : Int32} {x3 : Int32} {r : Int32 × St} (hh : f_X9_isDone N S x1 x2 x3 = some r) : v_M l G yX9_isDone cX9_isDone 4 (some .boolean) 6 0 0 [.ref (v_B G + 0), .int x1, .int x2, .int x3] (lay G S) (QI r.1 (lay G r.2)) := by
  refine v_entry (by decide) (Nat.le_of_ble_eq_true rfl) ?_
  unfold f_X9_isDone at hh
  show V l G yX9_isDone cX9_isDone 4 (some .boolean) (v_rm 6 0 0) (QI r.1 (lay G r.2)) 0 0 0 [(0, .ref (v_B G + 0)), (1, .int x1), (2, .int x2), (3, .int x3)] [] (lay G S)
  refine v_iload_n 1 dX9_isDone_0 rfl rfl ?_
  refine sw_if hh (fun c0 hh => ?_) (fun c0 hh => ?_)
  · skip
    refine v_tableIn (tgt := 48) dX9_isDone_1 (by rw [c0]; decide) (by rw [c0]; decide) (by rw [c0] <;> rfl) (by decide) ?_
    refine v_aload_n 0 dX9_isDone_48 rfl rfl ?_
    refine v_iload_n 2 dX9_isDone_49 rfl rfl ?_
    obtain ⟨q1, eq1, hh⟩ := bnd_some hh
    refine v_callVi (t_X9_hand eq1) dX9_isDone_50 y_X9_hand ml_X9_333 (ci := 8) rfl rfl (e_RolledOut) rfl rfl (Nat.le_of_ble_eq_true rfl) ⟨(Nat.le_of_ble_eq_true rfl), (Nat.le_of_ble_eq_true rfl)⟩ ⟨Nat.zero_le _, Nat.zero_le _⟩ ?_
    refine v_iconst dX9_isDone_53 (by decide : _ = (-1 : Int32)) ?_
    refine v_icmp_eq (tgt := 61) dX9_isDone_54 (by decide) (fun c => ?_) (fun c => ?_)
    · replace hh := (if_pos c).symm.trans hh
      refine v_iconst dX9_isDone_61 (by decide : _ = (0 : Int32)) ?_
      obtain rfl := Option.some.inj hh
      exact v_zret dX9_isDone_62 rfl (zb (by decide)).1 (Nat.zero_le _) (Nat.zero_le _) ⟨rfl, rfl⟩
    · replace hh := (if_neg c).symm.trans hh
      refine v_iconst dX9_isDone_57 (by decide : _ = (1 : Int32)) ?_
      refine v_goto (tgt := 62) dX9_isDone_58 (by decide) ?_
      obtain rfl := Option.some.inj hh
      exact v_zret dX9_isDone_62 rfl (zb (by decide)).1 (Nat.zero_le _) (Nat.zero_le _) ⟨rfl, rfl⟩
  · skip
    refine sw_if hh (fun c1 hh => ?_) (fun c1 hh => ?_)
    · skip
      refine v_tableIn (tgt := 63) dX9_isDone_1 (by rw [c1]; decide) (by rw [c1]; decide) (by rw [c1] <;> rfl) (by decide) ?_
      refine v_aload_n 0 dX9_isDone_63 rfl rfl ?_
      refine v_iload_n 3 dX9_isDone_64 rfl rfl ?_
      refine v_iload_n 2 dX9_isDone_65 rfl rfl ?_
      obtain ⟨q2, eq2, hh⟩ := bnd_some hh
      refine v_callVi (t_X9_dough eq2) dX9_isDone_66 y_X9_dough ml_X9_336 (ci := 8) rfl rfl (e_RolledOut) rfl rfl (Nat.le_of_ble_eq_true rfl) ⟨(Nat.le_of_ble_eq_true rfl), (Nat.le_of_ble_eq_true rfl)⟩ ⟨Nat.zero_le _, Nat.zero_le _⟩ ?_
      obtain ⟨g, hh⟩ := chk_some hh
      obtain rfl := Option.some.inj hh
      exact v_zret dX9_isDone_69 rfl (zb (isz_or g)).1 (Nat.zero_le _) (Nat.zero_le _) ⟨rfl, rfl⟩
    · skip
      refine sw_if hh (fun c2 hh => ?_) (fun c2 hh => ?_)
      · skip
        refine v_tableIn (tgt := 70) dX9_isDone_1 (by rw [c2]; decide) (by rw [c2]; decide) (by rw [c2] <;> rfl) (by decide) ?_
        refine v_aload_n 0 dX9_isDone_70 rfl rfl ?_
        refine v_iload_n 2 dX9_isDone_71 rfl rfl ?_
        obtain ⟨q3, eq3, hh⟩ := bnd_some hh
        refine v_callVi (t_X9_town eq3) dX9_isDone_72 y_X9_town ml_X9_339 (ci := 8) rfl rfl (e_RolledOut) rfl rfl (Nat.le_of_ble_eq_true rfl) ⟨(Nat.le_of_ble_eq_true rfl), (Nat.le_of_ble_eq_true rfl)⟩ ⟨Nat.zero_le _, Nat.zero_le _⟩ ?_
        refine v_iconst dX9_isDone_75 (by decide : _ = (-1 : Int32)) ?_
        refine v_icmp_eq (tgt := 83) dX9_isDone_76 (by decide) (fun c => ?_) (fun c => ?_)
        · replace hh := (if_pos c).symm.trans hh
          refine v_iconst dX9_isDone_83 (by decide : _ = (0 : Int32)) ?_
          obtain rfl := Option.some.inj hh
          exact v_zret dX9_isDone_84 rfl (zb (by decide)).1 (Nat.zero_le _) (Nat.zero_le _) ⟨rfl, rfl⟩
        · replace hh := (if_neg c).symm.trans hh
          refine v_iconst dX9_isDone_79 (by decide : _ = (1 : Int32)) ?_
          refine v_goto (tgt := 84) dX9_isDone_80 (by decide) ?_
          obtain rfl := Option.some.inj hh
          exact v_zret dX9_isDone_84 rfl (zb (by decide)).1 (Nat.zero_le _) (Nat.zero_le _) ⟨rfl, rfl⟩
      · skip
        refine sw_if hh (fun c3 hh => ?_) (fun c3 hh => ?_)
        · skip
          refine v_tableIn (tgt := 85) dX9_isDone_1 (by rw [c3]; decide) (by rw [c3]; decide) (by rw [c3] <;> rfl) (by decide) ?_
          refine v_aload_n 0 dX9_isDone_85 rfl rfl ?_
          refine v_iload_n 3 dX9_isDone_86 rfl rfl ?_
          refine v_iload_n 2 dX9_isDone_87 rfl rfl ?_
          refine v_iconst dX9_isDone_88 (by decide : _ = (0 : Int32)) ?_
          obtain ⟨q4, eq4, hh⟩ := bnd_some hh
          refine v_callVi (t_X9_stroke eq4) dX9_isDone_89 y_X9_stroke ml_X9_342 (ci := 8) rfl rfl (e_RolledOut) rfl rfl (Nat.le_of_ble_eq_true rfl) ⟨(Nat.le_of_ble_eq_true rfl), (Nat.le_of_ble_eq_true rfl)⟩ ⟨Nat.zero_le _, Nat.zero_le _⟩ ?_
          refine v_iconst dX9_isDone_92 (by decide : _ = (-1 : Int32)) ?_
          refine v_icmp_eq (tgt := 100) dX9_isDone_93 (by decide) (fun c => ?_) (fun c => ?_)
          · replace hh := (if_pos c).symm.trans hh
            refine v_iconst dX9_isDone_100 (by decide : _ = (0 : Int32)) ?_
            obtain rfl := Option.some.inj hh
            exact v_zret dX9_isDone_101 rfl (zb (by decide)).1 (Nat.zero_le _) (Nat.zero_le _) ⟨rfl, rfl⟩
          · replace hh := (if_neg c).symm.trans hh
            refine v_iconst dX9_isDone_96 (by decide : _ = (1 : Int32)) ?_
            refine v_goto (tgt := 101) dX9_isDone_97 (by decide) ?_
            obtain rfl := Option.some.inj hh
            exact v_zret dX9_isDone_101 rfl (zb (by decide)).1 (Nat.zero_le _) (Nat.zero_le _) ⟨rfl, rfl⟩
        · skip
          refine sw_if hh (fun c4 hh => ?_) (fun c4 hh => ?_)
          · skip
            refine v_tableIn (tgt := 102) dX9_isDone_1 (by rw [c4]; decide) (by rw [c4]; decide) (by rw [c4] <;> rfl) (by decide) ?_
            refine v_aload_n 0 dX9_isDone_102 rfl rfl ?_
            refine v_iload_n 3 dX9_isDone_103 rfl rfl ?_
            refine v_iload_n 2 dX9_isDone_104 rfl rfl ?_
            refine v_iconst dX9_isDone_105 (by decide : _ = (1 : Int32)) ?_
            obtain ⟨q5, eq5, hh⟩ := bnd_some hh
            refine v_callVi (t_X9_stroke eq5) dX9_isDone_106 y_X9_stroke ml_X9_342 (ci := 8) rfl rfl (e_RolledOut) rfl rfl (Nat.le_of_ble_eq_true rfl) ⟨(Nat.le_of_ble_eq_true rfl), (Nat.le_of_ble_eq_true rfl)⟩ ⟨Nat.zero_le _, Nat.zero_le _⟩ ?_
            refine v_iconst dX9_isDone_109 (by decide : _ = (-1 : Int32)) ?_
            refine v_icmp_eq (tgt := 117) dX9_isDone_110 (by decide) (fun c => ?_) (fun c => ?_)
            · replace hh := (if_pos c).symm.trans hh
              refine v_iconst dX9_isDone_117 (by decide : _ = (0 : Int32)) ?_
              obtain rfl := Option.some.inj hh
              exact v_zret dX9_isDone_118 rfl (zb (by decide)).1 (Nat.zero_le _) (Nat.zero_le _) ⟨rfl, rfl⟩
            · replace hh := (if_neg c).symm.trans hh
              refine v_iconst dX9_isDone_113 (by decide : _ = (1 : Int32)) ?_
              refine v_goto (tgt := 118) dX9_isDone_114 (by decide) ?_
              obtain rfl := Option.some.inj hh
              exact v_zret dX9_isDone_118 rfl (zb (by decide)).1 (Nat.zero_le _) (Nat.zero_le _) ⟨rfl, rfl⟩
          · skip
            refine sw_if hh (fun c5 hh => ?_) (fun c5 hh => ?_)
            · skip
              refine v_tableIn (tgt := 119) dX9_isDone_1 (by rw [c5]; decide) (by rw [c5]; decide) (by rw [c5] <;> rfl) (by decide) ?_
              refine v_aload_n 0 dX9_isDone_119 rfl rfl ?_
              obtain ⟨q6, eq6, hh⟩ := bnd_some hh
              refine v_callVi (t_X9_trim eq6) dX9_isDone_120 y_X9_trim ml_X9_346 (ci := 8) rfl rfl (e_RolledOut) rfl rfl (Nat.le_of_ble_eq_true rfl) ⟨(Nat.le_of_ble_eq_true rfl), (Nat.le_of_ble_eq_true rfl)⟩ ⟨Nat.zero_le _, Nat.zero_le _⟩ ?_
              refine v_iconst dX9_isDone_123 (by decide : _ = (-1 : Int32)) ?_
              refine v_icmp_eq (tgt := 131) dX9_isDone_124 (by decide) (fun c => ?_) (fun c => ?_)
              · replace hh := (if_pos c).symm.trans hh
                refine v_iconst dX9_isDone_131 (by decide : _ = (0 : Int32)) ?_
                obtain rfl := Option.some.inj hh
                exact v_zret dX9_isDone_132 rfl (zb (by decide)).1 (Nat.zero_le _) (Nat.zero_le _) ⟨rfl, rfl⟩
              · replace hh := (if_neg c).symm.trans hh
                refine v_iconst dX9_isDone_127 (by decide : _ = (1 : Int32)) ?_
                refine v_goto (tgt := 132) dX9_isDone_128 (by decide) ?_
                obtain rfl := Option.some.inj hh
                exact v_zret dX9_isDone_132 rfl (zb (by decide)).1 (Nat.zero_le _) (Nat.zero_le _) ⟨rfl, rfl⟩
            · skip
              refine sw_if hh (fun c6 hh => ?_) (fun c6 hh => ?_)
              · skip
                refine v_tableIn (tgt := 133) dX9_isDone_1 (by rw [c6]; decide) (by rw [c6]; decide) (by rw [c6] <;> rfl) (by decide) ?_
                refine v_aload_n 0 dX9_isDone_133 rfl rfl ?_
                refine v_iload_n 3 dX9_isDone_134 rfl rfl ?_
                refine v_iload_n 2 dX9_isDone_135 rfl rfl ?_
                obtain ⟨q7, eq7, hh⟩ := bnd_some hh
                refine v_callVi (t_X9_patch eq7) dX9_isDone_136 y_X9_patch ml_X9_349 (ci := 8) rfl rfl (e_RolledOut) rfl rfl (Nat.le_of_ble_eq_true rfl) ⟨(Nat.le_of_ble_eq_true rfl), (Nat.le_of_ble_eq_true rfl)⟩ ⟨Nat.zero_le _, Nat.zero_le _⟩ ?_
                obtain ⟨g, hh⟩ := chk_some hh
                obtain rfl := Option.some.inj hh
                exact v_zret dX9_isDone_139 rfl (zb (isz_or g)).1 (Nat.zero_le _) (Nat.zero_le _) ⟨rfl, rfl⟩
              · skip
                refine sw_if hh (fun c7 hh => ?_) (fun c7 hh => ?_)
                · skip
                  refine v_tableIn (tgt := 140) dX9_isDone_1 (by rw [c7]; decide) (by rw [c7]; decide) (by rw [c7] <;> rfl) (by decide) ?_
                  refine v_aload_n 0 dX9_isDone_140 rfl rfl ?_
                  refine v_iload_n 2 dX9_isDone_141 rfl rfl ?_
                  obtain ⟨q8, eq8, hh⟩ := bnd_some hh
                  refine v_callVi (t_X9_passTurns eq8) dX9_isDone_142 y_X9_passTurns ml_X9_157 (ci := 8) rfl rfl (e_RolledOut) rfl rfl (Nat.le_of_ble_eq_true rfl) ⟨(Nat.le_of_ble_eq_true rfl), (Nat.le_of_ble_eq_true rfl)⟩ ⟨Nat.zero_le _, Nat.zero_le _⟩ ?_
                  refine v_iload_n 2 dX9_isDone_145 rfl rfl ?_
                  refine v_icmp_ne (tgt := 153) dX9_isDone_146 (by decide) (fun c => ?_) (fun c => ?_)
                  · replace hh := (if_neg c).symm.trans hh
                    refine v_iconst dX9_isDone_153 (by decide : _ = (0 : Int32)) ?_
                    obtain rfl := Option.some.inj hh
                    exact v_zret dX9_isDone_154 rfl (zb (by decide)).1 (Nat.zero_le _) (Nat.zero_le _) ⟨rfl, rfl⟩
                  · replace hh := (if_pos c).symm.trans hh
                    refine v_iconst dX9_isDone_149 (by decide : _ = (1 : Int32)) ?_
                    refine v_goto (tgt := 154) dX9_isDone_150 (by decide) ?_
                    obtain rfl := Option.some.inj hh
                    exact v_zret dX9_isDone_154 rfl (zb (by decide)).1 (Nat.zero_le _) (Nat.zero_le _) ⟨rfl, rfl⟩
                · skip
                  refine v_tableOut (tgt := 155) dX9_isDone_1 (sw_out 8 (by decide) (fun k hk => match k, hk with | 0, _ => fun h => c0 (h.trans (by decide)) | 1, _ => fun h => c1 (h.trans (by decide)) | 2, _ => fun h => c2 (h.trans (by decide)) | 3, _ => fun h => c3 (h.trans (by decide)) | 4, _ => fun h => c4 (h.trans (by decide)) | 5, _ => fun h => c5 (h.trans (by decide)) | 6, _ => fun h => c6 (h.trans (by decide)) | 7, _ => fun h => c7 (h.trans (by decide)) | k + 8, hk => absurd hk (by omega))) (by decide) ?_
                  refine v_iconst dX9_isDone_155 (by decide : _ = (1 : Int32)) ?_
                  obtain rfl := Option.some.inj hh
                  exact v_zret dX9_isDone_156 rfl (zb (by decide)).1 (Nat.zero_le _) (Nat.zero_le _) ⟨rfl, rfl⟩
def f_X9_played_b26 (N : Nat) : Nat → Nat → Int32 → St → Option (Int32 × St)
  | 0, _, _, _ => none
  | n + 1, q2, x3, S =>
  bnd (gN S q2) fun q4 =>
  if ((Int32.ofNat q4)) ≤ (x3 + (2 : Int32)) then
  (some ((-1 : Int32), S))
  else
  (bnd (gA S q2) fun q5 => chk (inb x3 q5.1) (
  bnd (gA S q2) fun q7 => chk (inb (x3 + (1 : Int32)) q7.1) (
  bnd (gA S q2) fun q9 => chk (inb (x3 + (2 : Int32)) q9.1) (
  bnd (f_X9_isDone N S (q5.2 x3.toNatClampNeg) (q7.2 (x3 + (1 : Int32)).toNatClampNeg) (q9.2 (x3 + (2 : Int32)).toNatClampNeg)) fun q11 =>
 if q11.1 = (0 : Int32) then
  (some (x3 / (3 : Int32), q11.2))
  else
  (lt (x3 + (3 : Int32)) fun v12 =>
  f_X9_played_b26 N n q2 v12 q11.2)))))
set_option maxRecDepth 100000 in
set_option maxHeartbeats 4000000 in
theorem tb_X9_played_26 {l : Launch} {G : v_G} {N : Nat}    {r : Int32 × St}   : ∀ (n : Nat) (q2 : Nat) (x3 : Int32) (S : St),  f_X9_played_b26 N n q2 x3 S = some r → V l G yX9_played cX9_played 4 (some .int) (v_rm 7 0 0) (QI r.1 (lay G r.2)) 0 0 26 [(0, .ref (v_B G + 0)), (2, .ref (da G q2)), (3, .int x3)] [] (lay G S) := by
  intro n
  induction n with
  | zero =>
    intro q2 x3 S  hh
    rw [f_X9_played_b26] at hh
    cases hh
  | succ n ih =>
    intro q2 x3 S  hh
    rw [f_X9_played_b26] at hh
    refine v_iload_n 2 dX9_played_26 rfl rfl ?_
    refine v_iconst dX9_played_27 (by decide : _ = (2 : Int32)) ?_
    refine v_iadd dX9_played_28 ?_
    refine v_aload_n 1 dX9_played_29 rfl rfl ?_
    obtain ⟨q4, eq4, hh⟩ := bnd_some hh
    refine ln_dyn eq4 dX9_played_30 ?_
    refine v_icmp_ge (tgt := 64) dX9_played_31 (by decide) (fun c => ?_) (fun c => ?_)
    · replace hh := (if_pos c).symm.trans hh
      refine v_iconst dX9_played_64 (by decide : _ = (-1 : Int32)) ?_
      obtain rfl := Option.some.inj hh
      exact v_iret dX9_played_65 rfl (Nat.zero_le _) (Nat.zero_le _) ⟨rfl, rfl⟩
    · replace hh := (if_neg c).symm.trans hh
      refine v_aload_n 0 dX9_played_34 rfl rfl ?_
      refine v_aload_n 1 dX9_played_35 rfl rfl ?_
      refine v_iload_n 2 dX9_played_36 rfl rfl ?_
      obtain ⟨q5, eq5, hh⟩ := bnd_some hh
      obtain ⟨g6, hh⟩ := chk_some hh
      refine ld_dyn eq5 dX9_played_37 (inb_in g6) ?_
      refine v_aload_n 1 dX9_played_38 rfl rfl ?_
      refine v_iload_n 2 dX9_played_39 rfl rfl ?_
      refine v_iconst dX9_played_40 (by decide : _ = (1 : Int32)) ?_
      refine v_iadd dX9_played_41 ?_
      obtain ⟨q7, eq7, hh⟩ := bnd_some hh
      obtain ⟨g8, hh⟩ := chk_some hh
      refine ld_dyn eq7 dX9_played_42 (inb_in g8) ?_
      refine v_aload_n 1 dX9_played_43 rfl rfl ?_
      refine v_iload_n 2 dX9_played_44 rfl rfl ?_
      refine v_iconst dX9_played_45 (by decide : _ = (2 : Int32)) ?_
      refine v_iadd dX9_played_46 ?_
      obtain ⟨q9, eq9, hh⟩ := bnd_some hh
      obtain ⟨g10, hh⟩ := chk_some hh
      refine ld_dyn eq9 dX9_played_47 (inb_in g10) ?_
      obtain ⟨q11, eq11, hh⟩ := bnd_some hh
      refine v_callVi (t_X9_isDone eq11) dX9_played_48 y_X9_isDone ml_X9_171 (ci := 8) rfl rfl (e_RolledOut) rfl rfl (Nat.le_of_ble_eq_true rfl) ⟨(Nat.le_of_ble_eq_true rfl), (Nat.le_of_ble_eq_true rfl)⟩ ⟨Nat.zero_le _, Nat.zero_le _⟩ ?_
      refine v_if_ne (tgt := 58) dX9_played_51 (by decide) (fun c => ?_) (fun c => ?_)
      · replace hh := (if_neg c).symm.trans hh
        refine v_iinc (v := _ + (3 : Int32)) 2 dX9_played_58 rfl rfl (by decide) rfl ?_
        replace hh := lt_of hh
        refine v_goto (tgt := 26) dX9_played_61 (by decide) ?_
        exact v_sub [1, 2, 0] rfl (ih _ _ _ hh)
      · replace hh := (if_pos c).symm.trans hh
        refine v_iload_n 2 dX9_played_54 rfl rfl ?_
        refine v_iconst dX9_played_55 (by decide : _ = (3 : Int32)) ?_
        refine v_idiv dX9_played_56 (by decide) ?_
        obtain rfl := Option.some.inj hh
        exact v_iret dX9_played_57 rfl (Nat.zero_le _) (Nat.zero_le _) ⟨rfl, rfl⟩
def f_X9_played (N : Nat) (S : St) (x1 : Int32) : Option (Int32 × St) :=
  bnd (f_X9_isText S x1) fun q1 =>
 if q1 = (0 : Int32) then
  (some ((-2 : Int32), S))
  else
  (chk (inb x1 4) (
  if gR S 807 0 x1.toNatClampNeg = 0 then
  (none)
  else
  (bnd (gT S (gR S 807 0 x1.toNatClampNeg)) fun q3 =>
  f_X9_played_b26 N N q3.1 (0 : Int32) S)))
set_option maxRecDepth 100000 in
set_option maxHeartbeats 4000000 in
theorem t_X9_played {l : Launch} {G : v_G} {N : Nat} {S : St}   {x1 : Int32} {r : Int32 × St} (hh : f_X9_played N S x1 = some r) : v_M l G yX9_played cX9_played 4 (some .int) 7 0 0 [.ref (v_B G + 0), .int x1] (lay G S) (QI r.1 (lay G r.2)) := by
  refine v_entry (by decide) (Nat.le_of_ble_eq_true rfl) ?_
  unfold f_X9_played at hh
  show V l G yX9_played cX9_played 4 (some .int) (v_rm 7 0 0) (QI r.1 (lay G r.2)) 0 0 0 [(0, .ref (v_B G + 0)), (1, .int x1)] [] (lay G S)
  refine v_aload_n 0 dX9_played_0 rfl rfl ?_
  refine v_iload_n 1 dX9_played_1 rfl rfl ?_
  obtain ⟨q1, eq1, hh⟩ := bnd_some hh
  refine v_callVi (t_X9_isText eq1) dX9_played_2 y_X9_isText ml_X9_113 (ci := 8) rfl rfl (e_RolledOut) rfl rfl (Nat.le_of_ble_eq_true rfl) ⟨(Nat.le_of_ble_eq_true rfl), (Nat.le_of_ble_eq_true rfl)⟩ ⟨Nat.zero_le _, Nat.zero_le _⟩ ?_
  refine v_if_ne (tgt := 11) dX9_played_5 (by decide) (fun c => ?_) (fun c => ?_)
  · replace hh := (if_neg c).symm.trans hh
    refine v_aload_n 0 dX9_played_11 rfl rfl ?_
    refine r_RolledOut_now dX9_played_12 fl_X9_12 ?_
    refine r_World_texts (by decide) dX9_played_15 fl_X9_99 ?_
    refine v_iload_n 1 dX9_played_18 rfl rfl ?_
    obtain ⟨g2, hh⟩ := chk_some hh
    replace g2 := inb_in g2
    refine tx_cases (fun c => ?_) (fun c => ?_) hh
    · intro hh
      refine ld_textsN (by decide) dX9_played_19 g2 c ?_
      cases hh
    · intro hh
      refine ld_textsT (by decide) dX9_played_19 g2 c ?_
      obtain ⟨q3, eq3, hh⟩ := bnd_some hh
      refine r_Text_clauses eq3 dX9_played_20 fl_X9_166 ?_
      refine v_astore_n dX9_played_23 rfl (by decide) rfl ?_
      refine v_iconst dX9_played_24 (by decide : _ = (0 : Int32)) ?_
      refine v_istore_n dX9_played_25 rfl (by decide) rfl ?_
      exact v_sub [2, 1, 0] rfl (tb_X9_played_26 N _ _ _ hh)
  · replace hh := (if_pos c).symm.trans hh
    refine v_bipush dX9_played_8 (by decide : _ = (-2 : Int32)) ?_
    obtain rfl := Option.some.inj hh
    exact v_iret dX9_played_10 rfl (Nat.zero_le _) (Nat.zero_le _) ⟨rfl, rfl⟩
def f_X9_years_b50 (N : Nat) : Nat → Int32 → Int32 → St → Option (Int32 × St)
  | 0, _, _, _ => none
  | n + 1, x2, x3, S =>
  if x2 ≤ x3 then
  (some (gI S 407 0 0, S))
  else
  (bnd (f_X2_passYear N 0 S ) fun q3 =>
 lt (x3 + (1 : Int32)) fun v4 =>
  f_X9_years_b50 N n x2 v4 q3)
set_option maxRecDepth 100000 in
set_option maxHeartbeats 4000000 in
theorem tb_X9_years_50 {l : Launch} {G : v_G} {N : Nat}    {r : Int32 × St}   : ∀ (n : Nat) (x2 : Int32) (x3 : Int32) (S : St),  f_X9_years_b50 N n x2 x3 S = some r → V l G yX9_years cX9_years 4 (some .int) (v_rm 6 0 0) (QI r.1 (lay G r.2)) 0 0 50 [(0, .ref (v_B G + 0)), (2, .int x2), (3, .int x3)] [] (lay G S) := by
  intro n
  induction n with
  | zero =>
    intro x2 x3 S  hh
    rw [f_X9_years_b50] at hh
    cases hh
  | succ n ih =>
    intro x2 x3 S  hh
    rw [f_X9_years_b50] at hh
    refine v_iload_n 2 dX9_years_50 rfl rfl ?_
    refine v_iload_n 1 dX9_years_51 rfl rfl ?_
    refine v_icmp_ge (tgt := 75) dX9_years_52 (by decide) (fun c => ?_) (fun c => ?_)
    · replace hh := (if_pos c).symm.trans hh
      refine v_aload_n 0 dX9_years_75 rfl rfl ?_
      refine r_RolledOut_now dX9_years_76 fl_X9_12 ?_
      refine r_World_sheet (by decide) dX9_years_79 fl_X9_122 ?_
      refine r_Sheet_turn (by decide) dX9_years_82 fl_X9_151 ?_
      obtain rfl := Option.some.inj hh
      exact v_iret dX9_years_85 rfl (Nat.zero_le _) (Nat.zero_le _) ⟨rfl, rfl⟩
    · replace hh := (if_neg c).symm.trans hh
      refine v_aload_n 0 dX9_years_55 rfl rfl ?_
      refine r_RolledOut_rules dX9_years_56 fl_X9_24 ?_
      refine v_aload_n 0 dX9_years_59 rfl rfl ?_
      refine r_RolledOut_now dX9_years_60 fl_X9_12 ?_
      refine r_World_sheet (by decide) dX9_years_63 fl_X9_122 ?_
      obtain ⟨q3, eq3, hh⟩ := bnd_some hh
      refine v_callVv (t_X2_passYear (by decide) eq3) dX9_years_66 y_X2_passYear ml_X9_178 (ci := 1) rfl rfl (e_Rules) rfl rfl (Nat.le_of_ble_eq_true rfl) ⟨(Nat.le_of_ble_eq_true rfl), (Nat.le_of_ble_eq_true rfl)⟩ ⟨Nat.zero_le _, Nat.zero_le _⟩ ?_
      refine v_iinc (v := _ + (1 : Int32)) 2 dX9_years_69 rfl rfl (by decide) rfl ?_
      replace hh := lt_of hh
      refine v_goto (tgt := 50) dX9_years_72 (by decide) ?_
      exact v_sub [1, 2, 0] rfl (ih _ _ _ hh)
def f_X9_years (N : Nat) (S : St) (x1 : Int32) (x2 : Int32) : Option (Int32 × St) :=
  if x1 < (0 : Int32) then
  (some ((-1 : Int32), S))
  else
  (if (9999 : Int32) < x1 then
  (some ((-1 : Int32), S))
  else
  (if x2 < (1 : Int32) then
  (some ((-1 : Int32), S))
  else
  (if x2 ≤ (40 : Int32) then
  (bnd (f_X8_keepStep 0 S ) fun q1 =>
 lt (sI q1 408 0 0 ((x1 * (2 : Int32)) + (281 : Int32))) fun S2 =>
  f_X9_years_b50 N N x2 (0 : Int32) S2)
  else
  (some ((-1 : Int32), S)))))
set_option maxRecDepth 100000 in
set_option maxHeartbeats 4000000 in
theorem t_X9_years {l : Launch} {G : v_G} {N : Nat} {S : St}   {x1 : Int32} {x2 : Int32} {r : Int32 × St} (hh : f_X9_years N S x1 x2 = some r) : v_M l G yX9_years cX9_years 4 (some .int) 6 0 0 [.ref (v_B G + 0), .int x1, .int x2] (lay G S) (QI r.1 (lay G r.2)) := by
  refine v_entry (by decide) (Nat.le_of_ble_eq_true rfl) ?_
  unfold f_X9_years at hh
  show V l G yX9_years cX9_years 4 (some .int) (v_rm 6 0 0) (QI r.1 (lay G r.2)) 0 0 0 [(0, .ref (v_B G + 0)), (1, .int x1), (2, .int x2)] [] (lay G S)
  refine v_iload_n 1 dX9_years_0 rfl rfl ?_
  refine v_if_lt (tgt := 22) dX9_years_1 (by decide) (fun c => ?_) (fun c => ?_)
  · replace hh := (if_pos c).symm.trans hh
    refine v_iconst dX9_years_22 (by decide : _ = (-1 : Int32)) ?_
    obtain rfl := Option.some.inj hh
    exact v_iret dX9_years_23 rfl (Nat.zero_le _) (Nat.zero_le _) ⟨rfl, rfl⟩
  · replace hh := (if_neg c).symm.trans hh
    refine v_iload_n 1 dX9_years_4 rfl rfl ?_
    refine v_sipush dX9_years_5 (by decide : _ = (9999 : Int32)) ?_
    refine v_icmp_gt (tgt := 22) dX9_years_8 (by decide) (fun c => ?_) (fun c => ?_)
    · replace hh := (if_pos c).symm.trans hh
      refine v_iconst dX9_years_22 (by decide : _ = (-1 : Int32)) ?_
      obtain rfl := Option.some.inj hh
      exact v_iret dX9_years_23 rfl (Nat.zero_le _) (Nat.zero_le _) ⟨rfl, rfl⟩
    · replace hh := (if_neg c).symm.trans hh
      refine v_iload_n 2 dX9_years_11 rfl rfl ?_
      refine v_iconst dX9_years_12 (by decide : _ = (1 : Int32)) ?_
      refine v_icmp_lt (tgt := 22) dX9_years_13 (by decide) (fun c => ?_) (fun c => ?_)
      · replace hh := (if_pos c).symm.trans hh
        refine v_iconst dX9_years_22 (by decide : _ = (-1 : Int32)) ?_
        obtain rfl := Option.some.inj hh
        exact v_iret dX9_years_23 rfl (Nat.zero_le _) (Nat.zero_le _) ⟨rfl, rfl⟩
      · replace hh := (if_neg c).symm.trans hh
        refine v_iload_n 2 dX9_years_16 rfl rfl ?_
        refine v_bipush dX9_years_17 (by decide : _ = (40 : Int32)) ?_
        refine v_icmp_le (tgt := 24) dX9_years_19 (by decide) (fun c => ?_) (fun c => ?_)
        · replace hh := (if_pos c).symm.trans hh
          refine v_aload_n 0 dX9_years_24 rfl rfl ?_
          refine r_RolledOut_now dX9_years_25 fl_X9_12 ?_
          obtain ⟨q1, eq1, hh⟩ := bnd_some hh
          refine v_callVv (t_X8_keepStep (by decide) eq1) dX9_years_28 y_X8_keepStep ml_X9_131 (ci := 7) rfl rfl (e_World (by decide)) rfl rfl (Nat.le_of_ble_eq_true rfl) ⟨(Nat.le_of_ble_eq_true rfl), (Nat.le_of_ble_eq_true rfl)⟩ ⟨Nat.zero_le _, Nat.zero_le _⟩ ?_
          refine v_aload_n 0 dX9_years_31 rfl rfl ?_
          refine r_RolledOut_now dX9_years_32 fl_X9_12 ?_
          refine r_World_sheet (by decide) dX9_years_35 fl_X9_122 ?_
          refine v_iload_n 1 dX9_years_38 rfl rfl ?_
          refine v_iconst dX9_years_39 (by decide : _ = (2 : Int32)) ?_
          refine v_imul dX9_years_40 ?_
          refine v_sipush dX9_years_41 (by decide : _ = (281 : Int32)) ?_
          refine v_iadd dX9_years_44 ?_
          refine w_Sheet_draw (by decide) dX9_years_45 fl_X9_175 ?_
          replace hh := lt_of hh
          refine v_iconst dX9_years_48 (by decide : _ = (0 : Int32)) ?_
          refine v_istore_n dX9_years_49 rfl (by decide) rfl ?_
          exact v_sub [1, 3, 0] rfl (tb_X9_years_50 N _ _ _ hh)
        · replace hh := (if_neg c).symm.trans hh
          refine v_iconst dX9_years_22 (by decide : _ = (-1 : Int32)) ?_
          obtain rfl := Option.some.inj hh
          exact v_iret dX9_years_23 rfl (Nat.zero_le _) (Nat.zero_le _) ⟨rfl, rfl⟩
