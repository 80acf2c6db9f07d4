def f_X10_isIn  (S : St) (x0 : Int32) (x1 : Int32) (x2 : Int32) : Option (Int32) :=
  if x0 < x1 then
  (some (0 : Int32))
  else
  (if x2 < x0 then
  (some (0 : Int32))
  else
  (some (1 : Int32)))
set_option maxRecDepth 100000 in
set_option maxHeartbeats 4000000 in
theorem t_X10_isIn {l : Launch} {G : v_G} {S : St}   {x0 : Int32} {x1 : Int32} {x2 : Int32} {r : Int32} (hh : f_X10_isIn  S x0 x1 x2 = some r) : v_M l G yX10_isIn cX10_isIn 3 (some .boolean) 0 0 0 [.int x0, .int x1, .int x2] (lay G S) (QI r (lay G S)) := by
  refine v_entry (by decide) (Nat.le_of_ble_eq_true rfl) ?_
  unfold f_X10_isIn at hh
  show V l G yX10_isIn cX10_isIn 3 (some .boolean) (v_rm 0 0 0) (QI r (lay G S)) 0 0 0 [(0, .int x0), (1, .int x1), (2, .int x2)] [] (lay G S)
  refine v_iload_n 0 dX10_isIn_0 rfl rfl ?_
  refine v_iload_n 1 dX10_isIn_1 rfl rfl ?_
  refine v_icmp_lt (tgt := 14) dX10_isIn_2 (by decide) (fun c => ?_) (fun c => ?_)
  · replace hh := (if_pos c).symm.trans hh
    refine v_iconst dX10_isIn_14 (by decide : _ = (0 : Int32)) ?_
    obtain rfl := Option.some.inj hh
    exact v_zret dX10_isIn_15 rfl (zb (by decide)).1 (Nat.zero_le _) (Nat.zero_le _) ⟨rfl, rfl⟩
  · replace hh := (if_neg c).symm.trans hh
    refine v_iload_n 0 dX10_isIn_5 rfl rfl ?_
    refine v_iload_n 2 dX10_isIn_6 rfl rfl ?_
    refine v_icmp_gt (tgt := 14) dX10_isIn_7 (by decide) (fun c => ?_) (fun c => ?_)
    · replace hh := (if_pos c).symm.trans hh
      refine v_iconst dX10_isIn_14 (by decide : _ = (0 : Int32)) ?_
      obtain rfl := Option.some.inj hh
      exact v_zret dX10_isIn_15 rfl (zb (by decide)).1 (Nat.zero_le _) (Nat.zero_le _) ⟨rfl, rfl⟩
    · replace hh := (if_neg c).symm.trans hh
      refine v_iconst dX10_isIn_10 (by decide : _ = (1 : Int32)) ?_
      refine v_goto (tgt := 15) dX10_isIn_11 (by decide) ?_
      obtain rfl := Option.some.inj hh
      exact v_zret dX10_isIn_15 rfl (zb (by decide)).1 (Nat.zero_le _) (Nat.zero_le _) ⟨rfl, rfl⟩
def f_X10_cut  (S : St) (x0 : Int64) (x2 : Int32) (x3 : Int32) : Option (Int32) :=
  if (0 : Int32) ≤ (lg_cmp x0 x2.toInt64) then
  (if (lg_cmp x0 x3.toInt64) ≤ (0 : Int32) then
  (some x0.toInt32)
  else
  (some x3))
  else
  (some x2)
set_option maxRecDepth 100000 in
set_option maxHeartbeats 4000000 in
theorem t_X10_cut {l : Launch} {G : v_G} {S : St}   {x0 : Int64} {x2 : Int32} {x3 : Int32} {r : Int32} (hh : f_X10_cut  S x0 x2 x3 = some r) : v_M l G yX10_cut cX10_cut 4 (some .int) 0 0 0 [.long x0, .int x2, .int x3] (lay G S) (QI r (lay G S)) := by
  refine v_entry (by decide) (Nat.le_of_ble_eq_true rfl) ?_
  unfold f_X10_cut at hh
  show V l G yX10_cut cX10_cut 4 (some .int) (v_rm 0 0 0) (QI r (lay G S)) 0 0 0 [(0, .long x0), (2, .int x2), (3, .int x3)] [] (lay G S)
  refine v_lload_n 0 dX10_cut_0 rfl rfl ?_
  refine v_iload_n 1 dX10_cut_1 rfl rfl ?_
  refine v_i2l dX10_cut_2 ?_
  refine v_lcmp dX10_cut_3 ?_
  refine v_if_ge (tgt := 11) dX10_cut_4 (by decide) (fun c => ?_) (fun c => ?_)
  · replace hh := (if_pos c).symm.trans hh
    refine v_lload_n 0 dX10_cut_11 rfl rfl ?_
    refine v_iload_n 2 dX10_cut_12 rfl rfl ?_
    refine v_i2l dX10_cut_13 ?_
    refine v_lcmp dX10_cut_14 ?_
    refine v_if_le (tgt := 22) dX10_cut_15 (by decide) (fun c => ?_) (fun c => ?_)
    · replace hh := (if_pos c).symm.trans hh
      refine v_lload_n 0 dX10_cut_22 rfl rfl ?_
      refine v_l2i dX10_cut_23 ?_
      obtain rfl := Option.some.inj hh
      exact v_iret dX10_cut_24 rfl (Nat.zero_le _) (Nat.zero_le _) ⟨rfl, rfl⟩
    · replace hh := (if_neg c).symm.trans hh
      refine v_iload_n 2 dX10_cut_18 rfl rfl ?_
      refine v_goto (tgt := 24) dX10_cut_19 (by decide) ?_
      obtain rfl := Option.some.inj hh
      exact v_iret dX10_cut_24 rfl (Nat.zero_le _) (Nat.zero_le _) ⟨rfl, rfl⟩
  · replace hh := (if_neg c).symm.trans hh
    refine v_iload_n 1 dX10_cut_7 rfl rfl ?_
    refine v_goto (tgt := 24) dX10_cut_8 (by decide) ?_
    obtain rfl := Option.some.inj hh
    exact v_iret dX10_cut_24 rfl (Nat.zero_le _) (Nat.zero_le _) ⟨rfl, rfl⟩
def f_X10_has  (S : St) (x0 : Int32) (x1 : Int32) : Option (Int32) :=
  if ((x0 >>> (x1 &&& 31)) &&& (1 : Int32)) = (1 : Int32) then
  (some (1 : Int32))
  else
  (some (0 : Int32))
set_option maxRecDepth 100000 in
set_option maxHeartbeats 4000000 in
theorem t_X10_has {l : Launch} {G : v_G} {S : St}   {x0 : Int32} {x1 : Int32} {r : Int32} (hh : f_X10_has  S x0 x1 = some r) : v_M l G yX10_has cX10_has 2 (some .boolean) 0 0 0 [.int x0, .int x1] (lay G S) (QI r (lay G S)) := by
  refine v_entry (by decide) (Nat.le_of_ble_eq_true rfl) ?_
  unfold f_X10_has at hh
  show V l G yX10_has cX10_has 2 (some .boolean) (v_rm 0 0 0) (QI r (lay G S)) 0 0 0 [(0, .int x0), (1, .int x1)] [] (lay G S)
  refine v_iload_n 0 dX10_has_0 rfl rfl ?_
  refine v_iload_n 1 dX10_has_1 rfl rfl ?_
  refine v_ishr dX10_has_2 ?_
  refine v_iconst dX10_has_3 (by decide : _ = (1 : Int32)) ?_
  refine v_iand dX10_has_4 ?_
  refine v_iconst dX10_has_5 (by decide : _ = (1 : Int32)) ?_
  refine v_icmp_ne (tgt := 13) dX10_has_6 (by decide) (fun c => ?_) (fun c => ?_)
  · replace hh := (if_neg c).symm.trans hh
    refine v_iconst dX10_has_13 (by decide : _ = (0 : Int32)) ?_
    obtain rfl := Option.some.inj hh
    exact v_zret dX10_has_14 rfl (zb (by decide)).1 (Nat.zero_le _) (Nat.zero_le _) ⟨rfl, rfl⟩
  · replace hh := (if_pos c).symm.trans hh
    refine v_iconst dX10_has_9 (by decide : _ = (1 : Int32)) ?_
    refine v_goto (tgt := 14) dX10_has_10 (by decide) ?_
    obtain rfl := Option.some.inj hh
    exact v_zret dX10_has_14 rfl (zb (by decide)).1 (Nat.zero_le _) (Nat.zero_le _) ⟨rfl, rfl⟩
def f_X10_isHand  (S : St) (x1 : Int32) : Option (Int32) :=
  bnd (f_X10_isIn S x1 (0 : Int32) ((gI S 1000 0 0) - (1 : Int32))) fun q2 =>
 chk (isz q2) (some q2)
set_option maxRecDepth 100000 in
set_option maxHeartbeats 4000000 in
theorem t_X10_isHand {l : Launch} {G : v_G} {S : St}   {x1 : Int32} {r : Int32} (hh : f_X10_isHand  S x1 = some r) : v_M l G yX10_isHand cX10_isHand 2 (some .boolean) 1 0 0 [.ref (v_B G + 291), .int x1] (lay G S) (QI r (lay G S)) := by
  refine v_entry (by decide) (Nat.le_of_ble_eq_true rfl) ?_
  unfold f_X10_isHand at hh
  show V l G yX10_isHand cX10_isHand 2 (some .boolean) (v_rm 1 0 0) (QI r (lay G S)) 0 0 0 [(0, .ref (v_B G + 291)), (1, .int x1)] [] (lay G S)
  refine v_iload_n 1 dX10_isHand_0 rfl rfl ?_
  refine v_iconst dX10_isHand_1 (by decide : _ = (0 : Int32)) ?_
  refine v_aload_n 0 dX10_isHand_2 rfl rfl ?_
  refine r_Model_a dX10_isHand_3 fl_X10_7 ?_
  refine v_iconst dX10_isHand_6 (by decide : _ = (0 : Int32)) ?_
  refine ld_ma dX10_isHand_7 (inb_in (by decide)) ?_
  refine v_iconst dX10_isHand_8 (by decide : _ = (1 : Int32)) ?_
  refine v_isub dX10_isHand_9 ?_
  obtain ⟨q2, eq2, hh⟩ := bnd_some hh
  refine v_callSi (t_X10_isIn eq2) dX10_isHand_10 y_X10_isIn ml_X10_63 rfl rfl (Nat.le_of_ble_eq_true rfl) ⟨(Nat.le_of_ble_eq_true rfl), (Nat.le_of_ble_eq_true rfl)⟩ ⟨Nat.zero_le _, Nat.zero_le _⟩ ?_
  obtain ⟨g, hh⟩ := chk_some hh
  obtain rfl := Option.some.inj hh
  exact v_zret dX10_isHand_13 rfl (zb (isz_or g)).1 (Nat.zero_le _) (Nat.zero_le _) ⟨rfl, rfl⟩
def f_X10_isCell  (S : St) (x0 : Int32) : Option (Int32) :=
  bnd (f_X10_isIn S x0 (0 : Int32) (11 : Int32)) fun q1 =>
 chk (isz q1) (some q1)
set_option maxRecDepth 100000 in
set_option maxHeartbeats 4000000 in
theorem t_X10_isCell {l : Launch} {G : v_G} {S : St}   {x0 : Int32} {r : Int32} (hh : f_X10_isCell  S x0 = some r) : v_M l G yX10_isCell cX10_isCell 1 (some .boolean) 1 0 0 [.int x0] (lay G S) (QI r (lay G S)) := by
  refine v_entry (by decide) (Nat.le_of_ble_eq_true rfl) ?_
  unfold f_X10_isCell at hh
  show V l G yX10_isCell cX10_isCell 1 (some .boolean) (v_rm 1 0 0) (QI r (lay G S)) 0 0 0 [(0, .int x0)] [] (lay G S)
  refine v_iload_n 0 dX10_isCell_0 rfl rfl ?_
  refine v_iconst dX10_isCell_1 (by decide : _ = (0 : Int32)) ?_
  refine v_bipush dX10_isCell_2 (by decide : _ = (11 : Int32)) ?_
  obtain ⟨q1, eq1, hh⟩ := bnd_some hh
  refine v_callSi (t_X10_isIn eq1) dX10_isCell_4 y_X10_isIn ml_X10_63 rfl rfl (Nat.le_of_ble_eq_true rfl) ⟨(Nat.le_of_ble_eq_true rfl), (Nat.le_of_ble_eq_true rfl)⟩ ⟨Nat.zero_le _, Nat.zero_le _⟩ ?_
  obtain ⟨g, hh⟩ := chk_some hh
  obtain rfl := Option.some.inj hh
  exact v_zret dX10_isCell_7 rfl (zb (isz_or g)).1 (Nat.zero_le _) (Nat.zero_le _) ⟨rfl, rfl⟩
def f_X10_townsIn_b4 (N : Nat) : Nat → Int32 → Int32 → Int32 → St → Option (Int32)
  | 0, _, _, _, _ => none
  | n + 1, x1, x2, x3, S =>
  if (gI S 1000 0 1) ≤ x3 then
  (some x2)
  else
  (chk (inb ((35 : Int32) + x3) 3015) (
  if (gI S 1000 0 ((35 : Int32) + x3).toNatClampNeg) = x1 then
  (lt (x2 ||| ((1 : Int32) <<< (x3 &&& 31))) fun v5 =>
  lt (x3 + (1 : Int32)) fun v6 =>
  f_X10_townsIn_b4 N n x1 v5 v6 S)
  else
  (lt (x2 ||| (0 : Int32)) fun v3 =>
  lt (x3 + (1 : Int32)) fun v4 =>
  f_X10_townsIn_b4 N n x1 v3 v4 S)))
set_option maxRecDepth 100000 in
set_option maxHeartbeats 4000000 in
theorem tb_X10_townsIn_4 {l : Launch} {G : v_G} {N : Nat}    {r : Int32} {S0 : St}   : ∀ (n : Nat) (x1 : Int32) (x2 : Int32) (x3 : Int32) (S : St),  S = S0 → f_X10_townsIn_b4 N n x1 x2 x3 S = some r → V l G yX10_townsIn cX10_townsIn 4 (some .int) (v_rm 0 0 0) (QI r (lay G S0)) 0 0 4 [(0, .ref (v_B G + 291)), (1, .int x1), (2, .int x2), (3, .int x3)] [] (lay G S) := by
  intro n
  induction n with
  | zero =>
    intro x1 x2 x3 S  hS0 hh
    rw [f_X10_townsIn_b4] at hh
    cases hh
  | succ n ih =>
    intro x1 x2 x3 S  hS0 hh
    rw [f_X10_townsIn_b4] at hh
    refine v_iload_n 3 dX10_townsIn_4 rfl rfl ?_
    refine v_aload_n 0 dX10_townsIn_5 rfl rfl ?_
    refine r_Model_a dX10_townsIn_6 fl_X10_7 ?_
    refine v_iconst dX10_townsIn_9 (by decide : _ = (1 : Int32)) ?_
    refine ld_ma dX10_townsIn_10 (inb_in (by decide)) ?_
    refine v_icmp_ge (tgt := 43) dX10_townsIn_11 (by decide) (fun c => ?_) (fun c => ?_)
    · replace hh := (if_pos c).symm.trans hh
      refine v_iload_n 2 dX10_townsIn_43 rfl rfl ?_
      obtain rfl := Option.some.inj hh
      exact v_iret dX10_townsIn_44 rfl (Nat.zero_le _) (Nat.zero_le _) ⟨rfl, by rw [hS0]⟩
    · replace hh := (if_neg c).symm.trans hh
      refine v_iload_n 2 dX10_townsIn_14 rfl rfl ?_
      refine v_aload_n 0 dX10_townsIn_15 rfl rfl ?_
      refine r_Model_a dX10_townsIn_16 fl_X10_7 ?_
      refine v_bipush dX10_townsIn_19 (by decide : _ = (35 : Int32)) ?_
      refine v_iload_n 3 dX10_townsIn_21 rfl rfl ?_
      refine v_iadd dX10_townsIn_22 ?_
      obtain ⟨g2, hh⟩ := chk_some hh
      replace g2 := inb_in g2
      refine ld_ma dX10_townsIn_23 g2 ?_
      refine v_iload_n 1 dX10_townsIn_24 rfl rfl ?_
      refine v_icmp_ne (tgt := 34) dX10_townsIn_25 (by decide) (fun c => ?_) (fun c => ?_)
      · replace hh := (if_neg c).symm.trans hh
        refine v_iconst dX10_townsIn_34 (by decide : _ = (0 : Int32)) ?_
        refine v_ior dX10_townsIn_35 ?_
        refine v_istore_n dX10_townsIn_36 rfl (by decide) rfl ?_
        replace hh := lt_of hh
        refine v_iinc (v := _ + (1 : Int32)) 3 dX10_townsIn_37 rfl rfl (by decide) rfl ?_
        replace hh := lt_of hh
        refine v_goto (tgt := 4) dX10_townsIn_40 (by decide) ?_
        exact v_sub [2, 3, 1, 0] rfl (ih _ _ _ _ hS0 hh)
      · replace hh := (if_pos c).symm.trans hh
        refine v_iconst dX10_townsIn_28 (by decide : _ = (1 : Int32)) ?_
        refine v_iload_n 3 dX10_townsIn_29 rfl rfl ?_
        refine v_ishl dX10_townsIn_30 ?_
        refine v_goto (tgt := 35) dX10_townsIn_31 (by decide) ?_
        refine v_ior dX10_townsIn_35 ?_
        refine v_istore_n dX10_townsIn_36 rfl (by decide) rfl ?_
        replace hh := lt_of hh
        refine v_iinc (v := _ + (1 : Int32)) 3 dX10_townsIn_37 rfl rfl (by decide) rfl ?_
        replace hh := lt_of hh
        refine v_goto (tgt := 4) dX10_townsIn_40 (by decide) ?_
        exact v_sub [2, 3, 1, 0] rfl (ih _ _ _ _ hS0 hh)
def f_X10_townsIn (N : Nat) (S : St) (x1 : Int32) : Option (Int32) :=
  f_X10_townsIn_b4 N N x1 (0 : Int32) (0 : Int32) S
set_option maxRecDepth 100000 in
set_option maxHeartbeats 4000000 in
theorem t_X10_townsIn {l : Launch} {G : v_G} {N : Nat} {S : St}   {x1 : Int32} {r : Int32} (hh : f_X10_townsIn N S x1 = some r) : v_M l G yX10_townsIn cX10_townsIn 4 (some .int) 0 0 0 [.ref (v_B G + 291), .int x1] (lay G S) (QI r (lay G S)) := by
  refine v_entry (by decide) (Nat.le_of_ble_eq_true rfl) ?_
  unfold f_X10_townsIn at hh
  show V l G yX10_townsIn cX10_townsIn 4 (some .int) (v_rm 0 0 0) (QI r (lay G S)) 0 0 0 [(0, .ref (v_B G + 291)), (1, .int x1)] [] (lay G S)
  refine v_iconst dX10_townsIn_0 (by decide : _ = (0 : Int32)) ?_
  refine v_istore_n dX10_townsIn_1 rfl (by decide) rfl ?_
  refine v_iconst dX10_townsIn_2 (by decide : _ = (0 : Int32)) ?_
  refine v_istore_n dX10_townsIn_3 rfl (by decide) rfl ?_
  exact v_sub [2, 3, 1, 0] rfl (tb_X10_townsIn_4 N _ _ _ _ rfl hh)
def f_X10_tornNow_b4 (N : Nat) : Nat → Int32 → Int32 → St → Option (Int32)
  | 0, _, _, _ => none
  | n + 1, x1, x2, S =>
  if (12 : Int32) ≤ x2 then
  (some x1)
  else
  (chk (inb ((23 : Int32) + x2) 3015) (
  lt (x1 ||| ((gI S 1000 0 ((23 : Int32) + x2).toNatClampNeg) <<< (x2 &&& 31))) fun v2 =>
  lt (x2 + (1 : Int32)) fun v3 =>
  f_X10_tornNow_b4 N n v2 v3 S))
set_option maxRecDepth 100000 in
set_option maxHeartbeats 4000000 in
theorem tb_X10_tornNow_4 {l : Launch} {G : v_G} {N : Nat}    {r : Int32} {S0 : St}   : ∀ (n : Nat) (x1 : Int32) (x2 : Int32) (S : St),  S = S0 → f_X10_tornNow_b4 N n x1 x2 S = some r → V l G yX10_tornNow cX10_tornNow 3 (some .int) (v_rm 0 0 0) (QI r (lay G S0)) 0 0 4 [(0, .ref (v_B G + 291)), (1, .int x1), (2, .int x2)] [] (lay G S) := by
  intro n
  induction n with
  | zero =>
    intro x1 x2 S  hS0 hh
    rw [f_X10_tornNow_b4] at hh
    cases hh
  | succ n ih =>
    intro x1 x2 S  hS0 hh
    rw [f_X10_tornNow_b4] at hh
    refine v_iload_n 2 dX10_tornNow_4 rfl rfl ?_
    refine v_bipush dX10_tornNow_5 (by decide : _ = (12 : Int32)) ?_
    refine v_icmp_ge (tgt := 30) dX10_tornNow_7 (by decide) (fun c => ?_) (fun c => ?_)
    · replace hh := (if_pos c).symm.trans hh
      refine v_iload_n 1 dX10_tornNow_30 rfl rfl ?_
      obtain rfl := Option.some.inj hh
      exact v_iret dX10_tornNow_31 rfl (Nat.zero_le _) (Nat.zero_le _) ⟨rfl, by rw [hS0]⟩
    · replace hh := (if_neg c).symm.trans hh
      refine v_iload_n 1 dX10_tornNow_10 rfl rfl ?_
      refine v_aload_n 0 dX10_tornNow_11 rfl rfl ?_
      refine r_Model_a dX10_tornNow_12 fl_X10_7 ?_
      refine v_bipush dX10_tornNow_15 (by decide : _ = (23 : Int32)) ?_
      refine v_iload_n 2 dX10_tornNow_17 rfl rfl ?_
      refine v_iadd dX10_tornNow_18 ?_
      obtain ⟨g1, hh⟩ := chk_some hh
      replace g1 := inb_in g1
      refine ld_ma dX10_tornNow_19 g1 ?_
      refine v_iload_n 2 dX10_tornNow_20 rfl rfl ?_
      refine v_ishl dX10_tornNow_21 ?_
      refine v_ior dX10_tornNow_22 ?_
      refine v_istore_n dX10_tornNow_23 rfl (by decide) rfl ?_
      replace hh := lt_of hh
      refine v_iinc (v := _ + (1 : Int32)) 2 dX10_tornNow_24 rfl rfl (by decide) rfl ?_
      replace hh := lt_of hh
      refine v_goto (tgt := 4) dX10_tornNow_27 (by decide) ?_
      exact v_sub [2, 1, 0] rfl (ih _ _ _ hS0 hh)
def f_X10_tornNow (N : Nat) (S : St)  : Option (Int32) :=
  f_X10_tornNow_b4 N N (0 : Int32) (0 : Int32) S
set_option maxRecDepth 100000 in
set_option maxHeartbeats 4000000 in
theorem t_X10_tornNow {l : Launch} {G : v_G} {N : Nat} {S : St}    {r : Int32} (hh : f_X10_tornNow N S  = some r) : v_M l G yX10_tornNow cX10_tornNow 3 (some .int) 0 0 0 [.ref (v_B G + 291)] (lay G S) (QI r (lay G S)) := by
  refine v_entry (by decide) (Nat.le_of_ble_eq_true rfl) ?_
  unfold f_X10_tornNow at hh
  show V l G yX10_tornNow cX10_tornNow 3 (some .int) (v_rm 0 0 0) (QI r (lay G S)) 0 0 0 [(0, .ref (v_B G + 291))] [] (lay G S)
  refine v_iconst dX10_tornNow_0 (by decide : _ = (0 : Int32)) ?_
  refine v_istore_n dX10_tornNow_1 rfl (by decide) rfl ?_
  refine v_iconst dX10_tornNow_2 (by decide : _ = (0 : Int32)) ?_
  refine v_istore_n dX10_tornNow_3 rfl (by decide) rfl ?_
  exact v_sub [2, 1, 0] rfl (tb_X10_tornNow_4 N _ _ _ rfl hh)
def f_X10_doughOf_b5 (N : Nat) : Nat → Int32 → Int32 → Int32 → Int32 → St → Option (Int32)
  | 0, _, _, _, _, _ => none
  | n + 1, x1, x2, x3, x4, S =>
  if (x1 + x2) ≤ x4 then
  (some x3)
  else
  (chk (inb ((11 : Int32) + x4) 3015) (
  lt (x3 + (gI S 1000 0 ((11 : Int32) + x4).toNatClampNeg)) fun v2 =>
  lt (x4 + (1 : Int32)) fun v3 =>
  f_X10_doughOf_b5 N n x1 x2 v2 v3 S))
set_option maxRecDepth 100000 in
set_option maxHeartbeats 4000000 in
theorem tb_X10_doughOf_5 {l : Launch} {G : v_G} {N : Nat}    {r : Int32} {S0 : St}   : ∀ (n : Nat) (x1 : Int32) (x2 : Int32) (x3 : Int32) (x4 : Int32) (S : St),  S = S0 → f_X10_doughOf_b5 N n x1 x2 x3 x4 S = some r → V l G yX10_doughOf cX10_doughOf 5 (some .int) (v_rm 0 0 0) (QI r (lay G S0)) 0 0 5 [(0, .ref (v_B G + 291)), (1, .int x1), (2, .int x2), (3, .int x3), (4, .int x4)] [] (lay G S) := by
  intro n
  induction n with
  | zero =>
    intro x1 x2 x3 x4 S  hS0 hh
    rw [f_X10_doughOf_b5] at hh
    cases hh
  | succ n ih =>
    intro x1 x2 x3 x4 S  hS0 hh
    rw [f_X10_doughOf_b5] at hh
    refine v_iload 4 dX10_doughOf_5 rfl ?_
    refine v_iload_n 1 dX10_doughOf_7 rfl rfl ?_
    refine v_iload_n 2 dX10_doughOf_8 rfl rfl ?_
    refine v_iadd dX10_doughOf_9 ?_
    refine v_icmp_ge (tgt := 32) dX10_doughOf_10 (by decide) (fun c => ?_) (fun c => ?_)
    · replace hh := (if_pos c).symm.trans hh
      refine v_iload_n 3 dX10_doughOf_32 rfl rfl ?_
      obtain rfl := Option.some.inj hh
      exact v_iret dX10_doughOf_33 rfl (Nat.zero_le _) (Nat.zero_le _) ⟨rfl, by rw [hS0]⟩
    · replace hh := (if_neg c).symm.trans hh
      refine v_iload_n 3 dX10_doughOf_13 rfl rfl ?_
      refine v_aload_n 0 dX10_doughOf_14 rfl rfl ?_
      refine r_Model_a dX10_doughOf_15 fl_X10_7 ?_
      refine v_bipush dX10_doughOf_18 (by decide : _ = (11 : Int32)) ?_
      refine v_iload 4 dX10_doughOf_20 rfl ?_
      refine v_iadd dX10_doughOf_22 ?_
      obtain ⟨g1, hh⟩ := chk_some hh
      replace g1 := inb_in g1
      refine ld_ma dX10_doughOf_23 g1 ?_
      refine v_iadd dX10_doughOf_24 ?_
      refine v_istore_n dX10_doughOf_25 rfl (by decide) rfl ?_
      replace hh := lt_of hh
      refine v_iinc (v := _ + (1 : Int32)) 4 dX10_doughOf_26 rfl rfl (by decide) rfl ?_
      replace hh := lt_of hh
      refine v_goto (tgt := 5) dX10_doughOf_29 (by decide) ?_
      exact v_sub [2, 3, 4, 1, 0] rfl (ih _ _ _ _ _ hS0 hh)
def f_X10_doughOf (N : Nat) (S : St) (x1 : Int32) (x2 : Int32) : Option (Int32) :=
  f_X10_doughOf_b5 N N x1 x2 (0 : Int32) x1 S
set_option maxRecDepth 100000 in
set_option maxHeartbeats 4000000 in
theorem t_X10_doughOf {l : Launch} {G : v_G} {N : Nat} {S : St}   {x1 : Int32} {x2 : Int32} {r : Int32} (hh : f_X10_doughOf N S x1 x2 = some r) : v_M l G yX10_doughOf cX10_doughOf 5 (some .int) 0 0 0 [.ref (v_B G + 291), .int x1, .int x2] (lay G S) (QI r (lay G S)) := by
  refine v_entry (by decide) (Nat.le_of_ble_eq_true rfl) ?_
  unfold f_X10_doughOf at hh
  show V l G yX10_doughOf cX10_doughOf 5 (some .int) (v_rm 0 0 0) (QI r (lay G S)) 0 0 0 [(0, .ref (v_B G + 291)), (1, .int x1), (2, .int x2)] [] (lay G S)
  refine v_iconst dX10_doughOf_0 (by decide : _ = (0 : Int32)) ?_
  refine v_istore_n dX10_doughOf_1 rfl (by decide) rfl ?_
  refine v_iload_n 2 dX10_doughOf_2 rfl rfl ?_
  refine v_istore dX10_doughOf_3 (by decide) rfl ?_
  exact v_sub [2, 3, 4, 1, 0] rfl (tb_X10_doughOf_5 N _ _ _ _ _ rfl hh)
def f_X10_hand  (S : St) (x1 : Int32) : Option (Int32 × St) :=
  bnd (f_X10_isIn S x1 (1 : Int32) (9 : Int32)) fun q1 =>
 if q1 = (0 : Int32) then
  (some ((-1 : Int32), S))
  else
  (if (gI S 1000 0 0) = (4 : Int32) then
  (some ((-1 : Int32), S))
  else
  (chk (inb ((47 : Int32) + (gI S 1000 0 0)) 3015) (
  lt (sI S 1000 0 (((47 : Int32) + (gI S 1000 0 0)).toNatClampNeg) x1) fun S5 =>
  lt (sI S5 1000 0 0 ((gI S5 1000 0 0) + (1 : Int32))) fun S8 =>
  some ((gI S8 1000 0 0) - (1 : Int32), S8))))
set_option maxRecDepth 100000 in
set_option maxHeartbeats 4000000 in
theorem t_X10_hand {l : Launch} {G : v_G} {S : St}   {x1 : Int32} {r : Int32 × St} (hh : f_X10_hand  S x1 = some r) : v_M l G yX10_hand cX10_hand 2 (some .int) 1 0 0 [.ref (v_B G + 291), .int x1] (lay G S) (QI r.1 (lay G r.2)) := by
  refine v_entry (by decide) (Nat.le_of_ble_eq_true rfl) ?_
  unfold f_X10_hand at hh
  show V l G yX10_hand cX10_hand 2 (some .int) (v_rm 1 0 0) (QI r.1 (lay G r.2)) 0 0 0 [(0, .ref (v_B G + 291)), (1, .int x1)] [] (lay G S)
  refine v_iload_n 1 dX10_hand_0 rfl rfl ?_
  refine v_iconst dX10_hand_1 (by decide : _ = (1 : Int32)) ?_
  refine v_bipush dX10_hand_2 (by decide : _ = (9 : Int32)) ?_
  obtain ⟨q1, eq1, hh⟩ := bnd_some hh
  refine v_callSi (t_X10_isIn eq1) dX10_hand_4 y_X10_isIn ml_X10_63 rfl rfl (Nat.le_of_ble_eq_true rfl) ⟨(Nat.le_of_ble_eq_true rfl), (Nat.le_of_ble_eq_true rfl)⟩ ⟨Nat.zero_le _, Nat.zero_le _⟩ ?_
  refine v_if_eq (tgt := 20) dX10_hand_7 (by decide) (fun c => ?_) (fun c => ?_)
  · replace hh := (if_pos c).symm.trans hh
    refine v_iconst dX10_hand_20 (by decide : _ = (-1 : Int32)) ?_
    obtain rfl := Option.some.inj hh
    exact v_iret dX10_hand_21 rfl (Nat.zero_le _) (Nat.zero_le _) ⟨rfl, rfl⟩
  · replace hh := (if_neg c).symm.trans hh
    refine v_aload_n 0 dX10_hand_10 rfl rfl ?_
    refine r_Model_a dX10_hand_11 fl_X10_7 ?_
    refine v_iconst dX10_hand_14 (by decide : _ = (0 : Int32)) ?_
    refine ld_ma dX10_hand_15 (inb_in (by decide)) ?_
    refine v_iconst dX10_hand_16 (by decide : _ = (4 : Int32)) ?_
    refine v_icmp_ne (tgt := 22) dX10_hand_17 (by decide) (fun c => ?_) (fun c => ?_)
    · replace hh := (if_neg c).symm.trans hh
      refine v_aload_n 0 dX10_hand_22 rfl rfl ?_
      refine r_Model_a dX10_hand_23 fl_X10_7 ?_
      refine v_bipush dX10_hand_26 (by decide : _ = (47 : Int32)) ?_
      refine v_aload_n 0 dX10_hand_28 rfl rfl ?_
      refine r_Model_a dX10_hand_29 fl_X10_7 ?_
      refine v_iconst dX10_hand_32 (by decide : _ = (0 : Int32)) ?_
      refine ld_ma dX10_hand_33 (inb_in (by decide)) ?_
      refine v_iadd dX10_hand_34 ?_
      refine v_iload_n 1 dX10_hand_35 rfl rfl ?_
      obtain ⟨g4, hh⟩ := chk_some hh
      replace g4 := inb_in g4
      refine st_ma dX10_hand_36 g4 ?_
      replace hh := lt_of hh
      refine v_aload_n 0 dX10_hand_37 rfl rfl ?_
      refine r_Model_a dX10_hand_38 fl_X10_7 ?_
      refine v_iconst dX10_hand_41 (by decide : _ = (0 : Int32)) ?_
      refine v_dup2 dX10_hand_42 rfl rfl ?_
      refine ld_ma dX10_hand_43 (inb_in (by decide)) ?_
      refine v_iconst dX10_hand_44 (by decide : _ = (1 : Int32)) ?_
      refine v_iadd dX10_hand_45 ?_
      refine st_ma dX10_hand_46 (inb_in (by decide)) ?_
      replace hh := lt_of hh
      refine v_aload_n 0 dX10_hand_47 rfl rfl ?_
      refine r_Model_a dX10_hand_48 fl_X10_7 ?_
      refine v_iconst dX10_hand_51 (by decide : _ = (0 : Int32)) ?_
      refine ld_ma dX10_hand_52 (inb_in (by decide)) ?_
      refine v_iconst dX10_hand_53 (by decide : _ = (1 : Int32)) ?_
      refine v_isub dX10_hand_54 ?_
      obtain rfl := Option.some.inj hh
      exact v_iret dX10_hand_55 rfl (Nat.zero_le _) (Nat.zero_le _) ⟨rfl, rfl⟩
    · replace hh := (if_pos c).symm.trans hh
      refine v_iconst dX10_hand_20 (by decide : _ = (-1 : Int32)) ?_
      obtain rfl := Option.some.inj hh
      exact v_iret dX10_hand_21 rfl (Nat.zero_le _) (Nat.zero_le _) ⟨rfl, rfl⟩
def f_X10_dough_b32 (N : Nat) : Nat → Int32 → Int32 → Int32 → St → Option (Int32 × St)
  | 0, _, _, _, _ => none
  | n + 1, x1, x2, x3, S =>
  if (gI S 1000 0 4) ≤ x3 then
  (some ((1 : Int32), S))
  else
  (chk (inb ((((((75 : Int32) + ((96 : Int32) * x3)) + (1 : Int32)) + (11 : Int32)) + x1) - (6 : Int32)) 3015) (
  lt (sI S 1000 0 (((((((75 : Int32) + ((96 : Int32) * x3)) + (1 : Int32)) + (11 : Int32)) + x1) - (6 : Int32)).toNatClampNeg) x2) fun S7 =>
  lt (x3 + (1 : Int32)) fun v8 =>
  f_X10_dough_b32 N n x1 x2 v8 S7))
set_option maxRecDepth 100000 in
set_option maxHeartbeats 4000000 in
theorem tb_X10_dough_32 {l : Launch} {G : v_G} {N : Nat}    {r : Int32 × St}   : ∀ (n : Nat) (x1 : Int32) (x2 : Int32) (x3 : Int32) (S : St),  f_X10_dough_b32 N n x1 x2 x3 S = some r → V l G yX10_dough cX10_dough 4 (some .boolean) (v_rm 2 0 0) (QI r.1 (lay G r.2)) 0 0 32 [(0, .ref (v_B G + 291)), (1, .int x1), (2, .int x2), (3, .int x3)] [] (lay G S) := by
  intro n
  induction n with
  | zero =>
    intro x1 x2 x3 S  hh
    rw [f_X10_dough_b32] at hh
    cases hh
  | succ n ih =>
    intro x1 x2 x3 S  hh
    rw [f_X10_dough_b32] at hh
    refine v_iload_n 3 dX10_dough_32 rfl rfl ?_
    refine v_aload_n 0 dX10_dough_33 rfl rfl ?_
    refine r_Model_a dX10_dough_34 fl_X10_7 ?_
    refine v_iconst dX10_dough_37 (by decide : _ = (4 : Int32)) ?_
    refine ld_ma dX10_dough_38 (inb_in (by decide)) ?_
    refine v_icmp_ge (tgt := 71) dX10_dough_39 (by decide) (fun c => ?_) (fun c => ?_)
    · replace hh := (if_pos c).symm.trans hh
      refine v_iconst dX10_dough_71 (by decide : _ = (1 : Int32)) ?_
      obtain rfl := Option.some.inj hh
      exact v_zret dX10_dough_72 rfl (zb (by decide)).1 (Nat.zero_le _) (Nat.zero_le _) ⟨rfl, rfl⟩
    · replace hh := (if_neg c).symm.trans hh
      refine v_aload_n 0 dX10_dough_42 rfl rfl ?_
      refine r_Model_a dX10_dough_43 fl_X10_7 ?_
      refine v_bipush dX10_dough_46 (by decide : _ = (75 : Int32)) ?_
      refine v_bipush dX10_dough_48 (by decide : _ = (96 : Int32)) ?_
      refine v_iload_n 3 dX10_dough_50 rfl rfl ?_
      refine v_imul dX10_dough_51 ?_
      refine v_iadd dX10_dough_52 ?_
      refine v_iconst dX10_dough_53 (by decide : _ = (1 : Int32)) ?_
      refine v_iadd dX10_dough_54 ?_
      refine v_bipush dX10_dough_55 (by decide : _ = (11 : Int32)) ?_
      refine v_iadd dX10_dough_57 ?_
      refine v_iload_n 1 dX10_dough_58 rfl rfl ?_
      refine v_iadd dX10_dough_59 ?_
      refine v_bipush dX10_dough_60 (by decide : _ = (6 : Int32)) ?_
      refine v_isub dX10_dough_62 ?_
      refine v_iload_n 2 dX10_dough_63 rfl rfl ?_
      obtain ⟨g6, hh⟩ := chk_some hh
      replace g6 := inb_in g6
      refine st_ma dX10_dough_64 g6 ?_
      replace hh := lt_of hh
      refine v_iinc (v := _ + (1 : Int32)) 3 dX10_dough_65 rfl rfl (by decide) rfl ?_
      replace hh := lt_of hh
      refine v_goto (tgt := 32) dX10_dough_68 (by decide) ?_
      exact v_sub [1, 2, 3, 0] rfl (ih _ _ _ _ hh)
def f_X10_dough (N : Nat) (S : St) (x1 : Int32) (x2 : Int32) : Option (Int32 × St) :=
  bnd (f_X10_isCell S x1) fun q1 =>
 if q1 = (0 : Int32) then
  (some ((0 : Int32), S))
  else
  (bnd (f_X10_isIn S x2 (0 : Int32) (999 : Int32)) fun q2 =>
 if q2 = (0 : Int32) then
  (some ((0 : Int32), S))
  else
  (chk (inb ((11 : Int32) + x1) 3015) (
  lt (sI S 1000 0 (((11 : Int32) + x1).toNatClampNeg) x2) fun S4 =>
  f_X10_dough_b32 N N x1 x2 (0 : Int32) S4)))
set_option maxRecDepth 100000 in
set_option maxHeartbeats 4000000 in
theorem t_X10_dough {l : Launch} {G : v_G} {N : Nat} {S : St}   {x1 : Int32} {x2 : Int32} {r : Int32 × St} (hh : f_X10_dough N S x1 x2 = some r) : v_M l G yX10_dough cX10_dough 4 (some .boolean) 2 0 0 [.ref (v_B G + 291), .int x1, .int x2] (lay G S) (QI r.1 (lay G r.2)) := by
  refine v_entry (by decide) (Nat.le_of_ble_eq_true rfl) ?_
  unfold f_X10_dough at hh
  show V l G yX10_dough cX10_dough 4 (some .boolean) (v_rm 2 0 0) (QI r.1 (lay G r.2)) 0 0 0 [(0, .ref (v_B G + 291)), (1, .int x1), (2, .int x2)] [] (lay G S)
  refine v_iload_n 1 dX10_dough_0 rfl rfl ?_
  obtain ⟨q1, eq1, hh⟩ := bnd_some hh
  refine v_callSi (t_X10_isCell eq1) dX10_dough_1 y_X10_isCell ml_X10_67 rfl rfl (Nat.le_of_ble_eq_true rfl) ⟨(Nat.le_of_ble_eq_true rfl), (Nat.le_of_ble_eq_true rfl)⟩ ⟨Nat.zero_le _, Nat.zero_le _⟩ ?_
  refine v_if_eq (tgt := 18) dX10_dough_4 (by decide) (fun c => ?_) (fun c => ?_)
  · replace hh := (if_pos c).symm.trans hh
    refine v_iconst dX10_dough_18 (by decide : _ = (0 : Int32)) ?_
    obtain rfl := Option.some.inj hh
    exact v_zret dX10_dough_19 rfl (zb (by decide)).1 (Nat.zero_le _) (Nat.zero_le _) ⟨rfl, rfl⟩
  · replace hh := (if_neg c).symm.trans hh
    refine v_iload_n 2 dX10_dough_7 rfl rfl ?_
    refine v_iconst dX10_dough_8 (by decide : _ = (0 : Int32)) ?_
    refine v_sipush dX10_dough_9 (by decide : _ = (999 : Int32)) ?_
    obtain ⟨q2, eq2, hh⟩ := bnd_some hh
    refine v_callSi (t_X10_isIn eq2) dX10_dough_12 y_X10_isIn ml_X10_63 rfl rfl (Nat.le_of_ble_eq_true rfl) ⟨(Nat.le_of_ble_eq_true rfl), (Nat.le_of_ble_eq_true rfl)⟩ ⟨Nat.zero_le _, Nat.zero_le _⟩ ?_
    refine v_if_ne (tgt := 20) dX10_dough_15 (by decide) (fun c => ?_) (fun c => ?_)
    · replace hh := (if_neg c).symm.trans hh
      refine v_aload_n 0 dX10_dough_20 rfl rfl ?_
      refine r_Model_a dX10_dough_21 fl_X10_7 ?_
      refine v_bipush dX10_dough_24 (by decide : _ = (11 : Int32)) ?_
      refine v_iload_n 1 dX10_dough_26 rfl rfl ?_
      refine v_iadd dX10_dough_27 ?_
      refine v_iload_n 2 dX10_dough_28 rfl rfl ?_
      obtain ⟨g3, hh⟩ := chk_some hh
      replace g3 := inb_in g3
      refine st_ma dX10_dough_29 g3 ?_
      replace hh := lt_of hh
      refine v_iconst dX10_dough_30 (by decide : _ = (0 : Int32)) ?_
      refine v_istore_n dX10_dough_31 rfl (by decide) rfl ?_
      exact v_sub [1, 2, 3, 0] rfl (tb_X10_dough_32 N _ _ _ _ hh)
    · replace hh := (if_pos c).symm.trans hh
      refine v_iconst dX10_dough_18 (by decide : _ = (0 : Int32)) ?_
      obtain rfl := Option.some.inj hh
      exact v_zret dX10_dough_19 rfl (zb (by decide)).1 (Nat.zero_le _) (Nat.zero_le _) ⟨rfl, rfl⟩
def f_X10_town  (S : St) (x1 : Int32) : Option (Int32 × St) :=
  bnd (f_X10_isCell S x1) fun q1 =>
 if q1 = (0 : Int32) then
  (some ((-1 : Int32), S))
  else
  (if (gI S 1000 0 1) = (6 : Int32) then
  (some ((-1 : Int32), S))
  else
  (chk (inb ((41 : Int32) + (gI S 1000 0 1)) 3015) (
  lt (sI S 1000 0 (((41 : Int32) + (gI S 1000 0 1)).toNatClampNeg) x1) fun S5 =>
  chk (inb ((35 : Int32) + (gI S5 1000 0 1)) 3015) (
  lt (sI S5 1000 0 (((35 : Int32) + (gI S5 1000 0 1)).toNatClampNeg) x1) fun S8 =>
  lt (sI S8 1000 0 1 ((gI S8 1000 0 1) + (1 : Int32))) fun S11 =>
  some ((gI S11 1000 0 1) - (1 : Int32), S11)))))
set_option maxRecDepth 100000 in
set_option maxHeartbeats 4000000 in
theorem t_X10_town {l : Launch} {G : v_G} {S : St}   {x1 : Int32} {r : Int32 × St} (hh : f_X10_town  S x1 = some r) : v_M l G yX10_town cX10_town 2 (some .int) 2 0 0 [.ref (v_B G + 291), .int x1] (lay G S) (QI r.1 (lay G r.2)) := by
  refine v_entry (by decide) (Nat.le_of_ble_eq_true rfl) ?_
  unfold f_X10_town at hh
  show V l G yX10_town cX10_town 2 (some .int) (v_rm 2 0 0) (QI r.1 (lay G r.2)) 0 0 0 [(0, .ref (v_B G + 291)), (1, .int x1)] [] (lay G S)
  refine v_iload_n 1 dX10_town_0 rfl rfl ?_
  obtain ⟨q1, eq1, hh⟩ := bnd_some hh
  refine v_callSi (t_X10_isCell eq1) dX10_town_1 y_X10_isCell ml_X10_67 rfl rfl (Nat.le_of_ble_eq_true rfl) ⟨(Nat.le_of_ble_eq_true rfl), (Nat.le_of_ble_eq_true rfl)⟩ ⟨Nat.zero_le _, Nat.zero_le _⟩ ?_
  refine v_if_eq (tgt := 18) dX10_town_4 (by decide) (fun c => ?_) (fun c => ?_)
  · replace hh := (if_pos c).symm.trans hh
    refine v_iconst dX10_town_18 (by decide : _ = (-1 : Int32)) ?_
    obtain rfl := Option.some.inj hh
    exact v_iret dX10_town_19 rfl (Nat.zero_le _) (Nat.zero_le _) ⟨rfl, rfl⟩
  · replace hh := (if_neg c).symm.trans hh
    refine v_aload_n 0 dX10_town_7 rfl rfl ?_
    refine r_Model_a dX10_town_8 fl_X10_7 ?_
    refine v_iconst dX10_town_11 (by decide : _ = (1 : Int32)) ?_
    refine ld_ma dX10_town_12 (inb_in (by decide)) ?_
    refine v_bipush dX10_town_13 (by decide : _ = (6 : Int32)) ?_
    refine v_icmp_ne (tgt := 20) dX10_town_15 (by decide) (fun c => ?_) (fun c => ?_)
    · replace hh := (if_neg c).symm.trans hh
      refine v_aload_n 0 dX10_town_20 rfl rfl ?_
      refine r_Model_a dX10_town_21 fl_X10_7 ?_
      refine v_bipush dX10_town_24 (by decide : _ = (41 : Int32)) ?_
      refine v_aload_n 0 dX10_town_26 rfl rfl ?_
      refine r_Model_a dX10_town_27 fl_X10_7 ?_
      refine v_iconst dX10_town_30 (by decide : _ = (1 : Int32)) ?_
      refine ld_ma dX10_town_31 (inb_in (by decide)) ?_
      refine v_iadd dX10_town_32 ?_
      refine v_iload_n 1 dX10_town_33 rfl rfl ?_
      obtain ⟨g4, hh⟩ := chk_some hh
      replace g4 := inb_in g4
      refine st_ma dX10_town_34 g4 ?_
      replace hh := lt_of hh
      refine v_aload_n 0 dX10_town_35 rfl rfl ?_
      refine r_Model_a dX10_town_36 fl_X10_7 ?_
      refine v_bipush dX10_town_39 (by decide : _ = (35 : Int32)) ?_
      refine v_aload_n 0 dX10_town_41 rfl rfl ?_
      refine r_Model_a dX10_town_42 fl_X10_7 ?_
      refine v_iconst dX10_town_45 (by decide : _ = (1 : Int32)) ?_
      refine ld_ma dX10_town_46 (inb_in (by decide)) ?_
      refine v_iadd dX10_town_47 ?_
      refine v_iload_n 1 dX10_town_48 rfl rfl ?_
      obtain ⟨g7, hh⟩ := chk_some hh
      replace g7 := inb_in g7
      refine st_ma dX10_town_49 g7 ?_
      replace hh := lt_of hh
      refine v_aload_n 0 dX10_town_50 rfl rfl ?_
      refine r_Model_a dX10_town_51 fl_X10_7 ?_
      refine v_iconst dX10_town_54 (by decide : _ = (1 : Int32)) ?_
      refine v_dup2 dX10_town_55 rfl rfl ?_
      refine ld_ma dX10_town_56 (inb_in (by decide)) ?_
      refine v_iconst dX10_town_57 (by decide : _ = (1 : Int32)) ?_
      refine v_iadd dX10_town_58 ?_
      refine st_ma dX10_town_59 (inb_in (by decide)) ?_
      replace hh := lt_of hh
      refine v_aload_n 0 dX10_town_60 rfl rfl ?_
      refine r_Model_a dX10_town_61 fl_X10_7 ?_
      refine v_iconst dX10_town_64 (by decide : _ = (1 : Int32)) ?_
      refine ld_ma dX10_town_65 (inb_in (by decide)) ?_
      refine v_iconst dX10_town_66 (by decide : _ = (1 : Int32)) ?_
      refine v_isub dX10_town_67 ?_
      obtain rfl := Option.some.inj hh
      exact v_iret dX10_town_68 rfl (Nat.zero_le _) (Nat.zero_le _) ⟨rfl, rfl⟩
    · replace hh := (if_pos c).symm.trans hh
      refine v_iconst dX10_town_18 (by decide : _ = (-1 : Int32)) ?_
      obtain rfl := Option.some.inj hh
      exact v_iret dX10_town_19 rfl (Nat.zero_le _) (Nat.zero_le _) ⟨rfl, rfl⟩
def f_X10_four_b3 (N : Nat) : Nat → Int32 → Int32 → St → Option (St)
  | 0, _, _, _ => none
  | n + 1, x1, x2, S =>
  if x2 < (0 : Int32) then
  (some S)
  else
  (chk (inb (gI S 1004 0 0) 300) (
  lt (sI S 1003 0 ((gI S 1004 0 0).toNatClampNeg) ((x1 >>> (x2 &&& 31)) &&& (255 : Int32))) fun S2 =>
  lt (sI S2 1004 0 0 ((gI S2 1004 0 0) + (1 : Int32))) fun S3 =>
  lt (x2 + (-8 : Int32)) fun v4 =>
  f_X10_four_b3 N n x1 v4 S3))
set_option maxRecDepth 100000 in
set_option maxHeartbeats 4000000 in
theorem tb_X10_four_3 {l : Launch} {G : v_G} {N : Nat}    {r : St}   : ∀ (n : Nat) (x1 : Int32) (x2 : Int32) (S : St),  f_X10_four_b3 N n x1 x2 S = some r → V l G yX10_four cX10_four 3 (none) (v_rm 0 0 0) (QV (lay G r)) 0 0 3 [(0, .ref (v_B G + 291)), (1, .int x1), (2, .int x2)] [] (lay G S) := by
  intro n
  induction n with
  | zero =>
    intro x1 x2 S  hh
    rw [f_X10_four_b3] at hh
    cases hh
  | succ n ih =>
    intro x1 x2 S  hh
    rw [f_X10_four_b3] at hh
    refine v_iload_n 2 dX10_four_3 rfl rfl ?_
    refine v_if_lt (tgt := 39) dX10_four_4 (by decide) (fun c => ?_) (fun c => ?_)
    · replace hh := (if_pos c).symm.trans hh
      obtain rfl := Option.some.inj hh
      exact v_vret dX10_four_39 rfl (Nat.zero_le _) (Nat.zero_le _) ⟨rfl, rfl⟩
    · replace hh := (if_neg c).symm.trans hh
      refine v_aload_n 0 dX10_four_7 rfl rfl ?_
      refine r_Model_tape dX10_four_8 fl_X10_19 ?_
      refine v_aload_n 0 dX10_four_11 rfl rfl ?_
      refine r_Model_taped dX10_four_12 fl_X10_71 ?_
      refine v_iload_n 1 dX10_four_15 rfl rfl ?_
      refine v_iload_n 2 dX10_four_16 rfl rfl ?_
      refine v_ishr dX10_four_17 ?_
      refine v_sipush dX10_four_18 (by decide : _ = (255 : Int32)) ?_
      refine v_iand dX10_four_21 ?_
      obtain ⟨g1, hh⟩ := chk_some hh
      replace g1 := inb_in g1
      refine st_mtape dX10_four_22 g1 ?_
      replace hh := lt_of hh
      refine v_aload_n 0 dX10_four_23 rfl rfl ?_
      refine v_dup dX10_four_24 rfl ?_
      refine r_Model_taped dX10_four_25 fl_X10_71 ?_
      refine v_iconst dX10_four_28 (by decide : _ = (1 : Int32)) ?_
      refine v_iadd dX10_four_29 ?_
      refine w_Model_taped dX10_four_30 fl_X10_71 ?_
      replace hh := lt_of hh
      refine v_iinc (v := _ + (-8 : Int32)) 2 dX10_four_33 rfl rfl (by decide) rfl ?_
      replace hh := lt_of hh
      refine v_goto (tgt := 3) dX10_four_36 (by decide) ?_
      exact v_sub [1, 2, 0] rfl (ih _ _ _ hh)
def f_X10_four (N : Nat) (S : St) (x1 : Int32) : Option (St) :=
  f_X10_four_b3 N N x1 (24 : Int32) S
set_option maxRecDepth 100000 in
set_option maxHeartbeats 4000000 in
theorem t_X10_four {l : Launch} {G : v_G} {N : Nat} {S : St}   {x1 : Int32} {r : St} (hh : f_X10_four N S x1 = some r) : v_M l G yX10_four cX10_four 3 (none) 0 0 0 [.ref (v_B G + 291), .int x1] (lay G S) (QV (lay G r)) := by
  refine v_entry (by decide) (Nat.le_of_ble_eq_true rfl) ?_
  unfold f_X10_four at hh
  show V l G yX10_four cX10_four 3 (none) (v_rm 0 0 0) (QV (lay G r)) 0 0 0 [(0, .ref (v_B G + 291)), (1, .int x1)] [] (lay G S)
  refine v_bipush dX10_four_0 (by decide : _ = (24 : Int32)) ?_
  refine v_istore_n dX10_four_2 rfl (by decide) rfl ?_
  exact v_sub [1, 2, 0] rfl (tb_X10_four_3 N _ _ _ hh)
def f_X10_feed (N : Nat) (S : St) (x1 : Int32) (x2 : Int32) (x3 : Int32) (x4 : Int32) (x5 : Int32) : Option (Int32 × St) :=
  if ((gI S 1004 0 0) + (20 : Int32)) ≤ (300 : Int32) then
  (bnd (f_X10_four N S x1) fun q1 =>
 bnd (f_X10_four N q1 x2) fun q2 =>
 bnd (f_X10_four N q2 x3) fun q3 =>
 bnd (f_X10_four N q3 x4) fun q4 =>
 bnd (f_X10_four N q4 x5) fun q5 =>
 some (gI q5 1004 0 0, q5))
  else
  (some ((-1 : Int32), S))
set_option maxRecDepth 100000 in
set_option maxHeartbeats 4000000 in
theorem t_X10_feed {l : Launch} {G : v_G} {N : Nat} {S : St}   {x1 : Int32} {x2 : Int32} {x3 : Int32} {x4 : Int32} {x5 : Int32} {r : Int32 × St} (hh : f_X10_feed N S x1 x2 x3 x4 x5 = some r) : v_M l G yX10_feed cX10_feed 6 (some .int) 1 0 0 [.ref (v_B G + 291), .int x1, .int x2, .int x3, .int x4, .int x5] (lay G S) (QI r.1 (lay G r.2)) := by
  refine v_entry (by decide) (Nat.le_of_ble_eq_true rfl) ?_
  unfold f_X10_feed at hh
  show V l G yX10_feed cX10_feed 6 (some .int) (v_rm 1 0 0) (QI r.1 (lay G r.2)) 0 0 0 [(0, .ref (v_B G + 291)), (1, .int x1), (2, .int x2), (3, .int x3), (4, .int x4), (5, .int x5)] [] (lay G S)
  refine v_aload_n 0 dX10_feed_0 rfl rfl ?_
  refine r_Model_taped dX10_feed_1 fl_X10_71 ?_
  refine v_bipush dX10_feed_4 (by decide : _ = (20 : Int32)) ?_
  refine v_iadd dX10_feed_6 ?_
  refine v_sipush dX10_feed_7 (by decide : _ = (300 : Int32)) ?_
  refine v_icmp_le (tgt := 15) dX10_feed_10 (by decide) (fun c => ?_) (fun c => ?_)
  · replace hh := (if_pos c).symm.trans hh
    refine v_aload_n 0 dX10_feed_15 rfl rfl ?_
    refine v_iload_n 1 dX10_feed_16 rfl rfl ?_
    obtain ⟨q1, eq1, hh⟩ := bnd_some hh
    refine v_callVv (t_X10_four eq1) dX10_feed_17 y_X10_four ml_X10_74 (ci := 9) rfl rfl (e_Model) rfl rfl (Nat.le_of_ble_eq_true rfl) ⟨(Nat.le_of_ble_eq_true rfl), (Nat.le_of_ble_eq_true rfl)⟩ ⟨Nat.zero_le _, Nat.zero_le _⟩ ?_
    refine v_aload_n 0 dX10_feed_20 rfl rfl ?_
    refine v_iload_n 2 dX10_feed_21 rfl rfl ?_
    obtain ⟨q2, eq2, hh⟩ := bnd_some hh
    refine v_callVv (t_X10_four eq2) dX10_feed_22 y_X10_four ml_X10_74 (ci := 9) rfl rfl (e_Model) rfl rfl (Nat.le_of_ble_eq_true rfl) ⟨(Nat.le_of_ble_eq_true rfl), (Nat.le_of_ble_eq_true rfl)⟩ ⟨Nat.zero_le _, Nat.zero_le _⟩ ?_
    refine v_aload_n 0 dX10_feed_25 rfl rfl ?_
    refine v_iload_n 3 dX10_feed_26 rfl rfl ?_
    obtain ⟨q3, eq3, hh⟩ := bnd_some hh
    refine v_callVv (t_X10_four eq3) dX10_feed_27 y_X10_four ml_X10_74 (ci := 9) rfl rfl (e_Model) rfl rfl (Nat.le_of_ble_eq_true rfl) ⟨(Nat.le_of_ble_eq_true rfl), (Nat.le_of_ble_eq_true rfl)⟩ ⟨Nat.zero_le _, Nat.zero_le _⟩ ?_
    refine v_aload_n 0 dX10_feed_30 rfl rfl ?_
    refine v_iload 4 dX10_feed_31 rfl ?_
    obtain ⟨q4, eq4, hh⟩ := bnd_some hh
    refine v_callVv (t_X10_four eq4) dX10_feed_33 y_X10_four ml_X10_74 (ci := 9) rfl rfl (e_Model) rfl rfl (Nat.le_of_ble_eq_true rfl) ⟨(Nat.le_of_ble_eq_true rfl), (Nat.le_of_ble_eq_true rfl)⟩ ⟨Nat.zero_le _, Nat.zero_le _⟩ ?_
    refine v_aload_n 0 dX10_feed_36 rfl rfl ?_
    refine v_iload 5 dX10_feed_37 rfl ?_
    obtain ⟨q5, eq5, hh⟩ := bnd_some hh
    refine v_callVv (t_X10_four eq5) dX10_feed_39 y_X10_four ml_X10_74 (ci := 9) rfl rfl (e_Model) rfl rfl (Nat.le_of_ble_eq_true rfl) ⟨(Nat.le_of_ble_eq_true rfl), (Nat.le_of_ble_eq_true rfl)⟩ ⟨Nat.zero_le _, Nat.zero_le _⟩ ?_
    refine v_aload_n 0 dX10_feed_42 rfl rfl ?_
    refine r_Model_taped dX10_feed_43 fl_X10_71 ?_
    obtain rfl := Option.some.inj hh
    exact v_iret dX10_feed_46 rfl (Nat.zero_le _) (Nat.zero_le _) ⟨rfl, rfl⟩
  · replace hh := (if_neg c).symm.trans hh
    refine v_iconst dX10_feed_13 (by decide : _ = (-1 : Int32)) ?_
    obtain rfl := Option.some.inj hh
    exact v_iret dX10_feed_14 rfl (Nat.zero_le _) (Nat.zero_le _) ⟨rfl, rfl⟩
def f_X10_end  (S : St) (x1 : Int32) : Option (Int32 × St) :=
  bnd (f_X10_isIn S x1 (0 : Int32) (gI S 1004 0 0)) fun q1 =>
 if q1 = (0 : Int32) then
  (some ((-1 : Int32), S))
  else
  (lt (sI S 1004 0 0 x1) fun S2 =>
  some (x1, S2))
set_option maxRecDepth 100000 in
set_option maxHeartbeats 4000000 in
theorem t_X10_end {l : Launch} {G : v_G} {S : St}   {x1 : Int32} {r : Int32 × St} (hh : f_X10_end  S x1 = some r) : v_M l G yX10_end cX10_end 2 (some .int) 1 0 0 [.ref (v_B G + 291), .int x1] (lay G S) (QI r.1 (lay G r.2)) := by
  refine v_entry (by decide) (Nat.le_of_ble_eq_true rfl) ?_
  unfold f_X10_end at hh
  show V l G yX10_end cX10_end 2 (some .int) (v_rm 1 0 0) (QI r.1 (lay G r.2)) 0 0 0 [(0, .ref (v_B G + 291)), (1, .int x1)] [] (lay G S)
  refine v_iload_n 1 dX10_end_0 rfl rfl ?_
  refine v_iconst dX10_end_1 (by decide : _ = (0 : Int32)) ?_
  refine v_aload_n 0 dX10_end_2 rfl rfl ?_
  refine r_Model_taped dX10_end_3 fl_X10_71 ?_
  obtain ⟨q1, eq1, hh⟩ := bnd_some hh
  refine v_callSi (t_X10_isIn eq1) dX10_end_6 y_X10_isIn ml_X10_63 rfl rfl (Nat.le_of_ble_eq_true rfl) ⟨(Nat.le_of_ble_eq_true rfl), (Nat.le_of_ble_eq_true rfl)⟩ ⟨Nat.zero_le _, Nat.zero_le _⟩ ?_
  refine v_if_ne (tgt := 14) dX10_end_9 (by decide) (fun c => ?_) (fun c => ?_)
  · replace hh := (if_neg c).symm.trans hh
    refine v_aload_n 0 dX10_end_14 rfl rfl ?_
    refine v_iload_n 1 dX10_end_15 rfl rfl ?_
    refine w_Model_taped dX10_end_16 fl_X10_71 ?_
    replace hh := lt_of hh
    refine v_iload_n 1 dX10_end_19 rfl rfl ?_
    obtain rfl := Option.some.inj hh
    exact v_iret dX10_end_20 rfl (Nat.zero_le _) (Nat.zero_le _) ⟨rfl, rfl⟩
  · replace hh := (if_pos c).symm.trans hh
    refine v_iconst dX10_end_12 (by decide : _ = (-1 : Int32)) ?_
    obtain rfl := Option.some.inj hh
    exact v_iret dX10_end_13 rfl (Nat.zero_le _) (Nat.zero_le _) ⟨rfl, rfl⟩
def f_X10_byteAt  (S : St) (x1 : Int32) : Option (Int32) :=
  if (gI S 1004 0 0) ≤ x1 then
  (some (-1 : Int32))
  else
  (chk (inb x1 300) (
  some (gI S 1003 0 x1.toNatClampNeg)))
set_option maxRecDepth 100000 in
set_option maxHeartbeats 4000000 in
theorem t_X10_byteAt {l : Launch} {G : v_G} {S : St}   {x1 : Int32} {r : Int32} (hh : f_X10_byteAt  S x1 = some r) : v_M l G yX10_byteAt cX10_byteAt 2 (some .int) 0 0 0 [.ref (v_B G + 291), .int x1] (lay G S) (QI r (lay G S)) := by
  refine v_entry (by decide) (Nat.le_of_ble_eq_true rfl) ?_
  unfold f_X10_byteAt at hh
  show V l G yX10_byteAt cX10_byteAt 2 (some .int) (v_rm 0 0 0) (QI r (lay G S)) 0 0 0 [(0, .ref (v_B G + 291)), (1, .int x1)] [] (lay G S)
  refine v_iload_n 1 dX10_byteAt_0 rfl rfl ?_
  refine v_aload_n 0 dX10_byteAt_1 rfl rfl ?_
  refine r_Model_taped dX10_byteAt_2 fl_X10_71 ?_
  refine v_icmp_ge (tgt := 17) dX10_byteAt_5 (by decide) (fun c => ?_) (fun c => ?_)
  · replace hh := (if_pos c).symm.trans hh
    refine v_iconst dX10_byteAt_17 (by decide : _ = (-1 : Int32)) ?_
    obtain rfl := Option.some.inj hh
    exact v_iret dX10_byteAt_18 rfl (Nat.zero_le _) (Nat.zero_le _) ⟨rfl, rfl⟩
  · replace hh := (if_neg c).symm.trans hh
    refine v_aload_n 0 dX10_byteAt_8 rfl rfl ?_
    refine r_Model_tape dX10_byteAt_9 fl_X10_19 ?_
    refine v_iload_n 1 dX10_byteAt_12 rfl rfl ?_
    obtain ⟨g1, hh⟩ := chk_some hh
    replace g1 := inb_in g1
    refine ld_mtape dX10_byteAt_13 g1 ?_
    refine v_goto (tgt := 18) dX10_byteAt_14 (by decide) ?_
    obtain rfl := Option.some.inj hh
    exact v_iret dX10_byteAt_18 rfl (Nat.zero_le _) (Nat.zero_le _) ⟨rfl, rfl⟩
def f_X10_isLetterByte_b12  (x0 : Int32) (S : St) : Option (Int32) :=
  if x0 < (65 : Int32) then
  (some (0 : Int32))
  else
  (if (90 : Int32) < x0 then
  (some (0 : Int32))
  else
  (some (1 : Int32)))
set_option maxRecDepth 100000 in
set_option maxHeartbeats 4000000 in
theorem tb_X10_isLetterByte_12 {l : Launch} {G : v_G}    {r : Int32} {S0 : St}   : ∀ (x0 : Int32) (S : St),  S = S0 → f_X10_isLetterByte_b12  x0 S = some r → V l G yX10_isLetterByte cX10_isLetterByte 1 (some .boolean) (v_rm 0 0 0) (QI r (lay G S0)) 0 0 12 [(0, .int x0)] [] (lay G S) := by
  intro x0 S  hS0 hh
  unfold f_X10_isLetterByte_b12 at hh
  refine v_iload_n 0 dX10_isLetterByte_12 rfl rfl ?_
  refine v_bipush dX10_isLetterByte_13 (by decide : _ = (65 : Int32)) ?_
  refine v_icmp_lt (tgt := 28) dX10_isLetterByte_15 (by decide) (fun c => ?_) (fun c => ?_)
  · replace hh := (if_pos c).symm.trans hh
    refine v_iconst dX10_isLetterByte_28 (by decide : _ = (0 : Int32)) ?_
    obtain rfl := Option.some.inj hh
    exact v_zret dX10_isLetterByte_29 rfl (zb (by decide)).1 (Nat.zero_le _) (Nat.zero_le _) ⟨rfl, by rw [hS0]⟩
  · replace hh := (if_neg c).symm.trans hh
    refine v_iload_n 0 dX10_isLetterByte_18 rfl rfl ?_
    refine v_bipush dX10_isLetterByte_19 (by decide : _ = (90 : Int32)) ?_
    refine v_icmp_gt (tgt := 28) dX10_isLetterByte_21 (by decide) (fun c => ?_) (fun c => ?_)
    · replace hh := (if_pos c).symm.trans hh
      refine v_iconst dX10_isLetterByte_28 (by decide : _ = (0 : Int32)) ?_
      obtain rfl := Option.some.inj hh
      exact v_zret dX10_isLetterByte_29 rfl (zb (by decide)).1 (Nat.zero_le _) (Nat.zero_le _) ⟨rfl, by rw [hS0]⟩
    · replace hh := (if_neg c).symm.trans hh
      refine v_iconst dX10_isLetterByte_24 (by decide : _ = (1 : Int32)) ?_
      refine v_goto (tgt := 29) dX10_isLetterByte_25 (by decide) ?_
      obtain rfl := Option.some.inj hh
      exact v_zret dX10_isLetterByte_29 rfl (zb (by decide)).1 (Nat.zero_le _) (Nat.zero_le _) ⟨rfl, by rw [hS0]⟩
def f_X10_isLetterByte  (S : St) (x0 : Int32) : Option (Int32) :=
  if x0 < (97 : Int32) then
  (f_X10_isLetterByte_b12 x0 S)
  else
  (if x0 ≤ (122 : Int32) then
  (some (1 : Int32))
  else
  (f_X10_isLetterByte_b12 x0 S))
set_option maxRecDepth 100000 in
set_option maxHeartbeats 4000000 in
theorem t_X10_isLetterByte {l : Launch} {G : v_G} {S : St}   {x0 : Int32} {r : Int32} (hh : f_X10_isLetterByte  S x0 = some r) : v_M l G yX10_isLetterByte cX10_isLetterByte 1 (some .boolean) 0 0 0 [.int x0] (lay G S) (QI r (lay G S)) := by
  refine v_entry (by decide) (Nat.le_of_ble_eq_true rfl) ?_
  unfold f_X10_isLetterByte at hh
  show V l G yX10_isLetterByte cX10_isLetterByte 1 (some .boolean) (v_rm 0 0 0) (QI r (lay G S)) 0 0 0 [(0, .int x0)] [] (lay G S)
  refine v_iload_n 0 dX10_isLetterByte_0 rfl rfl ?_
  refine v_bipush dX10_isLetterByte_1 (by decide : _ = (97 : Int32)) ?_
  refine v_icmp_lt (tgt := 12) dX10_isLetterByte_3 (by decide) (fun c => ?_) (fun c => ?_)
  · replace hh := (if_pos c).symm.trans hh
    exact v_sub [0] rfl (tb_X10_isLetterByte_12 _ _ rfl hh)
  · replace hh := (if_neg c).symm.trans hh
    refine v_iload_n 0 dX10_isLetterByte_6 rfl rfl ?_
    refine v_bipush dX10_isLetterByte_7 (by decide : _ = (122 : Int32)) ?_
    refine v_icmp_le (tgt := 24) dX10_isLetterByte_9 (by decide) (fun c => ?_) (fun c => ?_)
    · replace hh := (if_pos c).symm.trans hh
      refine v_iconst dX10_isLetterByte_24 (by decide : _ = (1 : Int32)) ?_
      refine v_goto (tgt := 29) dX10_isLetterByte_25 (by decide) ?_
      obtain rfl := Option.some.inj hh
      exact v_zret dX10_isLetterByte_29 rfl (zb (by decide)).1 (Nat.zero_le _) (Nat.zero_le _) ⟨rfl, rfl⟩
    · replace hh := (if_neg c).symm.trans hh
      exact v_sub [0] rfl (tb_X10_isLetterByte_12 _ _ rfl hh)
def f_X10_isFigure  (S : St) (x0 : Int32) : Option (Int32) :=
  if x0 < (48 : Int32) then
  (some (0 : Int32))
  else
  (if (57 : Int32) < x0 then
  (some (0 : Int32))
  else
  (some (1 : Int32)))
set_option maxRecDepth 100000 in
set_option maxHeartbeats 4000000 in
theorem t_X10_isFigure {l : Launch} {G : v_G} {S : St}   {x0 : Int32} {r : Int32} (hh : f_X10_isFigure  S x0 = some r) : v_M l G yX10_isFigure cX10_isFigure 1 (some .boolean) 0 0 0 [.int x0] (lay G S) (QI r (lay G S)) := by
  refine v_entry (by decide) (Nat.le_of_ble_eq_true rfl) ?_
  unfold f_X10_isFigure at hh
  show V l G yX10_isFigure cX10_isFigure 1 (some .boolean) (v_rm 0 0 0) (QI r (lay G S)) 0 0 0 [(0, .int x0)] [] (lay G S)
  refine v_iload_n 0 dX10_isFigure_0 rfl rfl ?_
  refine v_bipush dX10_isFigure_1 (by decide : _ = (48 : Int32)) ?_
  refine v_icmp_lt (tgt := 16) dX10_isFigure_3 (by decide) (fun c => ?_) (fun c => ?_)
  · replace hh := (if_pos c).symm.trans hh
    refine v_iconst dX10_isFigure_16 (by decide : _ = (0 : Int32)) ?_
    obtain rfl := Option.some.inj hh
    exact v_zret dX10_isFigure_17 rfl (zb (by decide)).1 (Nat.zero_le _) (Nat.zero_le _) ⟨rfl, rfl⟩
  · replace hh := (if_neg c).symm.trans hh
    refine v_iload_n 0 dX10_isFigure_6 rfl rfl ?_
    refine v_bipush dX10_isFigure_7 (by decide : _ = (57 : Int32)) ?_
    refine v_icmp_gt (tgt := 16) dX10_isFigure_9 (by decide) (fun c => ?_) (fun c => ?_)
    · replace hh := (if_pos c).symm.trans hh
      refine v_iconst dX10_isFigure_16 (by decide : _ = (0 : Int32)) ?_
      obtain rfl := Option.some.inj hh
      exact v_zret dX10_isFigure_17 rfl (zb (by decide)).1 (Nat.zero_le _) (Nat.zero_le _) ⟨rfl, rfl⟩
    · replace hh := (if_neg c).symm.trans hh
      refine v_iconst dX10_isFigure_12 (by decide : _ = (1 : Int32)) ?_
      refine v_goto (tgt := 17) dX10_isFigure_13 (by decide) ?_
      obtain rfl := Option.some.inj hh
      exact v_zret dX10_isFigure_17 rfl (zb (by decide)).1 (Nat.zero_le _) (Nat.zero_le _) ⟨rfl, rfl⟩
def f_X10_isSign  (S : St) (x0 : Int32) : Option (Int32) :=
  if x0 = (35 : Int32) then
  (some (1 : Int32))
  else if x0 = (36 : Int32) then
  (some (0 : Int32))
  else if x0 = (37 : Int32) then
  (some (0 : Int32))
  else if x0 = (38 : Int32) then
  (some (0 : Int32))
  else if x0 = (39 : Int32) then
  (some (0 : Int32))
  else if x0 = (40 : Int32) then
  (some (1 : Int32))
  else if x0 = (41 : Int32) then
  (some (1 : Int32))
  else if x0 = (42 : Int32) then
  (some (1 : Int32))
  else if x0 = (43 : Int32) then
  (some (1 : Int32))
  else if x0 = (44 : Int32) then
  (some (0 : Int32))
  else if x0 = (45 : Int32) then
  (some (1 : Int32))
  else if x0 = (46 : Int32) then
  (some (0 : Int32))
  else if x0 = (47 : Int32) then
  (some (1 : Int32))
  else if x0 = (48 : Int32) then
  (some (0 : Int32))
  else if x0 = (49 : Int32) then
  (some (0 : Int32))
  else if x0 = (50 : Int32) then
  (some (0 : Int32))
  else if x0 = (51 : Int32) then
  (some (0 : Int32))
  else if x0 = (52 : Int32) then
  (some (0 : Int32))
  else if x0 = (53 : Int32) then
  (some (0 : Int32))
  else if x0 = (54 : Int32) then
  (some (0 : Int32))
  else if x0 = (55 : Int32) then
  (some (0 : Int32))
  else if x0 = (56 : Int32) then
  (some (0 : Int32))
  else if x0 = (57 : Int32) then
  (some (0 : Int32))
  else if x0 = (58 : Int32) then
  (some (1 : Int32))
  else if x0 = (59 : Int32) then
  (some (1 : Int32))
  else if x0 = (60 : Int32) then
  (some (1 : Int32))
  else if x0 = (61 : Int32) then
  (some (1 : Int32))
  else if x0 = (62 : Int32) then
  (some (1 : Int32))
  else (some (0 : Int32))
set_option maxRecDepth 100000 in
set_option maxHeartbeats 4000000 in
theorem t_X10_isSign {l : Launch} {G : v_G} {S : St}   {x0 : Int32} {r : Int32} (hh : f_X10_isSign  S x0 = some r) : v_M l G yX10_isSign cX10_isSign 1 (some .boolean) 0 0 0 [.int x0] (lay G S) (QI r (lay G S)) := by
  refine v_entry (by decide) (Nat.le_of_ble_eq_true rfl) ?_
  unfold f_X10_isSign at hh
  show V l G yX10_isSign cX10_isSign 1 (some .boolean) (v_rm 0 0 0) (QI r (lay G S)) 0 0 0 [(0, .int x0)] [] (lay G S)
  refine v_iload_n 0 dX10_isSign_0 rfl rfl ?_
  refine sw_if hh (fun c0 hh => ?_) (fun c0 hh => ?_)
  · skip
    refine v_tableIn (tgt := 128) dX10_isSign_1 (by rw [c0]; decide) (by rw [c0]; decide) (by rw [c0] <;> rfl) (by decide) ?_
    refine v_iconst dX10_isSign_128 (by decide : _ = (1 : Int32)) ?_
    obtain rfl := Option.some.inj hh
    exact v_zret dX10_isSign_129 rfl (zb (by decide)).1 (Nat.zero_le _) (Nat.zero_le _) ⟨rfl, rfl⟩
  · skip
    refine sw_if hh (fun c1 hh => ?_) (fun c1 hh => ?_)
    · skip
      refine v_tableIn (tgt := 130) dX10_isSign_1 (by rw [c1]; decide) (by rw [c1]; decide) (by rw [c1] <;> rfl) (by decide) ?_
      refine v_iconst dX10_isSign_130 (by decide : _ = (0 : Int32)) ?_
      obtain rfl := Option.some.inj hh
      exact v_zret dX10_isSign_131 rfl (zb (by decide)).1 (Nat.zero_le _) (Nat.zero_le _) ⟨rfl, rfl⟩
    · skip
      refine sw_if hh (fun c2 hh => ?_) (fun c2 hh => ?_)
      · skip
        refine v_tableIn (tgt := 130) dX10_isSign_1 (by rw [c2]; decide) (by rw [c2]; decide) (by rw [c2] <;> rfl) (by decide) ?_
        refine v_iconst dX10_isSign_130 (by decide : _ = (0 : Int32)) ?_
        obtain rfl := Option.some.inj hh
        exact v_zret dX10_isSign_131 rfl (zb (by decide)).1 (Nat.zero_le _) (Nat.zero_le _) ⟨rfl, rfl⟩
      · skip
        refine sw_if hh (fun c3 hh => ?_) (fun c3 hh => ?_)
        · skip
          refine v_tableIn (tgt := 130) dX10_isSign_1 (by rw [c3]; decide) (by rw [c3]; decide) (by rw [c3] <;> rfl) (by decide) ?_
          refine v_iconst dX10_isSign_130 (by decide : _ = (0 : Int32)) ?_
          obtain rfl := Option.some.inj hh
          exact v_zret dX10_isSign_131 rfl (zb (by decide)).1 (Nat.zero_le _) (Nat.zero_le _) ⟨rfl, rfl⟩
        · skip
          refine sw_if hh (fun c4 hh => ?_) (fun c4 hh => ?_)
          · skip
            refine v_tableIn (tgt := 130) dX10_isSign_1 (by rw [c4]; decide) (by rw [c4]; decide) (by rw [c4] <;> rfl) (by decide) ?_
            refine v_iconst dX10_isSign_130 (by decide : _ = (0 : Int32)) ?_
            obtain rfl := Option.some.inj hh
            exact v_zret dX10_isSign_131 rfl (zb (by decide)).1 (Nat.zero_le _) (Nat.zero_le _) ⟨rfl, rfl⟩
          · skip
            refine sw_if hh (fun c5 hh => ?_) (fun c5 hh => ?_)
            · skip
              refine v_tableIn (tgt := 128) dX10_isSign_1 (by rw [c5]; decide) (by rw [c5]; decide) (by rw [c5] <;> rfl) (by decide) ?_
              refine v_iconst dX10_isSign_128 (by decide : _ = (1 : Int32)) ?_
              obtain rfl := Option.some.inj hh
              exact v_zret dX10_isSign_129 rfl (zb (by decide)).1 (Nat.zero_le _) (Nat.zero_le _) ⟨rfl, rfl⟩
            · skip
              refine sw_if hh (fun c6 hh => ?_) (fun c6 hh => ?_)
              · skip
                refine v_tableIn (tgt := 128) dX10_isSign_1 (by rw [c6]; decide) (by rw [c6]; decide) (by rw [c6] <;> rfl) (by decide) ?_
                refine v_iconst dX10_isSign_128 (by decide : _ = (1 : Int32)) ?_
                obtain rfl := Option.some.inj hh
                exact v_zret dX10_isSign_129 rfl (zb (by decide)).1 (Nat.zero_le _) (Nat.zero_le _) ⟨rfl, rfl⟩
              · skip
                refine sw_if hh (fun c7 hh => ?_) (fun c7 hh => ?_)
                · skip
                  refine v_tableIn (tgt := 128) dX10_isSign_1 (by rw [c7]; decide) (by rw [c7]; decide) (by rw [c7] <;> rfl) (by decide) ?_
                  refine v_iconst dX10_isSign_128 (by decide : _ = (1 : Int32)) ?_
                  obtain rfl := Option.some.inj hh
                  exact v_zret dX10_isSign_129 rfl (zb (by decide)).1 (Nat.zero_le _) (Nat.zero_le _) ⟨rfl, rfl⟩
                · skip
                  refine sw_if hh (fun c8 hh => ?_) (fun c8 hh => ?_)
                  · skip
                    refine v_tableIn (tgt := 128) dX10_isSign_1 (by rw [c8]; decide) (by rw [c8]; decide) (by rw [c8] <;> rfl) (by decide) ?_
                    refine v_iconst dX10_isSign_128 (by decide : _ = (1 : Int32)) ?_
                    obtain rfl := Option.some.inj hh
                    exact v_zret dX10_isSign_129 rfl (zb (by decide)).1 (Nat.zero_le _) (Nat.zero_le _) ⟨rfl, rfl⟩
                  · skip
                    refine sw_if hh (fun c9 hh => ?_) (fun c9 hh => ?_)
                    · skip
                      refine v_tableIn (tgt := 130) dX10_isSign_1 (by rw [c9]; decide) (by rw [c9]; decide) (by rw [c9] <;> rfl) (by decide) ?_
                      refine v_iconst dX10_isSign_130 (by decide : _ = (0 : Int32)) ?_
                      obtain rfl := Option.some.inj hh
                      exact v_zret dX10_isSign_131 rfl (zb (by decide)).1 (Nat.zero_le _) (Nat.zero_le _) ⟨rfl, rfl⟩
                    · skip
                      refine sw_if hh (fun c10 hh => ?_) (fun c10 hh => ?_)
                      · skip
                        refine v_tableIn (tgt := 128) dX10_isSign_1 (by rw [c10]; decide) (by rw [c10]; decide) (by rw [c10] <;> rfl) (by decide) ?_
                        refine v_iconst dX10_isSign_128 (by decide : _ = (1 : Int32)) ?_
                        obtain rfl := Option.some.inj hh
                        exact v_zret dX10_isSign_129 rfl (zb (by decide)).1 (Nat.zero_le _) (Nat.zero_le _) ⟨rfl, rfl⟩
                      · skip
                        refine sw_if hh (fun c11 hh => ?_) (fun c11 hh => ?_)
                        · skip
                          refine v_tableIn (tgt := 130) dX10_isSign_1 (by rw [c11]; decide) (by rw [c11]; decide) (by rw [c11] <;> rfl) (by decide) ?_
                          refine v_iconst dX10_isSign_130 (by decide : _ = (0 : Int32)) ?_
                          obtain rfl := Option.some.inj hh
                          exact v_zret dX10_isSign_131 rfl (zb (by decide)).1 (Nat.zero_le _) (Nat.zero_le _) ⟨rfl, rfl⟩
                        · skip
                          refine sw_if hh (fun c12 hh => ?_) (fun c12 hh => ?_)
                          · skip
                            refine v_tableIn (tgt := 128) dX10_isSign_1 (by rw [c12]; decide) (by rw [c12]; decide) (by rw [c12] <;> rfl) (by decide) ?_
                            refine v_iconst dX10_isSign_128 (by decide : _ = (1 : Int32)) ?_
                            obtain rfl := Option.some.inj hh
                            exact v_zret dX10_isSign_129 rfl (zb (by decide)).1 (Nat.zero_le _) (Nat.zero_le _) ⟨rfl, rfl⟩
                          · skip
                            refine sw_if hh (fun c13 hh => ?_) (fun c13 hh => ?_)
                            · skip
                              refine v_tableIn (tgt := 130) dX10_isSign_1 (by rw [c13]; decide) (by rw [c13]; decide) (by rw [c13] <;> rfl) (by decide) ?_
                              refine v_iconst dX10_isSign_130 (by decide : _ = (0 : Int32)) ?_
                              obtain rfl := Option.some.inj hh
                              exact v_zret dX10_isSign_131 rfl (zb (by decide)).1 (Nat.zero_le _) (Nat.zero_le _) ⟨rfl, rfl⟩
                            · skip
                              refine sw_if hh (fun c14 hh => ?_) (fun c14 hh => ?_)
                              · skip
                                refine v_tableIn (tgt := 130) dX10_isSign_1 (by rw [c14]; decide) (by rw [c14]; decide) (by rw [c14] <;> rfl) (by decide) ?_
                                refine v_iconst dX10_isSign_130 (by decide : _ = (0 : Int32)) ?_
                                obtain rfl := Option.some.inj hh
                                exact v_zret dX10_isSign_131 rfl (zb (by decide)).1 (Nat.zero_le _) (Nat.zero_le _) ⟨rfl, rfl⟩
                              · skip
                                refine sw_if hh (fun c15 hh => ?_) (fun c15 hh => ?_)
                                · skip
                                  refine v_tableIn (tgt := 130) dX10_isSign_1 (by rw [c15]; decide) (by rw [c15]; decide) (by rw [c15] <;> rfl) (by decide) ?_
                                  refine v_iconst dX10_isSign_130 (by decide : _ = (0 : Int32)) ?_
                                  obtain rfl := Option.some.inj hh
                                  exact v_zret dX10_isSign_131 rfl (zb (by decide)).1 (Nat.zero_le _) (Nat.zero_le _) ⟨rfl, rfl⟩
                                · skip
                                  refine sw_if hh (fun c16 hh => ?_) (fun c16 hh => ?_)
                                  · skip
                                    refine v_tableIn (tgt := 130) dX10_isSign_1 (by rw [c16]; decide) (by rw [c16]; decide) (by rw [c16] <;> rfl) (by decide) ?_
                                    refine v_iconst dX10_isSign_130 (by decide : _ = (0 : Int32)) ?_
                                    obtain rfl := Option.some.inj hh
                                    exact v_zret dX10_isSign_131 rfl (zb (by decide)).1 (Nat.zero_le _) (Nat.zero_le _) ⟨rfl, rfl⟩
                                  · skip
                                    refine sw_if hh (fun c17 hh => ?_) (fun c17 hh => ?_)
                                    · skip
                                      refine v_tableIn (tgt := 130) dX10_isSign_1 (by rw [c17]; decide) (by rw [c17]; decide) (by rw [c17] <;> rfl) (by decide) ?_
                                      refine v_iconst dX10_isSign_130 (by decide : _ = (0 : Int32)) ?_
                                      obtain rfl := Option.some.inj hh
                                      exact v_zret dX10_isSign_131 rfl (zb (by decide)).1 (Nat.zero_le _) (Nat.zero_le _) ⟨rfl, rfl⟩
                                    · skip
                                      refine sw_if hh (fun c18 hh => ?_) (fun c18 hh => ?_)
                                      · skip
                                        refine v_tableIn (tgt := 130) dX10_isSign_1 (by rw [c18]; decide) (by rw [c18]; decide) (by rw [c18] <;> rfl) (by decide) ?_
                                        refine v_iconst dX10_isSign_130 (by decide : _ = (0 : Int32)) ?_
                                        obtain rfl := Option.some.inj hh
                                        exact v_zret dX10_isSign_131 rfl (zb (by decide)).1 (Nat.zero_le _) (Nat.zero_le _) ⟨rfl, rfl⟩
                                      · skip
                                        refine sw_if hh (fun c19 hh => ?_) (fun c19 hh => ?_)
                                        · skip
                                          refine v_tableIn (tgt := 130) dX10_isSign_1 (by rw [c19]; decide) (by rw [c19]; decide) (by rw [c19] <;> rfl) (by decide) ?_
                                          refine v_iconst dX10_isSign_130 (by decide : _ = (0 : Int32)) ?_
                                          obtain rfl := Option.some.inj hh
                                          exact v_zret dX10_isSign_131 rfl (zb (by decide)).1 (Nat.zero_le _) (Nat.zero_le _) ⟨rfl, rfl⟩
                                        · skip
                                          refine sw_if hh (fun c20 hh => ?_) (fun c20 hh => ?_)
                                          · skip
                                            refine v_tableIn (tgt := 130) dX10_isSign_1 (by rw [c20]; decide) (by rw [c20]; decide) (by rw [c20] <;> rfl) (by decide) ?_
                                            refine v_iconst dX10_isSign_130 (by decide : _ = (0 : Int32)) ?_
                                            obtain rfl := Option.some.inj hh
                                            exact v_zret dX10_isSign_131 rfl (zb (by decide)).1 (Nat.zero_le _) (Nat.zero_le _) ⟨rfl, rfl⟩
                                          · skip
                                            refine sw_if hh (fun c21 hh => ?_) (fun c21 hh => ?_)
                                            · skip
                                              refine v_tableIn (tgt := 130) dX10_isSign_1 (by rw [c21]; decide) (by rw [c21]; decide) (by rw [c21] <;> rfl) (by decide) ?_
                                              refine v_iconst dX10_isSign_130 (by decide : _ = (0 : Int32)) ?_
                                              obtain rfl := Option.some.inj hh
                                              exact v_zret dX10_isSign_131 rfl (zb (by decide)).1 (Nat.zero_le _) (Nat.zero_le _) ⟨rfl, rfl⟩
                                            · skip
                                              refine sw_if hh (fun c22 hh => ?_) (fun c22 hh => ?_)
                                              · skip
                                                refine v_tableIn (tgt := 130) dX10_isSign_1 (by rw [c22]; decide) (by rw [c22]; decide) (by rw [c22] <;> rfl) (by decide) ?_
                                                refine v_iconst dX10_isSign_130 (by decide : _ = (0 : Int32)) ?_
                                                obtain rfl := Option.some.inj hh
                                                exact v_zret dX10_isSign_131 rfl (zb (by decide)).1 (Nat.zero_le _) (Nat.zero_le _) ⟨rfl, rfl⟩
                                              · skip
                                                refine sw_if hh (fun c23 hh => ?_) (fun c23 hh => ?_)
                                                · skip
                                                  refine v_tableIn (tgt := 128) dX10_isSign_1 (by rw [c23]; decide) (by rw [c23]; decide) (by rw [c23] <;> rfl) (by decide) ?_
                                                  refine v_iconst dX10_isSign_128 (by decide : _ = (1 : Int32)) ?_
                                                  obtain rfl := Option.some.inj hh
                                                  exact v_zret dX10_isSign_129 rfl (zb (by decide)).1 (Nat.zero_le _) (Nat.zero_le _) ⟨rfl, rfl⟩
                                                · skip
                                                  refine sw_if hh (fun c24 hh => ?_) (fun c24 hh => ?_)
                                                  · skip
                                                    refine v_tableIn (tgt := 128) dX10_isSign_1 (by rw [c24]; decide) (by rw [c24]; decide) (by rw [c24] <;> rfl) (by decide) ?_
                                                    refine v_iconst dX10_isSign_128 (by decide : _ = (1 : Int32)) ?_
                                                    obtain rfl := Option.some.inj hh
                                                    exact v_zret dX10_isSign_129 rfl (zb (by decide)).1 (Nat.zero_le _) (Nat.zero_le _) ⟨rfl, rfl⟩
                                                  · skip
                                                    refine sw_if hh (fun c25 hh => ?_) (fun c25 hh => ?_)
                                                    · skip
                                                      refine v_tableIn (tgt := 128) dX10_isSign_1 (by rw [c25]; decide) (by rw [c25]; decide) (by rw [c25] <;> rfl) (by decide) ?_
                                                      refine v_iconst dX10_isSign_128 (by decide : _ = (1 : Int32)) ?_
                                                      obtain rfl := Option.some.inj hh
                                                      exact v_zret dX10_isSign_129 rfl (zb (by decide)).1 (Nat.zero_le _) (Nat.zero_le _) ⟨rfl, rfl⟩
                                                    · skip
                                                      refine sw_if hh (fun c26 hh => ?_) (fun c26 hh => ?_)
                                                      · skip
                                                        refine v_tableIn (tgt := 128) dX10_isSign_1 (by rw [c26]; decide) (by rw [c26]; decide) (by rw [c26] <;> rfl) (by decide) ?_
                                                        refine v_iconst dX10_isSign_128 (by decide : _ = (1 : Int32)) ?_
                                                        obtain rfl := Option.some.inj hh
                                                        exact v_zret dX10_isSign_129 rfl (zb (by decide)).1 (Nat.zero_le _) (Nat.zero_le _) ⟨rfl, rfl⟩
                                                      · skip
                                                        refine sw_if hh (fun c27 hh => ?_) (fun c27 hh => ?_)
                                                        · skip
                                                          refine v_tableIn (tgt := 128) dX10_isSign_1 (by rw [c27]; decide) (by rw [c27]; decide) (by rw [c27] <;> rfl) (by decide) ?_
                                                          refine v_iconst dX10_isSign_128 (by decide : _ = (1 : Int32)) ?_
                                                          obtain rfl := Option.some.inj hh
                                                          exact v_zret dX10_isSign_129 rfl (zb (by decide)).1 (Nat.zero_le _) (Nat.zero_le _) ⟨rfl, rfl⟩
                                                        · skip
                                                          refine v_tableOut (tgt := 130) dX10_isSign_1 (sw_out 28 (by decide) (fun k hk => match k, hk with | 0, _ => fun h => c0 (h.trans (by decide)) | 1, _ => fun h => c1 (h.trans (by decide)) | 2, _ => fun h => c2 (h.trans (by decide)) | 3, _ => fun h => c3 (h.trans (by decide)) | 4, _ => fun h => c4 (h.trans (by decide)) | 5, _ => fun h => c5 (h.trans (by decide)) | 6, _ => fun h => c6 (h.trans (by decide)) | 7, _ => fun h => c7 (h.trans (by decide)) | 8, _ => fun h => c8 (h.trans (by decide)) | 9, _ => fun h => c9 (h.trans (by decide)) | 10, _ => fun h => c10 (h.trans (by decide)) | 11, _ => fun h => c11 (h.trans (by decide)) | 12, _ => fun h => c12 (h.trans (by decide)) | 13, _ => fun h => c13 (h.trans (by decide)) | 14, _ => fun h => c14 (h.trans (by decide)) | 15, _ => fun h => c15 (h.trans (by decide)) | 16, _ => fun h => c16 (h.trans (by decide)) | 17, _ => fun h => c17 (h.trans (by decide)) | 18, _ => fun h => c18 (h.trans (by decide)) | 19, _ => fun h => c19 (h.trans (by decide)) | 20, _ => fun h => c20 (h.trans (by decide)) | 21, _ => fun h => c21 (h.trans (by decide)) | 22, _ => fun h => c22 (h.trans (by decide)) | 23, _ => fun h => c23 (h.trans (by decide)) | 24, _ => fun h => c24 (h.trans (by decide)) | 25, _ => fun h => c25 (h.trans (by decide)) | 26, _ => fun h => c26 (h.trans (by decide)) | 27, _ => fun h => c27 (h.trans (by decide)) | k + 28, hk => absurd hk (by omega))) (by decide) ?_
                                                          refine v_iconst dX10_isSign_130 (by decide : _ = (0 : Int32)) ?_
                                                          obtain rfl := Option.some.inj hh
                                                          exact v_zret dX10_isSign_131 rfl (zb (by decide)).1 (Nat.zero_le _) (Nat.zero_le _) ⟨rfl, rfl⟩
def f_X10_nextToken_b26 (rec0 : (St → Option (St))) (N : Nat)  (S : St) : Option (St) :=
  lt (sI S 1007 0 0 ((gI S 1007 0 0) + (1 : Int32))) fun S2 =>
  rec0 S2
set_option maxRecDepth 100000 in
set_option maxHeartbeats 4000000 in
theorem tb_X10_nextToken_26 {l : Launch} {G : v_G} {N : Nat}    {r : St} {rec0 : (St → Option (St))} (hrec0 : ∀  (S : St),  rec0  S = some r → V l G yX10_nextToken cX10_nextToken 2 (none) (v_rm 1 0 0) (QV (lay G r)) 0 0 0 [(0, .ref (v_B G + 291))] [] (lay G S)) : ∀  (S : St),  f_X10_nextToken_b26 rec0 N  S = some r → V l G yX10_nextToken cX10_nextToken 2 (none) (v_rm 1 0 0) (QV (lay G r)) 0 0 26 [(0, .ref (v_B G + 291))] [] (lay G S) := by
  intro  S  hh
  unfold f_X10_nextToken_b26 at hh
  refine v_aload_n 0 dX10_nextToken_26 rfl rfl ?_
  refine v_dup dX10_nextToken_27 rfl ?_
  refine r_Model_at dX10_nextToken_28 fl_X10_78 ?_
  refine v_iconst dX10_nextToken_31 (by decide : _ = (1 : Int32)) ?_
  refine v_iadd dX10_nextToken_32 ?_
  refine w_Model_at dX10_nextToken_33 fl_X10_78 ?_
  replace hh := lt_of hh
  refine v_goto (tgt := 0) dX10_nextToken_36 (by decide) ?_
  exact v_sub [0] rfl (hrec0 _ hh)
def f_X10_nextToken_b297 (N : Nat) (s0 : Int32) (S : St) : Option (St) :=
  lt (sI S 1009 0 0 s0) fun S12 =>
  lt (sI S12 1007 0 0 ((gI S12 1007 0 0) + (1 : Int32))) fun S13 =>
  some S13
set_option maxRecDepth 100000 in
set_option maxHeartbeats 4000000 in
theorem tb_X10_nextToken_297 {l : Launch} {G : v_G} {N : Nat}    {r : St}   : ∀ (s0 : Int32) (S : St),  f_X10_nextToken_b297 N s0 S = some r → V l G yX10_nextToken cX10_nextToken 2 (none) (v_rm 1 0 0) (QV (lay G r)) 0 0 297 [(0, .ref (v_B G + 291))] [.int s0, .ref (v_B G + 291)] (lay G S) := by
  intro s0 S  hh
  unfold f_X10_nextToken_b297 at hh
  refine w_Model_token dX10_nextToken_297 fl_X10_88 ?_
  replace hh := lt_of hh
  refine v_aload_n 0 dX10_nextToken_300 rfl rfl ?_
  refine v_dup dX10_nextToken_301 rfl ?_
  refine r_Model_at dX10_nextToken_302 fl_X10_78 ?_
  refine v_iconst dX10_nextToken_305 (by decide : _ = (1 : Int32)) ?_
  refine v_iadd dX10_nextToken_306 ?_
  refine w_Model_at dX10_nextToken_307 fl_X10_78 ?_
  replace hh := lt_of hh
  obtain rfl := Option.some.inj hh
  exact v_vret dX10_nextToken_310 rfl (Nat.zero_le _) (Nat.zero_le _) ⟨rfl, rfl⟩
def f_X10_nextToken_b272 (N : Nat) (x1 : Int32) (S : St) : Option (St) :=
  bnd (f_X10_byteAt S (gI S 1007 0 0)) fun q11 =>
 if q11 = (61 : Int32) then
  (if x1 = (60 : Int32) then
  (f_X10_nextToken_b297 N (4 : Int32) S)
  else
  (f_X10_nextToken_b297 N (5 : Int32) S))
  else
  (some S)
set_option maxRecDepth 100000 in
set_option maxHeartbeats 4000000 in
theorem tb_X10_nextToken_272 {l : Launch} {G : v_G} {N : Nat}    {r : St}   : ∀ (x1 : Int32) (S : St),  f_X10_nextToken_b272 N x1 S = some r → V l G yX10_nextToken cX10_nextToken 2 (none) (v_rm 1 0 0) (QV (lay G r)) 0 0 272 [(0, .ref (v_B G + 291)), (1, .int x1)] [] (lay G S) := by
  intro x1 S  hh
  unfold f_X10_nextToken_b272 at hh
  refine v_aload_n 0 dX10_nextToken_272 rfl rfl ?_
  refine v_aload_n 0 dX10_nextToken_273 rfl rfl ?_
  refine r_Model_at dX10_nextToken_274 fl_X10_78 ?_
  obtain ⟨q11, eq11, hh⟩ := bnd_some hh
  refine v_callVi (t_X10_byteAt eq11) dX10_nextToken_277 y_X10_byteAt ml_X10_81 (ci := 9) rfl rfl (e_Model) rfl rfl (Nat.le_of_ble_eq_true rfl) ⟨(Nat.le_of_ble_eq_true rfl), (Nat.le_of_ble_eq_true rfl)⟩ ⟨Nat.zero_le _, Nat.zero_le _⟩ ?_
  refine v_bipush dX10_nextToken_280 (by decide : _ = (61 : Int32)) ?_
  refine v_icmp_ne (tgt := 310) dX10_nextToken_282 (by decide) (fun c => ?_) (fun c => ?_)
  · replace hh := (if_neg c).symm.trans hh
    obtain rfl := Option.some.inj hh
    exact v_vret dX10_nextToken_310 rfl (Nat.zero_le _) (Nat.zero_le _) ⟨rfl, rfl⟩
  · replace hh := (if_pos c).symm.trans hh
    refine v_aload_n 0 dX10_nextToken_285 rfl rfl ?_
    refine v_iload_n 1 dX10_nextToken_286 rfl rfl ?_
    refine v_bipush dX10_nextToken_287 (by decide : _ = (60 : Int32)) ?_
    refine v_icmp_ne (tgt := 296) dX10_nextToken_289 (by decide) (fun c => ?_) (fun c => ?_)
    · replace hh := (if_neg c).symm.trans hh
      refine v_iconst dX10_nextToken_296 (by decide : _ = (5 : Int32)) ?_
      exact v_sub [0] rfl (tb_X10_nextToken_297 _ _ hh)
    · replace hh := (if_pos c).symm.trans hh
      refine v_iconst dX10_nextToken_292 (by decide : _ = (4 : Int32)) ?_
      refine v_goto (tgt := 297) dX10_nextToken_293 (by decide) ?_
      exact v_sub [0] rfl (tb_X10_nextToken_297 _ _ hh)
def f_X10_nextToken_b247 (N : Nat) (x1 : Int32) (s0 : Int32) (S : St) : Option (St) :=
  lt (sI S 1009 0 0 s0) fun S9 =>
  lt (sI S9 1007 0 0 ((gI S9 1007 0 0) + (1 : Int32))) fun S10 =>
  if x1 = (60 : Int32) then
  (f_X10_nextToken_b272 N x1 S10)
  else
  (if x1 = (62 : Int32) then
  (f_X10_nextToken_b272 N x1 S10)
  else
  (some S10))
set_option maxRecDepth 100000 in
set_option maxHeartbeats 4000000 in
theorem tb_X10_nextToken_247 {l : Launch} {G : v_G} {N : Nat}    {r : St}   : ∀ (x1 : Int32) (s0 : Int32) (S : St),  f_X10_nextToken_b247 N x1 s0 S = some r → V l G yX10_nextToken cX10_nextToken 2 (none) (v_rm 1 0 0) (QV (lay G r)) 0 0 247 [(0, .ref (v_B G + 291)), (1, .int x1)] [.int s0, .ref (v_B G + 291)] (lay G S) := by
  intro x1 s0 S  hh
  unfold f_X10_nextToken_b247 at hh
  refine w_Model_token dX10_nextToken_247 fl_X10_88 ?_
  replace hh := lt_of hh
  refine v_aload_n 0 dX10_nextToken_250 rfl rfl ?_
  refine v_dup dX10_nextToken_251 rfl ?_
  refine r_Model_at dX10_nextToken_252 fl_X10_78 ?_
  refine v_iconst dX10_nextToken_255 (by decide : _ = (1 : Int32)) ?_
  refine v_iadd dX10_nextToken_256 ?_
  refine w_Model_at dX10_nextToken_257 fl_X10_78 ?_
  replace hh := lt_of hh
  refine v_iload_n 1 dX10_nextToken_260 rfl rfl ?_
  refine v_bipush dX10_nextToken_261 (by decide : _ = (60 : Int32)) ?_
  refine v_icmp_eq (tgt := 272) dX10_nextToken_263 (by decide) (fun c => ?_) (fun c => ?_)
  · replace hh := (if_pos c).symm.trans hh
    exact v_sub [0, 1] rfl (tb_X10_nextToken_272 _ _ hh)
  · replace hh := (if_neg c).symm.trans hh
    refine v_iload_n 1 dX10_nextToken_266 rfl rfl ?_
    refine v_bipush dX10_nextToken_267 (by decide : _ = (62 : Int32)) ?_
    refine v_icmp_ne (tgt := 310) dX10_nextToken_269 (by decide) (fun c => ?_) (fun c => ?_)
    · replace hh := (if_neg c).symm.trans hh
      obtain rfl := Option.some.inj hh
      exact v_vret dX10_nextToken_310 rfl (Nat.zero_le _) (Nat.zero_le _) ⟨rfl, rfl⟩
    · replace hh := (if_pos c).symm.trans hh
      exact v_sub [0, 1] rfl (tb_X10_nextToken_272 _ _ hh)
def f_X10_nextToken_b218 (rec168 : (St → Option (St))) (N : Nat) (s0 : Int64) (S : St) : Option (St) :=
  lt (sL S 1011 0 0 s0) fun S19 =>
  lt (sI S19 1007 0 0 ((gI S19 1007 0 0) + (1 : Int32))) fun S20 =>
  rec168 S20
set_option maxRecDepth 100000 in
set_option maxHeartbeats 4000000 in
theorem tb_X10_nextToken_218 {l : Launch} {G : v_G} {N : Nat}    {r : St} {rec168 : (St → Option (St))} (hrec168 : ∀  (S : St),  rec168  S = some r → V l G yX10_nextToken cX10_nextToken 2 (none) (v_rm 1 0 0) (QV (lay G r)) 0 0 168 [(0, .ref (v_B G + 291))] [] (lay G S)) : ∀ (s0 : Int64) (S : St),  f_X10_nextToken_b218 rec168 N s0 S = some r → V l G yX10_nextToken cX10_nextToken 2 (none) (v_rm 1 0 0) (QV (lay G r)) 0 0 218 [(0, .ref (v_B G + 291))] [.long s0, .ref (v_B G + 291)] (lay G S) := by
  intro s0 S  hh
  unfold f_X10_nextToken_b218 at hh
  refine w_Model_word dX10_nextToken_218 fl_X10_101 ?_
  replace hh := lt_of hh
  refine v_aload_n 0 dX10_nextToken_221 rfl rfl ?_
  refine v_dup dX10_nextToken_222 rfl ?_
  refine r_Model_at dX10_nextToken_223 fl_X10_78 ?_
  refine v_iconst dX10_nextToken_226 (by decide : _ = (1 : Int32)) ?_
  refine v_iadd dX10_nextToken_227 ?_
  refine w_Model_at dX10_nextToken_228 fl_X10_78 ?_
  replace hh := lt_of hh
  refine v_goto (tgt := 168) dX10_nextToken_231 (by decide) ?_
  exact v_sub [0] rfl (hrec168 _ hh)
def f_X10_nextToken_b168 (N : Nat) : Nat → St → Option (St)
  | 0, _ => none
  | n + 1, S =>
  bnd (f_X10_byteAt S (gI S 1007 0 0)) fun q16 =>
 bnd (f_X10_isLetterByte S q16) fun q17 =>
 if q17 = (0 : Int32) then
  (some S)
  else
  (if (lg_cmp ((gL S 1011 0 0) >>> ((48 : Int32).toInt64 &&& 63)) (0 : Int64)) = (0 : Int32) then
  (bnd (f_X10_byteAt S (gI S 1007 0 0)) fun q18 =>
 f_X10_nextToken_b218 (f_X10_nextToken_b168 N n) N (((gL S 1011 0 0) <<< ((8 : Int32).toInt64 &&& 63)) ||| q18.toInt64) S)
  else
  (f_X10_nextToken_b218 (f_X10_nextToken_b168 N n) N (1152921504606846976 : Int64) S))
set_option maxRecDepth 100000 in
set_option maxHeartbeats 4000000 in
theorem tb_X10_nextToken_168 {l : Launch} {G : v_G} {N : Nat}    {r : St}   : ∀ (n : Nat)  (S : St),  f_X10_nextToken_b168 N n  S = some r → V l G yX10_nextToken cX10_nextToken 2 (none) (v_rm 1 0 0) (QV (lay G r)) 0 0 168 [(0, .ref (v_B G + 291))] [] (lay G S) := by
  intro n
  induction n with
  | zero =>
    intro  S  hh
    rw [f_X10_nextToken_b168] at hh
    cases hh
  | succ n ih =>
    intro  S  hh
    rw [f_X10_nextToken_b168] at hh
    refine v_aload_n 0 dX10_nextToken_168 rfl rfl ?_
    refine v_aload_n 0 dX10_nextToken_169 rfl rfl ?_
    refine r_Model_at dX10_nextToken_170 fl_X10_78 ?_
    obtain ⟨q16, eq16, hh⟩ := bnd_some hh
    refine v_callVi (t_X10_byteAt eq16) dX10_nextToken_173 y_X10_byteAt ml_X10_81 (ci := 9) rfl rfl (e_Model) rfl rfl (Nat.le_of_ble_eq_true rfl) ⟨(Nat.le_of_ble_eq_true rfl), (Nat.le_of_ble_eq_true rfl)⟩ ⟨Nat.zero_le _, Nat.zero_le _⟩ ?_
    obtain ⟨q17, eq17, hh⟩ := bnd_some hh
    refine v_callSi (t_X10_isLetterByte eq17) dX10_nextToken_176 y_X10_isLetterByte ml_X10_98 rfl rfl (Nat.le_of_ble_eq_true rfl) ⟨(Nat.le_of_ble_eq_true rfl), (Nat.le_of_ble_eq_true rfl)⟩ ⟨Nat.zero_le _, Nat.zero_le _⟩ ?_
    refine v_if_eq (tgt := 310) dX10_nextToken_179 (by decide) (fun c => ?_) (fun c => ?_)
    · replace hh := (if_pos c).symm.trans hh
      obtain rfl := Option.some.inj hh
      exact v_vret dX10_nextToken_310 rfl (Nat.zero_le _) (Nat.zero_le _) ⟨rfl, rfl⟩
    · replace hh := (if_neg c).symm.trans hh
      refine v_aload_n 0 dX10_nextToken_182 rfl rfl ?_
      refine v_aload_n 0 dX10_nextToken_183 rfl rfl ?_
      refine r_Model_word dX10_nextToken_184 fl_X10_101 ?_
      refine v_bipush dX10_nextToken_187 (by decide : _ = (48 : Int32)) ?_
      refine v_lshr dX10_nextToken_189 ?_
      refine v_lconst dX10_nextToken_190 (by decide : _ = (0 : Int64)) ?_
      refine v_lcmp dX10_nextToken_191 ?_
      refine v_if_eq (tgt := 201) dX10_nextToken_192 (by decide) (fun c => ?_) (fun c => ?_)
      · replace hh := (if_pos c).symm.trans hh
        refine v_aload_n 0 dX10_nextToken_201 rfl rfl ?_
        refine r_Model_word dX10_nextToken_202 fl_X10_101 ?_
        refine v_bipush dX10_nextToken_205 (by decide : _ = (8 : Int32)) ?_
        refine v_lshl dX10_nextToken_207 ?_
        refine v_aload_n 0 dX10_nextToken_208 rfl rfl ?_
        refine v_aload_n 0 dX10_nextToken_209 rfl rfl ?_
        refine r_Model_at dX10_nextToken_210 fl_X10_78 ?_
        obtain ⟨q18, eq18, hh⟩ := bnd_some hh
        refine v_callVi (t_X10_byteAt eq18) dX10_nextToken_213 y_X10_byteAt ml_X10_81 (ci := 9) rfl rfl (e_Model) rfl rfl (Nat.le_of_ble_eq_true rfl) ⟨(Nat.le_of_ble_eq_true rfl), (Nat.le_of_ble_eq_true rfl)⟩ ⟨Nat.zero_le _, Nat.zero_le _⟩ ?_
        refine v_i2l dX10_nextToken_216 ?_
        refine v_lor dX10_nextToken_217 ?_
        exact v_sub [0] rfl (tb_X10_nextToken_218 (fun _ hh => ih _ hh) _ _ hh)
      · replace hh := (if_neg c).symm.trans hh
        refine v_ldc2 dX10_nextToken_195 col_X10_105 ?_
        refine v_goto (tgt := 218) dX10_nextToken_198 (by decide) ?_
        exact v_sub [0] rfl (tb_X10_nextToken_218 (fun _ hh => ih _ hh) _ _ hh)
def f_X10_nextToken_b135 (rec85 : (St → Option (St))) (N : Nat) (s0 : Int32) (S : St) : Option (St) :=
  lt (sI S 1010 0 0 s0) fun S26 =>
  lt (sI S26 1007 0 0 ((gI S26 1007 0 0) + (1 : Int32))) fun S27 =>
  rec85 S27
set_option maxRecDepth 100000 in
set_option maxHeartbeats 4000000 in
theorem tb_X10_nextToken_135 {l : Launch} {G : v_G} {N : Nat}    {r : St} {rec85 : (St → Option (St))} (hrec85 : ∀  (S : St),  rec85  S = some r → V l G yX10_nextToken cX10_nextToken 2 (none) (v_rm 1 0 0) (QV (lay G r)) 0 0 85 [(0, .ref (v_B G + 291))] [] (lay G S)) : ∀ (s0 : Int32) (S : St),  f_X10_nextToken_b135 rec85 N s0 S = some r → V l G yX10_nextToken cX10_nextToken 2 (none) (v_rm 1 0 0) (QV (lay G r)) 0 0 135 [(0, .ref (v_B G + 291))] [.int s0, .ref (v_B G + 291)] (lay G S) := by
  intro s0 S  hh
  unfold f_X10_nextToken_b135 at hh
  refine w_Model_number dX10_nextToken_135 fl_X10_94 ?_
  replace hh := lt_of hh
  refine v_aload_n 0 dX10_nextToken_138 rfl rfl ?_
  refine v_dup dX10_nextToken_139 rfl ?_
  refine r_Model_at dX10_nextToken_140 fl_X10_78 ?_
  refine v_iconst dX10_nextToken_143 (by decide : _ = (1 : Int32)) ?_
  refine v_iadd dX10_nextToken_144 ?_
  refine w_Model_at dX10_nextToken_145 fl_X10_78 ?_
  replace hh := lt_of hh
  refine v_goto (tgt := 85) dX10_nextToken_148 (by decide) ?_
  exact v_sub [0] rfl (hrec85 _ hh)
def f_X10_nextToken_b85 (N : Nat) : Nat → St → Option (St)
  | 0, _ => none
  | n + 1, S =>
  bnd (f_X10_byteAt S (gI S 1007 0 0)) fun q23 =>
 bnd (f_X10_isFigure S q23) fun q24 =>
 if q24 = (0 : Int32) then
  (some S)
  else
  (if (gI S 1010 0 0) ≤ (99999 : Int32) then
  (bnd (f_X10_byteAt S (gI S 1007 0 0)) fun q25 =>
 f_X10_nextToken_b135 (f_X10_nextToken_b85 N n) N ((((10 : Int32) * (gI S 1010 0 0)) + q25) - (48 : Int32)) S)
  else
  (f_X10_nextToken_b135 (f_X10_nextToken_b85 N n) N (gI S 1010 0 0) S))
set_option maxRecDepth 100000 in
set_option maxHeartbeats 4000000 in
theorem tb_X10_nextToken_85 {l : Launch} {G : v_G} {N : Nat}    {r : St}   : ∀ (n : Nat)  (S : St),  f_X10_nextToken_b85 N n  S = some r → V l G yX10_nextToken cX10_nextToken 2 (none) (v_rm 1 0 0) (QV (lay G r)) 0 0 85 [(0, .ref (v_B G + 291))] [] (lay G S) := by
  intro n
  induction n with
  | zero =>
    intro  S  hh
    rw [f_X10_nextToken_b85] at hh
    cases hh
  | succ n ih =>
    intro  S  hh
    rw [f_X10_nextToken_b85] at hh
    refine v_aload_n 0 dX10_nextToken_85 rfl rfl ?_
    refine v_aload_n 0 dX10_nextToken_86 rfl rfl ?_
    refine r_Model_at dX10_nextToken_87 fl_X10_78 ?_
    obtain ⟨q23, eq23, hh⟩ := bnd_some hh
    refine v_callVi (t_X10_byteAt eq23) dX10_nextToken_90 y_X10_byteAt ml_X10_81 (ci := 9) rfl rfl (e_Model) rfl rfl (Nat.le_of_ble_eq_true rfl) ⟨(Nat.le_of_ble_eq_true rfl), (Nat.le_of_ble_eq_true rfl)⟩ ⟨Nat.zero_le _, Nat.zero_le _⟩ ?_
    obtain ⟨q24, eq24, hh⟩ := bnd_some hh
    refine v_callSi (t_X10_isFigure eq24) dX10_nextToken_93 y_X10_isFigure ml_X10_91 rfl rfl (Nat.le_of_ble_eq_true rfl) ⟨(Nat.le_of_ble_eq_true rfl), (Nat.le_of_ble_eq_true rfl)⟩ ⟨Nat.zero_le _, Nat.zero_le _⟩ ?_
    refine v_if_eq (tgt := 310) dX10_nextToken_96 (by decide) (fun c => ?_) (fun c => ?_)
    · replace hh := (if_pos c).symm.trans hh
      obtain rfl := Option.some.inj hh
      exact v_vret dX10_nextToken_310 rfl (Nat.zero_le _) (Nat.zero_le _) ⟨rfl, rfl⟩
    · replace hh := (if_neg c).symm.trans hh
      refine v_aload_n 0 dX10_nextToken_99 rfl rfl ?_
      refine v_aload_n 0 dX10_nextToken_100 rfl rfl ?_
      refine r_Model_number dX10_nextToken_101 fl_X10_94 ?_
      refine v_ldc dX10_nextToken_104 co_X10_97 ?_
      refine v_icmp_le (tgt := 116) dX10_nextToken_106 (by decide) (fun c => ?_) (fun c => ?_)
      · replace hh := (if_pos c).symm.trans hh
        refine v_bipush dX10_nextToken_116 (by decide : _ = (10 : Int32)) ?_
        refine v_aload_n 0 dX10_nextToken_118 rfl rfl ?_
        refine r_Model_number dX10_nextToken_119 fl_X10_94 ?_
        refine v_imul dX10_nextToken_122 ?_
        refine v_aload_n 0 dX10_nextToken_123 rfl rfl ?_
        refine v_aload_n 0 dX10_nextToken_124 rfl rfl ?_
        refine r_Model_at dX10_nextToken_125 fl_X10_78 ?_
        obtain ⟨q25, eq25, hh⟩ := bnd_some hh
        refine v_callVi (t_X10_byteAt eq25) dX10_nextToken_128 y_X10_byteAt ml_X10_81 (ci := 9) rfl rfl (e_Model) rfl rfl (Nat.le_of_ble_eq_true rfl) ⟨(Nat.le_of_ble_eq_true rfl), (Nat.le_of_ble_eq_true rfl)⟩ ⟨Nat.zero_le _, Nat.zero_le _⟩ ?_
        refine v_iadd dX10_nextToken_131 ?_
        refine v_bipush dX10_nextToken_132 (by decide : _ = (48 : Int32)) ?_
        refine v_isub dX10_nextToken_134 ?_
        exact v_sub [0] rfl (tb_X10_nextToken_135 (fun _ hh => ih _ hh) _ _ hh)
      · replace hh := (if_neg c).symm.trans hh
        refine v_aload_n 0 dX10_nextToken_109 rfl rfl ?_
        refine r_Model_number dX10_nextToken_110 fl_X10_94 ?_
        refine v_goto (tgt := 135) dX10_nextToken_113 (by decide) ?_
        exact v_sub [0] rfl (tb_X10_nextToken_135 (fun _ hh => ih _ hh) _ _ hh)
def f_X10_nextToken_b0 (N : Nat) : Nat → St → Option (St)
  | 0, _ => none
  | n + 1, S =>
  bnd (f_X10_byteAt S (gI S 1007 0 0)) fun q1 =>
 if q1 = (32 : Int32) then
  (f_X10_nextToken_b26 (f_X10_nextToken_b0 N n) N S)
  else
  (bnd (f_X10_byteAt S (gI S 1007 0 0)) fun q3 =>
 if q3 = (10 : Int32) then
  (f_X10_nextToken_b26 (f_X10_nextToken_b0 N n) N S)
  else
  (lt (sI S 1008 0 0 (gI S 1007 0 0)) fun S4 =>
  bnd (f_X10_byteAt S4 (gI S4 1007 0 0)) fun q5 =>
 if (0 : Int32) ≤ q5 then
  (bnd (f_X10_isFigure S4 q5) fun q6 =>
 if q6 = (0 : Int32) then
  (bnd (f_X10_isLetterByte S4 q5) fun q7 =>
 if q7 = (0 : Int32) then
  (bnd (f_X10_isSign S4 q5) fun q8 =>
 if q8 = (0 : Int32) then
  (f_X10_nextToken_b247 N q5 (3 : Int32) S4)
  else
  (f_X10_nextToken_b247 N q5 q5 S4))
  else
  (lt (sI S4 1009 0 0 (2 : Int32)) fun S14 =>
  lt (sL S14 1011 0 0 (0 : Int64)) fun S15 =>
  f_X10_nextToken_b168 N N S15))
  else
  (lt (sI S4 1009 0 0 (1 : Int32)) fun S21 =>
  lt (sI S21 1010 0 0 (0 : Int32)) fun S22 =>
  f_X10_nextToken_b85 N N S22))
  else
  (lt (sI S4 1009 0 0 (0 : Int32)) fun S28 =>
  some S28)))
set_option maxRecDepth 100000 in
set_option maxHeartbeats 4000000 in
theorem tb_X10_nextToken_0 {l : Launch} {G : v_G} {N : Nat}    {r : St}   : ∀ (n : Nat)  (S : St),  f_X10_nextToken_b0 N n  S = some r → V l G yX10_nextToken cX10_nextToken 2 (none) (v_rm 1 0 0) (QV (lay G r)) 0 0 0 [(0, .ref (v_B G + 291))] [] (lay G S) := by
  intro n
  induction n with
  | zero =>
    intro  S  hh
    rw [f_X10_nextToken_b0] at hh
    cases hh
  | succ n ih =>
    intro  S  hh
    rw [f_X10_nextToken_b0] at hh
    refine v_aload_n 0 dX10_nextToken_0 rfl rfl ?_
    refine v_aload_n 0 dX10_nextToken_1 rfl rfl ?_
    refine r_Model_at dX10_nextToken_2 fl_X10_78 ?_
    obtain ⟨q1, eq1, hh⟩ := bnd_some hh
    refine v_callVi (t_X10_byteAt eq1) dX10_nextToken_5 y_X10_byteAt ml_X10_81 (ci := 9) rfl rfl (e_Model) rfl rfl (Nat.le_of_ble_eq_true rfl) ⟨(Nat.le_of_ble_eq_true rfl), (Nat.le_of_ble_eq_true rfl)⟩ ⟨Nat.zero_le _, Nat.zero_le _⟩ ?_
    refine v_bipush dX10_nextToken_8 (by decide : _ = (32 : Int32)) ?_
    refine v_icmp_eq (tgt := 26) dX10_nextToken_10 (by decide) (fun c => ?_) (fun c => ?_)
    · replace hh := (if_pos c).symm.trans hh
      exact v_sub [0] rfl (tb_X10_nextToken_26 (fun _ hh => ih _ hh) _ hh)
    · replace hh := (if_neg c).symm.trans hh
      refine v_aload_n 0 dX10_nextToken_13 rfl rfl ?_
      refine v_aload_n 0 dX10_nextToken_14 rfl rfl ?_
      refine r_Model_at dX10_nextToken_15 fl_X10_78 ?_
      obtain ⟨q3, eq3, hh⟩ := bnd_some hh
      refine v_callVi (t_X10_byteAt eq3) dX10_nextToken_18 y_X10_byteAt ml_X10_81 (ci := 9) rfl rfl (e_Model) rfl rfl (Nat.le_of_ble_eq_true rfl) ⟨(Nat.le_of_ble_eq_true rfl), (Nat.le_of_ble_eq_true rfl)⟩ ⟨Nat.zero_le _, Nat.zero_le _⟩ ?_
      refine v_bipush dX10_nextToken_21 (by decide : _ = (10 : Int32)) ?_
      refine v_icmp_ne (tgt := 39) dX10_nextToken_23 (by decide) (fun c => ?_) (fun c => ?_)
      · replace hh := (if_neg c).symm.trans hh
        refine v_aload_n 0 dX10_nextToken_39 rfl rfl ?_
        refine v_aload_n 0 dX10_nextToken_40 rfl rfl ?_
        refine r_Model_at dX10_nextToken_41 fl_X10_78 ?_
        refine w_Model_place dX10_nextToken_44 fl_X10_85 ?_
        replace hh := lt_of hh
        refine v_aload_n 0 dX10_nextToken_47 rfl rfl ?_
        refine v_aload_n 0 dX10_nextToken_48 rfl rfl ?_
        refine r_Model_at dX10_nextToken_49 fl_X10_78 ?_
        obtain ⟨q5, eq5, hh⟩ := bnd_some hh
        refine v_callVi (t_X10_byteAt eq5) dX10_nextToken_52 y_X10_byteAt ml_X10_81 (ci := 9) rfl rfl (e_Model) rfl rfl (Nat.le_of_ble_eq_true rfl) ⟨(Nat.le_of_ble_eq_true rfl), (Nat.le_of_ble_eq_true rfl)⟩ ⟨Nat.zero_le _, Nat.zero_le _⟩ ?_
        refine v_istore_n dX10_nextToken_55 rfl (by decide) rfl ?_
        refine v_iload_n 0 dX10_nextToken_56 rfl rfl ?_
        refine v_if_ge (tgt := 68) dX10_nextToken_57 (by decide) (fun c => ?_) (fun c => ?_)
        · replace hh := (if_pos c).symm.trans hh
          refine v_iload_n 0 dX10_nextToken_68 rfl rfl ?_
          obtain ⟨q6, eq6, hh⟩ := bnd_some hh
          refine v_callSi (t_X10_isFigure eq6) dX10_nextToken_69 y_X10_isFigure ml_X10_91 rfl rfl (Nat.le_of_ble_eq_true rfl) ⟨(Nat.le_of_ble_eq_true rfl), (Nat.le_of_ble_eq_true rfl)⟩ ⟨Nat.zero_le _, Nat.zero_le _⟩ ?_
          refine v_if_eq (tgt := 151) dX10_nextToken_72 (by decide) (fun c => ?_) (fun c => ?_)
          · replace hh := (if_pos c).symm.trans hh
            refine v_iload_n 0 dX10_nextToken_151 rfl rfl ?_
            obtain ⟨q7, eq7, hh⟩ := bnd_some hh
            refine v_callSi (t_X10_isLetterByte eq7) dX10_nextToken_152 y_X10_isLetterByte ml_X10_98 rfl rfl (Nat.le_of_ble_eq_true rfl) ⟨(Nat.le_of_ble_eq_true rfl), (Nat.le_of_ble_eq_true rfl)⟩ ⟨Nat.zero_le _, Nat.zero_le _⟩ ?_
            refine v_if_eq (tgt := 234) dX10_nextToken_155 (by decide) (fun c => ?_) (fun c => ?_)
            · replace hh := (if_pos c).symm.trans hh
              refine v_aload_n 1 dX10_nextToken_234 rfl rfl ?_
              refine v_iload_n 0 dX10_nextToken_235 rfl rfl ?_
              obtain ⟨q8, eq8, hh⟩ := bnd_some hh
              refine v_callSi (t_X10_isSign eq8) dX10_nextToken_236 y_X10_isSign ml_X10_107 rfl rfl (Nat.le_of_ble_eq_true rfl) ⟨(Nat.le_of_ble_eq_true rfl), (Nat.le_of_ble_eq_true rfl)⟩ ⟨Nat.zero_le _, Nat.zero_le _⟩ ?_
              refine v_if_eq (tgt := 246) dX10_nextToken_239 (by decide) (fun c => ?_) (fun c => ?_)
              · replace hh := (if_pos c).symm.trans hh
                refine v_iconst dX10_nextToken_246 (by decide : _ = (3 : Int32)) ?_
                exact v_sub [1, 0] rfl (tb_X10_nextToken_247 _ _ _ hh)
              · replace hh := (if_neg c).symm.trans hh
                refine v_iload_n 0 dX10_nextToken_242 rfl rfl ?_
                refine v_goto (tgt := 247) dX10_nextToken_243 (by decide) ?_
                exact v_sub [1, 0] rfl (tb_X10_nextToken_247 _ _ _ hh)
            · replace hh := (if_neg c).symm.trans hh
              refine v_aload_n 1 dX10_nextToken_158 rfl rfl ?_
              refine v_iconst dX10_nextToken_159 (by decide : _ = (2 : Int32)) ?_
              refine w_Model_token dX10_nextToken_160 fl_X10_88 ?_
              replace hh := lt_of hh
              refine v_aload_n 1 dX10_nextToken_163 rfl rfl ?_
              refine v_lconst dX10_nextToken_164 (by decide : _ = (0 : Int64)) ?_
              refine w_Model_word dX10_nextToken_165 fl_X10_101 ?_
              replace hh := lt_of hh
              exact v_sub [1] rfl (tb_X10_nextToken_168 N _ hh)
          · replace hh := (if_neg c).symm.trans hh
            refine v_aload_n 1 dX10_nextToken_75 rfl rfl ?_
            refine v_iconst dX10_nextToken_76 (by decide : _ = (1 : Int32)) ?_
            refine w_Model_token dX10_nextToken_77 fl_X10_88 ?_
            replace hh := lt_of hh
            refine v_aload_n 1 dX10_nextToken_80 rfl rfl ?_
            refine v_iconst dX10_nextToken_81 (by decide : _ = (0 : Int32)) ?_
            refine w_Model_number dX10_nextToken_82 fl_X10_94 ?_
            replace hh := lt_of hh
            exact v_sub [1] rfl (tb_X10_nextToken_85 N _ hh)
        · replace hh := (if_neg c).symm.trans hh
          refine v_aload_n 1 dX10_nextToken_60 rfl rfl ?_
          refine v_iconst dX10_nextToken_61 (by decide : _ = (0 : Int32)) ?_
          refine w_Model_token dX10_nextToken_62 fl_X10_88 ?_
          replace hh := lt_of hh
          refine v_goto (tgt := 310) dX10_nextToken_65 (by decide) ?_
          obtain rfl := Option.some.inj hh
          exact v_vret dX10_nextToken_310 rfl (Nat.zero_le _) (Nat.zero_le _) ⟨rfl, rfl⟩
      · replace hh := (if_pos c).symm.trans hh
        exact v_sub [0] rfl (tb_X10_nextToken_26 (fun _ hh => ih _ hh) _ hh)
def f_X10_nextToken (N : Nat) (S : St)  : Option (St) :=
  f_X10_nextToken_b0 N N S
set_option maxRecDepth 100000 in
set_option maxHeartbeats 4000000 in
theorem t_X10_nextToken {l : Launch} {G : v_G} {N : Nat} {S : St}    {r : St} (hh : f_X10_nextToken N S  = some r) : v_M l G yX10_nextToken cX10_nextToken 2 (none) 1 0 0 [.ref (v_B G + 291)] (lay G S) (QV (lay G r)) := by
  refine v_entry (by decide) (Nat.le_of_ble_eq_true rfl) ?_
  unfold f_X10_nextToken at hh
  show V l G yX10_nextToken cX10_nextToken 2 (none) (v_rm 1 0 0) (QV (lay G r)) 0 0 0 [(0, .ref (v_B G + 291))] [] (lay G S)
  exact v_sub [0] rfl (tb_X10_nextToken_0 N _ hh)
def f_X10_w2  (S : St) (x0 : Int32) (x1 : Int32) : Option (Int64) :=
  some ((x0.toInt64 <<< ((8 : Int32).toInt64 &&& 63)) ||| x1.toInt64)
set_option maxRecDepth 100000 in
set_option maxHeartbeats 4000000 in
theorem t_X10_w2 {l : Launch} {G : v_G} {S : St}   {x0 : Int32} {x1 : Int32} {r : Int64} (hh : f_X10_w2  S x0 x1 = some r) : v_M l G yX10_w2 cX10_w2 2 (some .long) 0 0 0 [.int x0, .int x1] (lay G S) (QL r (lay G S)) := by
  refine v_entry (by decide) (Nat.le_of_ble_eq_true rfl) ?_
  unfold f_X10_w2 at hh
  show V l G yX10_w2 cX10_w2 2 (some .long) (v_rm 0 0 0) (QL r (lay G S)) 0 0 0 [(0, .int x0), (1, .int x1)] [] (lay G S)
  refine v_iload_n 0 dX10_w2_0 rfl rfl ?_
  refine v_i2l dX10_w2_1 ?_
  refine v_bipush dX10_w2_2 (by decide : _ = (8 : Int32)) ?_
  refine v_lshl dX10_w2_4 ?_
  refine v_iload_n 1 dX10_w2_5 rfl rfl ?_
  refine v_i2l dX10_w2_6 ?_
  refine v_lor dX10_w2_7 ?_
  obtain rfl := Option.some.inj hh
  exact v_lret dX10_w2_8 rfl (Nat.zero_le _) (Nat.zero_le _) ⟨rfl, rfl⟩
def f_X10_w3  (S : St) (x0 : Int32) (x1 : Int32) (x2 : Int32) : Option (Int64) :=
  bnd (f_X10_w2 S x0 x1) fun q1 =>
 some ((q1 <<< ((8 : Int32).toInt64 &&& 63)) ||| x2.toInt64)
set_option maxRecDepth 100000 in
set_option maxHeartbeats 4000000 in
theorem t_X10_w3 {l : Launch} {G : v_G} {S : St}   {x0 : Int32} {x1 : Int32} {x2 : Int32} {r : Int64} (hh : f_X10_w3  S x0 x1 x2 = some r) : v_M l G yX10_w3 cX10_w3 3 (some .long) 1 0 0 [.int x0, .int x1, .int x2] (lay G S) (QL r (lay G S)) := by
  refine v_entry (by decide) (Nat.le_of_ble_eq_true rfl) ?_
  unfold f_X10_w3 at hh
  show V l G yX10_w3 cX10_w3 3 (some .long) (v_rm 1 0 0) (QL r (lay G S)) 0 0 0 [(0, .int x0), (1, .int x1), (2, .int x2)] [] (lay G S)
  refine v_iload_n 0 dX10_w3_0 rfl rfl ?_
  refine v_iload_n 1 dX10_w3_1 rfl rfl ?_
  obtain ⟨q1, eq1, hh⟩ := bnd_some hh
  refine v_callSl (t_X10_w2 eq1) dX10_w3_2 y_X10_w2 ml_X10_110 rfl rfl (Nat.le_of_ble_eq_true rfl) ⟨(Nat.le_of_ble_eq_true rfl), (Nat.le_of_ble_eq_true rfl)⟩ ⟨Nat.zero_le _, Nat.zero_le _⟩ ?_
  refine v_bipush dX10_w3_5 (by decide : _ = (8 : Int32)) ?_
  refine v_lshl dX10_w3_7 ?_
  refine v_iload_n 2 dX10_w3_8 rfl rfl ?_
  refine v_i2l dX10_w3_9 ?_
  refine v_lor dX10_w3_10 ?_
  obtain rfl := Option.some.inj hh
  exact v_lret dX10_w3_11 rfl (Nat.zero_le _) (Nat.zero_le _) ⟨rfl, rfl⟩
def f_X10_w4  (S : St) (x0 : Int32) (x1 : Int32) (x2 : Int32) (x3 : Int32) : Option (Int64) :=
  bnd (f_X10_w3 S x0 x1 x2) fun q1 =>
 some ((q1 <<< ((8 : Int32).toInt64 &&& 63)) ||| x3.toInt64)
set_option maxRecDepth 100000 in
set_option maxHeartbeats 4000000 in
theorem t_X10_w4 {l : Launch} {G : v_G} {S : St}   {x0 : Int32} {x1 : Int32} {x2 : Int32} {x3 : Int32} {r : Int64} (hh : f_X10_w4  S x0 x1 x2 x3 = some r) : v_M l G yX10_w4 cX10_w4 4 (some .long) 2 0 0 [.int x0, .int x1, .int x2, .int x3] (lay G S) (QL r (lay G S)) := by
  refine v_entry (by decide) (Nat.le_of_ble_eq_true rfl) ?_
  unfold f_X10_w4 at hh
  show V l G yX10_w4 cX10_w4 4 (some .long) (v_rm 2 0 0) (QL r (lay G S)) 0 0 0 [(0, .int x0), (1, .int x1), (2, .int x2), (3, .int x3)] [] (lay G S)
  refine v_iload_n 0 dX10_w4_0 rfl rfl ?_
  refine v_iload_n 1 dX10_w4_1 rfl rfl ?_
  refine v_iload_n 2 dX10_w4_2 rfl rfl ?_
  obtain ⟨q1, eq1, hh⟩ := bnd_some hh
  refine v_callSl (t_X10_w3 eq1) dX10_w4_3 y_X10_w3 ml_X10_114 rfl rfl (Nat.le_of_ble_eq_true rfl) ⟨(Nat.le_of_ble_eq_true rfl), (Nat.le_of_ble_eq_true rfl)⟩ ⟨Nat.zero_le _, Nat.zero_le _⟩ ?_
  refine v_bipush dX10_w4_6 (by decide : _ = (8 : Int32)) ?_
  refine v_lshl dX10_w4_8 ?_
  refine v_iload_n 3 dX10_w4_9 rfl rfl ?_
  refine v_i2l dX10_w4_10 ?_
  refine v_lor dX10_w4_11 ?_
  obtain rfl := Option.some.inj hh
  exact v_lret dX10_w4_12 rfl (Nat.zero_le _) (Nat.zero_le _) ⟨rfl, rfl⟩
def f_X10_w5  (S : St) (x0 : Int32) (x1 : Int32) (x2 : Int32) (x3 : Int32) (x4 : Int32) : Option (Int64) :=
  bnd (f_X10_w4 S x0 x1 x2 x3) fun q1 =>
 some ((q1 <<< ((8 : Int32).toInt64 &&& 63)) ||| x4.toInt64)
set_option maxRecDepth 100000 in
set_option maxHeartbeats 4000000 in
theorem t_X10_w5 {l : Launch} {G : v_G} {S : St}   {x0 : Int32} {x1 : Int32} {x2 : Int32} {x3 : Int32} {x4 : Int32} {r : Int64} (hh : f_X10_w5  S x0 x1 x2 x3 x4 = some r) : v_M l G yX10_w5 cX10_w5 5 (some .long) 3 0 0 [.int x0, .int x1, .int x2, .int x3, .int x4] (lay G S) (QL r (lay G S)) := by
  refine v_entry (by decide) (Nat.le_of_ble_eq_true rfl) ?_
  unfold f_X10_w5 at hh
  show V l G yX10_w5 cX10_w5 5 (some .long) (v_rm 3 0 0) (QL r (lay G S)) 0 0 0 [(0, .int x0), (1, .int x1), (2, .int x2), (3, .int x3), (4, .int x4)] [] (lay G S)
  refine v_iload_n 0 dX10_w5_0 rfl rfl ?_
  refine v_iload_n 1 dX10_w5_1 rfl rfl ?_
  refine v_iload_n 2 dX10_w5_2 rfl rfl ?_
  refine v_iload_n 3 dX10_w5_3 rfl rfl ?_
  obtain ⟨q1, eq1, hh⟩ := bnd_some hh
  refine v_callSl (t_X10_w4 eq1) dX10_w5_4 y_X10_w4 ml_X10_118 rfl rfl (Nat.le_of_ble_eq_true rfl) ⟨(Nat.le_of_ble_eq_true rfl), (Nat.le_of_ble_eq_true rfl)⟩ ⟨Nat.zero_le _, Nat.zero_le _⟩ ?_
  refine v_bipush dX10_w5_7 (by decide : _ = (8 : Int32)) ?_
  refine v_lshl dX10_w5_9 ?_
  refine v_iload 4 dX10_w5_10 rfl ?_
  refine v_i2l dX10_w5_12 ?_
  refine v_lor dX10_w5_13 ?_
  obtain rfl := Option.some.inj hh
  exact v_lret dX10_w5_14 rfl (Nat.zero_le _) (Nat.zero_le _) ⟨rfl, rfl⟩
def f_X10_w6  (S : St) (x0 : Int32) (x1 : Int32) (x2 : Int32) (x3 : Int32) (x4 : Int32) (x5 : Int32) : Option (Int64) :=
  bnd (f_X10_w5 S x0 x1 x2 x3 x4) fun q1 =>
 some ((q1 <<< ((8 : Int32).toInt64 &&& 63)) ||| x5.toInt64)
set_option maxRecDepth 100000 in
set_option maxHeartbeats 4000000 in
theorem t_X10_w6 {l : Launch} {G : v_G} {S : St}   {x0 : Int32} {x1 : Int32} {x2 : Int32} {x3 : Int32} {x4 : Int32} {x5 : Int32} {r : Int64} (hh : f_X10_w6  S x0 x1 x2 x3 x4 x5 = some r) : v_M l G yX10_w6 cX10_w6 6 (some .long) 4 0 0 [.int x0, .int x1, .int x2, .int x3, .int x4, .int x5] (lay G S) (QL r (lay G S)) := by
  refine v_entry (by decide) (Nat.le_of_ble_eq_true rfl) ?_
  unfold f_X10_w6 at hh
  show V l G yX10_w6 cX10_w6 6 (some .long) (v_rm 4 0 0) (QL r (lay G S)) 0 0 0 [(0, .int x0), (1, .int x1), (2, .int x2), (3, .int x3), (4, .int x4), (5, .int x5)] [] (lay G S)
  refine v_iload_n 0 dX10_w6_0 rfl rfl ?_
  refine v_iload_n 1 dX10_w6_1 rfl rfl ?_
  refine v_iload_n 2 dX10_w6_2 rfl rfl ?_
  refine v_iload_n 3 dX10_w6_3 rfl rfl ?_
  refine v_iload 4 dX10_w6_4 rfl ?_
  obtain ⟨q1, eq1, hh⟩ := bnd_some hh
  refine v_callSl (t_X10_w5 eq1) dX10_w6_6 y_X10_w5 ml_X10_122 rfl rfl (Nat.le_of_ble_eq_true rfl) ⟨(Nat.le_of_ble_eq_true rfl), (Nat.le_of_ble_eq_true rfl)⟩ ⟨Nat.zero_le _, Nat.zero_le _⟩ ?_
  refine v_bipush dX10_w6_9 (by decide : _ = (8 : Int32)) ?_
  refine v_lshl dX10_w6_11 ?_
  refine v_iload 5 dX10_w6_12 rfl ?_
  refine v_i2l dX10_w6_14 ?_
  refine v_lor dX10_w6_15 ?_
  obtain rfl := Option.some.inj hh
  exact v_lret dX10_w6_16 rfl (Nat.zero_le _) (Nat.zero_le _) ⟨rfl, rfl⟩
def f_X10_isWord  (S : St) (x1 : Int64) : Option (Int32) :=
  if (gI S 1009 0 0) = (2 : Int32) then
  (if (lg_cmp (gL S 1011 0 0) x1) = (0 : Int32) then
  (some (1 : Int32))
  else
  (some (0 : Int32)))
  else
  (some (0 : Int32))
set_option maxRecDepth 100000 in
set_option maxHeartbeats 4000000 in
theorem t_X10_isWord {l : Launch} {G : v_G} {S : St}   {x1 : Int64} {r : Int32} (hh : f_X10_isWord  S x1 = some r) : v_M l G yX10_isWord cX10_isWord 3 (some .boolean) 0 0 0 [.ref (v_B G + 291), .long x1] (lay G S) (QI r (lay G S)) := by
  refine v_entry (by decide) (Nat.le_of_ble_eq_true rfl) ?_
  unfold f_X10_isWord at hh
  show V l G yX10_isWord cX10_isWord 3 (some .boolean) (v_rm 0 0 0) (QI r (lay G S)) 0 0 0 [(0, .ref (v_B G + 291)), (1, .long x1)] [] (lay G S)
  refine v_aload_n 0 dX10_isWord_0 rfl rfl ?_
  refine r_Model_token dX10_isWord_1 fl_X10_88 ?_
  refine v_iconst dX10_isWord_4 (by decide : _ = (2 : Int32)) ?_
  refine v_icmp_ne (tgt := 21) dX10_isWord_5 (by decide) (fun c => ?_) (fun c => ?_)
  · replace hh := (if_neg c).symm.trans hh
    refine v_iconst dX10_isWord_21 (by decide : _ = (0 : Int32)) ?_
    obtain rfl := Option.some.inj hh
    exact v_zret dX10_isWord_22 rfl (zb (by decide)).1 (Nat.zero_le _) (Nat.zero_le _) ⟨rfl, rfl⟩
  · replace hh := (if_pos c).symm.trans hh
    refine v_aload_n 0 dX10_isWord_8 rfl rfl ?_
    refine r_Model_word dX10_isWord_9 fl_X10_101 ?_
    refine v_lload_n 1 dX10_isWord_12 rfl rfl ?_
    refine v_lcmp dX10_isWord_13 ?_
    refine v_if_ne (tgt := 21) dX10_isWord_14 (by decide) (fun c => ?_) (fun c => ?_)
    · replace hh := (if_neg c).symm.trans hh
      refine v_iconst dX10_isWord_21 (by decide : _ = (0 : Int32)) ?_
      obtain rfl := Option.some.inj hh
      exact v_zret dX10_isWord_22 rfl (zb (by decide)).1 (Nat.zero_le _) (Nat.zero_le _) ⟨rfl, rfl⟩
    · replace hh := (if_pos c).symm.trans hh
      refine v_iconst dX10_isWord_17 (by decide : _ = (1 : Int32)) ?_
      refine v_goto (tgt := 22) dX10_isWord_18 (by decide) ?_
      obtain rfl := Option.some.inj hh
      exact v_zret dX10_isWord_22 rfl (zb (by decide)).1 (Nat.zero_le _) (Nat.zero_le _) ⟨rfl, rfl⟩
def f_X10_emit  (S : St) (x1 : Int32) (x2 : Int32) : Option (St) :=
  chk (inb (((gI S 1012 0 0) + (73 : Int32)) + ((2 : Int32) * (gI S 1013 0 0))) 2724) (
  lt (sI S 1002 0 ((((gI S 1012 0 0) + (73 : Int32)) + ((2 : Int32) * (gI S 1013 0 0))).toNatClampNeg) x1) fun S2 =>
  chk (inb ((((gI S2 1012 0 0) + (73 : Int32)) + ((2 : Int32) * (gI S2 1013 0 0))) + (1 : Int32)) 2724) (
  lt (sI S2 1002 0 (((((gI S2 1012 0 0) + (73 : Int32)) + ((2 : Int32) * (gI S2 1013 0 0))) + (1 : Int32)).toNatClampNeg) x2) fun S4 =>
  lt (sI S4 1013 0 0 ((gI S4 1013 0 0) + (1 : Int32))) fun S5 =>
  some S5))
set_option maxRecDepth 100000 in
set_option maxHeartbeats 4000000 in
theorem t_X10_emit {l : Launch} {G : v_G} {S : St}   {x1 : Int32} {x2 : Int32} {r : St} (hh : f_X10_emit  S x1 x2 = some r) : v_M l G yX10_emit cX10_emit 3 (none) 0 0 0 [.ref (v_B G + 291), .int x1, .int x2] (lay G S) (QV (lay G r)) := by
  refine v_entry (by decide) (Nat.le_of_ble_eq_true rfl) ?_
  unfold f_X10_emit at hh
  show V l G yX10_emit cX10_emit 3 (none) (v_rm 0 0 0) (QV (lay G r)) 0 0 0 [(0, .ref (v_B G + 291)), (1, .int x1), (2, .int x2)] [] (lay G S)
  refine v_aload_n 0 dX10_emit_0 rfl rfl ?_
  refine r_Model_texts dX10_emit_1 fl_X10_16 ?_
  refine v_aload_n 0 dX10_emit_4 rfl rfl ?_
  refine r_Model_text0 dX10_emit_5 fl_X10_126 ?_
  refine v_bipush dX10_emit_8 (by decide : _ = (73 : Int32)) ?_
  refine v_iadd dX10_emit_10 ?_
  refine v_iconst dX10_emit_11 (by decide : _ = (2 : Int32)) ?_
  refine v_aload_n 0 dX10_emit_12 rfl rfl ?_
  refine r_Model_written dX10_emit_13 fl_X10_129 ?_
  refine v_imul dX10_emit_16 ?_
  refine v_iadd dX10_emit_17 ?_
  refine v_iload_n 1 dX10_emit_18 rfl rfl ?_
  obtain ⟨g1, hh⟩ := chk_some hh
  replace g1 := inb_in g1
  refine st_mtexts dX10_emit_19 g1 ?_
  replace hh := lt_of hh
  refine v_aload_n 0 dX10_emit_20 rfl rfl ?_
  refine r_Model_texts dX10_emit_21 fl_X10_16 ?_
  refine v_aload_n 0 dX10_emit_24 rfl rfl ?_
  refine r_Model_text0 dX10_emit_25 fl_X10_126 ?_
  refine v_bipush dX10_emit_28 (by decide : _ = (73 : Int32)) ?_
  refine v_iadd dX10_emit_30 ?_
  refine v_iconst dX10_emit_31 (by decide : _ = (2 : Int32)) ?_
  refine v_aload_n 0 dX10_emit_32 rfl rfl ?_
  refine r_Model_written dX10_emit_33 fl_X10_129 ?_
  refine v_imul dX10_emit_36 ?_
  refine v_iadd dX10_emit_37 ?_
  refine v_iconst dX10_emit_38 (by decide : _ = (1 : Int32)) ?_
  refine v_iadd dX10_emit_39 ?_
  refine v_iload_n 2 dX10_emit_40 rfl rfl ?_
  obtain ⟨g3, hh⟩ := chk_some hh
  replace g3 := inb_in g3
  refine st_mtexts dX10_emit_41 g3 ?_
  replace hh := lt_of hh
  refine v_aload_n 0 dX10_emit_42 rfl rfl ?_
  refine v_dup dX10_emit_43 rfl ?_
  refine r_Model_written dX10_emit_44 fl_X10_129 ?_
  refine v_iconst dX10_emit_47 (by decide : _ = (1 : Int32)) ?_
  refine v_iadd dX10_emit_48 ?_
  refine w_Model_written dX10_emit_49 fl_X10_129 ?_
  replace hh := lt_of hh
  obtain rfl := Option.some.inj hh
  exact v_vret dX10_emit_52 rfl (Nat.zero_le _) (Nat.zero_le _) ⟨rfl, rfl⟩
def f_X10_isStrength  (S : St)  : Option (Int32) :=
  if (gI S 1009 0 0) = (2 : Int32) then
  (if ((gI S 1007 0 0) - (gI S 1008 0 0)) = (8 : Int32) then
  (bnd (f_X10_byteAt S (gI S 1008 0 0)) fun q1 =>
 bnd (f_X10_byteAt S ((gI S 1008 0 0) + (1 : Int32))) fun q2 =>
 bnd (f_X10_byteAt S ((gI S 1008 0 0) + (2 : Int32))) fun q3 =>
 bnd (f_X10_byteAt S ((gI S 1008 0 0) + (3 : Int32))) fun q4 =>
 bnd (f_X10_w4 S q1 q2 q3 q4) fun q5 =>
 bnd (f_X10_w4 S (115 : Int32) (116 : Int32) (114 : Int32) (101 : Int32)) fun q6 =>
 if (lg_cmp q5 q6) = (0 : Int32) then
  (bnd (f_X10_byteAt S ((gI S 1008 0 0) + (4 : Int32))) fun q7 =>
 bnd (f_X10_byteAt S ((gI S 1008 0 0) + (5 : Int32))) fun q8 =>
 bnd (f_X10_byteAt S ((gI S 1008 0 0) + (6 : Int32))) fun q9 =>
 bnd (f_X10_byteAt S ((gI S 1008 0 0) + (7 : Int32))) fun q10 =>
 bnd (f_X10_w4 S q7 q8 q9 q10) fun q11 =>
 bnd (f_X10_w4 S (110 : Int32) (103 : Int32) (116 : Int32) (104 : Int32)) fun q12 =>
 if (lg_cmp q11 q12) = (0 : Int32) then
  (some (1 : Int32))
  else
  (some (0 : Int32)))
  else
  (some (0 : Int32)))
  else
  (some (0 : Int32)))
  else
  (some (0 : Int32))
set_option maxRecDepth 100000 in
set_option maxHeartbeats 4000000 in
theorem t_X10_isStrength {l : Launch} {G : v_G} {S : St}    {r : Int32} (hh : f_X10_isStrength  S  = some r) : v_M l G yX10_isStrength cX10_isStrength 1 (some .boolean) 3 0 0 [.ref (v_B G + 291)] (lay G S) (QI r (lay G S)) := by
  refine v_entry (by decide) (Nat.le_of_ble_eq_true rfl) ?_
  unfold f_X10_isStrength at hh
  show V l G yX10_isStrength cX10_isStrength 1 (some .boolean) (v_rm 3 0 0) (QI r (lay G S)) 0 0 0 [(0, .ref (v_B G + 291))] [] (lay G S)
  refine v_aload_n 0 dX10_isStrength_0 rfl rfl ?_
  refine r_Model_token dX10_isStrength_1 fl_X10_88 ?_
  refine v_iconst dX10_isStrength_4 (by decide : _ = (2 : Int32)) ?_
  refine v_icmp_ne (tgt := 142) dX10_isStrength_5 (by decide) (fun c => ?_) (fun c => ?_)
  · replace hh := (if_neg c).symm.trans hh
    refine v_iconst dX10_isStrength_142 (by decide : _ = (0 : Int32)) ?_
    obtain rfl := Option.some.inj hh
    exact v_zret dX10_isStrength_143 rfl (zb (by decide)).1 (Nat.zero_le _) (Nat.zero_le _) ⟨rfl, rfl⟩
  · replace hh := (if_pos c).symm.trans hh
    refine v_aload_n 0 dX10_isStrength_8 rfl rfl ?_
    refine r_Model_at dX10_isStrength_9 fl_X10_78 ?_
    refine v_aload_n 0 dX10_isStrength_12 rfl rfl ?_
    refine r_Model_place dX10_isStrength_13 fl_X10_85 ?_
    refine v_isub dX10_isStrength_16 ?_
    refine v_bipush dX10_isStrength_17 (by decide : _ = (8 : Int32)) ?_
    refine v_icmp_ne (tgt := 142) dX10_isStrength_19 (by decide) (fun c => ?_) (fun c => ?_)
    · replace hh := (if_neg c).symm.trans hh
      refine v_iconst dX10_isStrength_142 (by decide : _ = (0 : Int32)) ?_
      obtain rfl := Option.some.inj hh
      exact v_zret dX10_isStrength_143 rfl (zb (by decide)).1 (Nat.zero_le _) (Nat.zero_le _) ⟨rfl, rfl⟩
    · replace hh := (if_pos c).symm.trans hh
      refine v_aload_n 0 dX10_isStrength_22 rfl rfl ?_
      refine v_aload_n 0 dX10_isStrength_23 rfl rfl ?_
      refine r_Model_place dX10_isStrength_24 fl_X10_85 ?_
      obtain ⟨q1, eq1, hh⟩ := bnd_some hh
      refine v_callVi (t_X10_byteAt eq1) dX10_isStrength_27 y_X10_byteAt ml_X10_81 (ci := 9) rfl rfl (e_Model) rfl rfl (Nat.le_of_ble_eq_true rfl) ⟨(Nat.le_of_ble_eq_true rfl), (Nat.le_of_ble_eq_true rfl)⟩ ⟨Nat.zero_le _, Nat.zero_le _⟩ ?_
      refine v_aload_n 0 dX10_isStrength_30 rfl rfl ?_
      refine v_aload_n 0 dX10_isStrength_31 rfl rfl ?_
      refine r_Model_place dX10_isStrength_32 fl_X10_85 ?_
      refine v_iconst dX10_isStrength_35 (by decide : _ = (1 : Int32)) ?_
      refine v_iadd dX10_isStrength_36 ?_
      obtain ⟨q2, eq2, hh⟩ := bnd_some hh
      refine v_callVi (t_X10_byteAt eq2) dX10_isStrength_37 y_X10_byteAt ml_X10_81 (ci := 9) rfl rfl (e_Model) rfl rfl (Nat.le_of_ble_eq_true rfl) ⟨(Nat.le_of_ble_eq_true rfl), (Nat.le_of_ble_eq_true rfl)⟩ ⟨Nat.zero_le _, Nat.zero_le _⟩ ?_
      refine v_aload_n 0 dX10_isStrength_40 rfl rfl ?_
      refine v_aload_n 0 dX10_isStrength_41 rfl rfl ?_
      refine r_Model_place dX10_isStrength_42 fl_X10_85 ?_
      refine v_iconst dX10_isStrength_45 (by decide : _ = (2 : Int32)) ?_
      refine v_iadd dX10_isStrength_46 ?_
      obtain ⟨q3, eq3, hh⟩ := bnd_some hh
      refine v_callVi (t_X10_byteAt eq3) dX10_isStrength_47 y_X10_byteAt ml_X10_81 (ci := 9) rfl rfl (e_Model) rfl rfl (Nat.le_of_ble_eq_true rfl) ⟨(Nat.le_of_ble_eq_true rfl), (Nat.le_of_ble_eq_true rfl)⟩ ⟨Nat.zero_le _, Nat.zero_le _⟩ ?_
      refine v_aload_n 0 dX10_isStrength_50 rfl rfl ?_
      refine v_aload_n 0 dX10_isStrength_51 rfl rfl ?_
      refine r_Model_place dX10_isStrength_52 fl_X10_85 ?_
      refine v_iconst dX10_isStrength_55 (by decide : _ = (3 : Int32)) ?_
      refine v_iadd dX10_isStrength_56 ?_
      obtain ⟨q4, eq4, hh⟩ := bnd_some hh
      refine v_callVi (t_X10_byteAt eq4) dX10_isStrength_57 y_X10_byteAt ml_X10_81 (ci := 9) rfl rfl (e_Model) rfl rfl (Nat.le_of_ble_eq_true rfl) ⟨(Nat.le_of_ble_eq_true rfl), (Nat.le_of_ble_eq_true rfl)⟩ ⟨Nat.zero_le _, Nat.zero_le _⟩ ?_
      obtain ⟨q5, eq5, hh⟩ := bnd_some hh
      refine v_callSl (t_X10_w4 eq5) dX10_isStrength_60 y_X10_w4 ml_X10_118 rfl rfl (Nat.le_of_ble_eq_true rfl) ⟨(Nat.le_of_ble_eq_true rfl), (Nat.le_of_ble_eq_true rfl)⟩ ⟨Nat.zero_le _, Nat.zero_le _⟩ ?_
      refine v_bipush dX10_isStrength_63 (by decide : _ = (115 : Int32)) ?_
      refine v_bipush dX10_isStrength_65 (by decide : _ = (116 : Int32)) ?_
      refine v_bipush dX10_isStrength_67 (by decide : _ = (114 : Int32)) ?_
      refine v_bipush dX10_isStrength_69 (by decide : _ = (101 : Int32)) ?_
      obtain ⟨q6, eq6, hh⟩ := bnd_some hh
      refine v_callSl (t_X10_w4 eq6) dX10_isStrength_71 y_X10_w4 ml_X10_118 rfl rfl (Nat.le_of_ble_eq_true rfl) ⟨(Nat.le_of_ble_eq_true rfl), (Nat.le_of_ble_eq_true rfl)⟩ ⟨Nat.zero_le _, Nat.zero_le _⟩ ?_
      refine v_lcmp dX10_isStrength_74 ?_
      refine v_if_ne (tgt := 142) dX10_isStrength_75 (by decide) (fun c => ?_) (fun c => ?_)
      · replace hh := (if_neg c).symm.trans hh
        refine v_iconst dX10_isStrength_142 (by decide : _ = (0 : Int32)) ?_
        obtain rfl := Option.some.inj hh
        exact v_zret dX10_isStrength_143 rfl (zb (by decide)).1 (Nat.zero_le _) (Nat.zero_le _) ⟨rfl, rfl⟩
      · replace hh := (if_pos c).symm.trans hh
        refine v_aload_n 0 dX10_isStrength_78 rfl rfl ?_
        refine v_aload_n 0 dX10_isStrength_79 rfl rfl ?_
        refine r_Model_place dX10_isStrength_80 fl_X10_85 ?_
        refine v_iconst dX10_isStrength_83 (by decide : _ = (4 : Int32)) ?_
        refine v_iadd dX10_isStrength_84 ?_
        obtain ⟨q7, eq7, hh⟩ := bnd_some hh
        refine v_callVi (t_X10_byteAt eq7) dX10_isStrength_85 y_X10_byteAt ml_X10_81 (ci := 9) rfl rfl (e_Model) rfl rfl (Nat.le_of_ble_eq_true rfl) ⟨(Nat.le_of_ble_eq_true rfl), (Nat.le_of_ble_eq_true rfl)⟩ ⟨Nat.zero_le _, Nat.zero_le _⟩ ?_
        refine v_aload_n 0 dX10_isStrength_88 rfl rfl ?_
        refine v_aload_n 0 dX10_isStrength_89 rfl rfl ?_
        refine r_Model_place dX10_isStrength_90 fl_X10_85 ?_
        refine v_iconst dX10_isStrength_93 (by decide : _ = (5 : Int32)) ?_
        refine v_iadd dX10_isStrength_94 ?_
        obtain ⟨q8, eq8, hh⟩ := bnd_some hh
        refine v_callVi (t_X10_byteAt eq8) dX10_isStrength_95 y_X10_byteAt ml_X10_81 (ci := 9) rfl rfl (e_Model) rfl rfl (Nat.le_of_ble_eq_true rfl) ⟨(Nat.le_of_ble_eq_true rfl), (Nat.le_of_ble_eq_true rfl)⟩ ⟨Nat.zero_le _, Nat.zero_le _⟩ ?_
        refine v_aload_n 0 dX10_isStrength_98 rfl rfl ?_
        refine v_aload_n 0 dX10_isStrength_99 rfl rfl ?_
        refine r_Model_place dX10_isStrength_100 fl_X10_85 ?_
        refine v_bipush dX10_isStrength_103 (by decide : _ = (6 : Int32)) ?_
        refine v_iadd dX10_isStrength_105 ?_
        obtain ⟨q9, eq9, hh⟩ := bnd_some hh
        refine v_callVi (t_X10_byteAt eq9) dX10_isStrength_106 y_X10_byteAt ml_X10_81 (ci := 9) rfl rfl (e_Model) rfl rfl (Nat.le_of_ble_eq_true rfl) ⟨(Nat.le_of_ble_eq_true rfl), (Nat.le_of_ble_eq_true rfl)⟩ ⟨Nat.zero_le _, Nat.zero_le _⟩ ?_
        refine v_aload_n 0 dX10_isStrength_109 rfl rfl ?_
        refine v_aload_n 0 dX10_isStrength_110 rfl rfl ?_
        refine r_Model_place dX10_isStrength_111 fl_X10_85 ?_
        refine v_bipush dX10_isStrength_114 (by decide : _ = (7 : Int32)) ?_
        refine v_iadd dX10_isStrength_116 ?_
        obtain ⟨q10, eq10, hh⟩ := bnd_some hh
        refine v_callVi (t_X10_byteAt eq10) dX10_isStrength_117 y_X10_byteAt ml_X10_81 (ci := 9) rfl rfl (e_Model) rfl rfl (Nat.le_of_ble_eq_true rfl) ⟨(Nat.le_of_ble_eq_true rfl), (Nat.le_of_ble_eq_true rfl)⟩ ⟨Nat.zero_le _, Nat.zero_le _⟩ ?_
        obtain ⟨q11, eq11, hh⟩ := bnd_some hh
        refine v_callSl (t_X10_w4 eq11) dX10_isStrength_120 y_X10_w4 ml_X10_118 rfl rfl (Nat.le_of_ble_eq_true rfl) ⟨(Nat.le_of_ble_eq_true rfl), (Nat.le_of_ble_eq_true rfl)⟩ ⟨Nat.zero_le _, Nat.zero_le _⟩ ?_
        refine v_bipush dX10_isStrength_123 (by decide : _ = (110 : Int32)) ?_
        refine v_bipush dX10_isStrength_125 (by decide : _ = (103 : Int32)) ?_
        refine v_bipush dX10_isStrength_127 (by decide : _ = (116 : Int32)) ?_
        refine v_bipush dX10_isStrength_129 (by decide : _ = (104 : Int32)) ?_
        obtain ⟨q12, eq12, hh⟩ := bnd_some hh
        refine v_callSl (t_X10_w4 eq12) dX10_isStrength_131 y_X10_w4 ml_X10_118 rfl rfl (Nat.le_of_ble_eq_true rfl) ⟨(Nat.le_of_ble_eq_true rfl), (Nat.le_of_ble_eq_true rfl)⟩ ⟨Nat.zero_le _, Nat.zero_le _⟩ ?_
        refine v_lcmp dX10_isStrength_134 ?_
        refine v_if_ne (tgt := 142) dX10_isStrength_135 (by decide) (fun c => ?_) (fun c => ?_)
        · replace hh := (if_neg c).symm.trans hh
          refine v_iconst dX10_isStrength_142 (by decide : _ = (0 : Int32)) ?_
          obtain rfl := Option.some.inj hh
          exact v_zret dX10_isStrength_143 rfl (zb (by decide)).1 (Nat.zero_le _) (Nat.zero_le _) ⟨rfl, rfl⟩
        · replace hh := (if_pos c).symm.trans hh
          refine v_iconst dX10_isStrength_138 (by decide : _ = (1 : Int32)) ?_
          refine v_goto (tgt := 143) dX10_isStrength_139 (by decide) ?_
          obtain rfl := Option.some.inj hh
          exact v_zret dX10_isStrength_143 rfl (zb (by decide)).1 (Nat.zero_le _) (Nat.zero_le _) ⟨rfl, rfl⟩
def f_X10_nameOf  (S : St)  : Option (Int32) :=
  if (gI S 1009 0 0) = (2 : Int32) then
  (bnd (f_X10_w4 S (116 : Int32) (117 : Int32) (114 : Int32) (110 : Int32)) fun q1 =>
 if (lg_cmp (gL S 1011 0 0) q1) = (0 : Int32) then
  (some (0 : Int32))
  else
  (bnd (f_X10_w4 S (99 : Int32) (101 : Int32) (108 : Int32) (108 : Int32)) fun q2 =>
 if (lg_cmp (gL S 1011 0 0) q2) = (0 : Int32) then
  (some (1 : Int32))
  else
  (bnd (f_X10_w5 S (100 : Int32) (111 : Int32) (117 : Int32) (103 : Int32) (104 : Int32)) fun q3 =>
 if (lg_cmp (gL S 1011 0 0) q3) = (0 : Int32) then
  (some (2 : Int32))
  else
  (bnd (f_X10_w4 S (116 : Int32) (111 : Int32) (114 : Int32) (110 : Int32)) fun q4 =>
 if (lg_cmp (gL S 1011 0 0) q4) = (0 : Int32) then
  (some (3 : Int32))
  else
  (bnd (f_X10_isStrength S ) fun q5 =>
 if q5 = (0 : Int32) then
  (bnd (f_X10_w3 S (119 : Int32) (104 : Int32) (111 : Int32)) fun q6 =>
 if (lg_cmp (gL S 1011 0 0) q6) = (0 : Int32) then
  (some (5 : Int32))
  else
  (bnd (f_X10_w4 S (110 : Int32) (101 : Int32) (120 : Int32) (116 : Int32)) fun q7 =>
 if (lg_cmp (gL S 1011 0 0) q7) = (0 : Int32) then
  (some (6 : Int32))
  else
  (bnd (f_X10_w5 S (114 : Int32) (105 : Int32) (103 : Int32) (104 : Int32) (116 : Int32)) fun q8 =>
 if (lg_cmp (gL S 1011 0 0) q8) = (0 : Int32) then
  (some (7 : Int32))
  else
  (some (-1 : Int32)))))
  else
  (some (4 : Int32)))))))
  else
  (some (-1 : Int32))
set_option maxRecDepth 100000 in
set_option maxHeartbeats 4000000 in
theorem t_X10_nameOf {l : Launch} {G : v_G} {S : St}    {r : Int32} (hh : f_X10_nameOf  S  = some r) : v_M l G yX10_nameOf cX10_nameOf 1 (some .int) 4 0 0 [.ref (v_B G + 291)] (lay G S) (QI r (lay G S)) := by
  refine v_entry (by decide) (Nat.le_of_ble_eq_true rfl) ?_
  unfold f_X10_nameOf at hh
  show V l G yX10_nameOf cX10_nameOf 1 (some .int) (v_rm 4 0 0) (QI r (lay G S)) 0 0 0 [(0, .ref (v_B G + 291))] [] (lay G S)
  refine v_aload_n 0 dX10_nameOf_0 rfl rfl ?_
  refine r_Model_token dX10_nameOf_1 fl_X10_88 ?_
  refine v_iconst dX10_nameOf_4 (by decide : _ = (2 : Int32)) ?_
  refine v_icmp_eq (tgt := 10) dX10_nameOf_5 (by decide) (fun c => ?_) (fun c => ?_)
  · replace hh := (if_pos c).symm.trans hh
    refine v_aload_n 0 dX10_nameOf_10 rfl rfl ?_
    refine r_Model_word dX10_nameOf_11 fl_X10_101 ?_
    refine v_bipush dX10_nameOf_14 (by decide : _ = (116 : Int32)) ?_
    refine v_bipush dX10_nameOf_16 (by decide : _ = (117 : Int32)) ?_
    refine v_bipush dX10_nameOf_18 (by decide : _ = (114 : Int32)) ?_
    refine v_bipush dX10_nameOf_20 (by decide : _ = (110 : Int32)) ?_
    obtain ⟨q1, eq1, hh⟩ := bnd_some hh
    refine v_callSl (t_X10_w4 eq1) dX10_nameOf_22 y_X10_w4 ml_X10_118 rfl rfl (Nat.le_of_ble_eq_true rfl) ⟨(Nat.le_of_ble_eq_true rfl), (Nat.le_of_ble_eq_true rfl)⟩ ⟨Nat.zero_le _, Nat.zero_le _⟩ ?_
    refine v_lcmp dX10_nameOf_25 ?_
    refine v_if_ne (tgt := 31) dX10_nameOf_26 (by decide) (fun c => ?_) (fun c => ?_)
    · replace hh := (if_neg c).symm.trans hh
      refine v_aload_n 0 dX10_nameOf_31 rfl rfl ?_
      refine r_Model_word dX10_nameOf_32 fl_X10_101 ?_
      refine v_bipush dX10_nameOf_35 (by decide : _ = (99 : Int32)) ?_
      refine v_bipush dX10_nameOf_37 (by decide : _ = (101 : Int32)) ?_
      refine v_bipush dX10_nameOf_39 (by decide : _ = (108 : Int32)) ?_
      refine v_bipush dX10_nameOf_41 (by decide : _ = (108 : Int32)) ?_
      obtain ⟨q2, eq2, hh⟩ := bnd_some hh
      refine v_callSl (t_X10_w4 eq2) dX10_nameOf_43 y_X10_w4 ml_X10_118 rfl rfl (Nat.le_of_ble_eq_true rfl) ⟨(Nat.le_of_ble_eq_true rfl), (Nat.le_of_ble_eq_true rfl)⟩ ⟨Nat.zero_le _, Nat.zero_le _⟩ ?_
      refine v_lcmp dX10_nameOf_46 ?_
      refine v_if_ne (tgt := 52) dX10_nameOf_47 (by decide) (fun c => ?_) (fun c => ?_)
      · replace hh := (if_neg c).symm.trans hh
        refine v_aload_n 0 dX10_nameOf_52 rfl rfl ?_
        refine r_Model_word dX10_nameOf_53 fl_X10_101 ?_
        refine v_bipush dX10_nameOf_56 (by decide : _ = (100 : Int32)) ?_
        refine v_bipush dX10_nameOf_58 (by decide : _ = (111 : Int32)) ?_
        refine v_bipush dX10_nameOf_60 (by decide : _ = (117 : Int32)) ?_
        refine v_bipush dX10_nameOf_62 (by decide : _ = (103 : Int32)) ?_
        refine v_bipush dX10_nameOf_64 (by decide : _ = (104 : Int32)) ?_
        obtain ⟨q3, eq3, hh⟩ := bnd_some hh
        refine v_callSl (t_X10_w5 eq3) dX10_nameOf_66 y_X10_w5 ml_X10_122 rfl rfl (Nat.le_of_ble_eq_true rfl) ⟨(Nat.le_of_ble_eq_true rfl), (Nat.le_of_ble_eq_true rfl)⟩ ⟨Nat.zero_le _, Nat.zero_le _⟩ ?_
        refine v_lcmp dX10_nameOf_69 ?_
        refine v_if_ne (tgt := 75) dX10_nameOf_70 (by decide) (fun c => ?_) (fun c => ?_)
        · replace hh := (if_neg c).symm.trans hh
          refine v_aload_n 0 dX10_nameOf_75 rfl rfl ?_
          refine r_Model_word dX10_nameOf_76 fl_X10_101 ?_
          refine v_bipush dX10_nameOf_79 (by decide : _ = (116 : Int32)) ?_
          refine v_bipush dX10_nameOf_81 (by decide : _ = (111 : Int32)) ?_
          refine v_bipush dX10_nameOf_83 (by decide : _ = (114 : Int32)) ?_
          refine v_bipush dX10_nameOf_85 (by decide : _ = (110 : Int32)) ?_
          obtain ⟨q4, eq4, hh⟩ := bnd_some hh
          refine v_callSl (t_X10_w4 eq4) dX10_nameOf_87 y_X10_w4 ml_X10_118 rfl rfl (Nat.le_of_ble_eq_true rfl) ⟨(Nat.le_of_ble_eq_true rfl), (Nat.le_of_ble_eq_true rfl)⟩ ⟨Nat.zero_le _, Nat.zero_le _⟩ ?_
          refine v_lcmp dX10_nameOf_90 ?_
          refine v_if_ne (tgt := 96) dX10_nameOf_91 (by decide) (fun c => ?_) (fun c => ?_)
          · replace hh := (if_neg c).symm.trans hh
            refine v_aload_n 0 dX10_nameOf_96 rfl rfl ?_
            obtain ⟨q5, eq5, hh⟩ := bnd_some hh
            refine v_callVi (t_X10_isStrength eq5) dX10_nameOf_97 y_X10_isStrength ml_X10_132 (ci := 9) rfl rfl (e_Model) rfl rfl (Nat.le_of_ble_eq_true rfl) ⟨(Nat.le_of_ble_eq_true rfl), (Nat.le_of_ble_eq_true rfl)⟩ ⟨Nat.zero_le _, Nat.zero_le _⟩ ?_
            refine v_if_eq (tgt := 105) dX10_nameOf_100 (by decide) (fun c => ?_) (fun c => ?_)
            · replace hh := (if_pos c).symm.trans hh
              refine v_aload_n 0 dX10_nameOf_105 rfl rfl ?_
              refine r_Model_word dX10_nameOf_106 fl_X10_101 ?_
              refine v_bipush dX10_nameOf_109 (by decide : _ = (119 : Int32)) ?_
              refine v_bipush dX10_nameOf_111 (by decide : _ = (104 : Int32)) ?_
              refine v_bipush dX10_nameOf_113 (by decide : _ = (111 : Int32)) ?_
              obtain ⟨q6, eq6, hh⟩ := bnd_some hh
              refine v_callSl (t_X10_w3 eq6) dX10_nameOf_115 y_X10_w3 ml_X10_114 rfl rfl (Nat.le_of_ble_eq_true rfl) ⟨(Nat.le_of_ble_eq_true rfl), (Nat.le_of_ble_eq_true rfl)⟩ ⟨Nat.zero_le _, Nat.zero_le _⟩ ?_
              refine v_lcmp dX10_nameOf_118 ?_
              refine v_if_ne (tgt := 124) dX10_nameOf_119 (by decide) (fun c => ?_) (fun c => ?_)
              · replace hh := (if_neg c).symm.trans hh
                refine v_aload_n 0 dX10_nameOf_124 rfl rfl ?_
                refine r_Model_word dX10_nameOf_125 fl_X10_101 ?_
                refine v_bipush dX10_nameOf_128 (by decide : _ = (110 : Int32)) ?_
                refine v_bipush dX10_nameOf_130 (by decide : _ = (101 : Int32)) ?_
                refine v_bipush dX10_nameOf_132 (by decide : _ = (120 : Int32)) ?_
                refine v_bipush dX10_nameOf_134 (by decide : _ = (116 : Int32)) ?_
                obtain ⟨q7, eq7, hh⟩ := bnd_some hh
                refine v_callSl (t_X10_w4 eq7) dX10_nameOf_136 y_X10_w4 ml_X10_118 rfl rfl (Nat.le_of_ble_eq_true rfl) ⟨(Nat.le_of_ble_eq_true rfl), (Nat.le_of_ble_eq_true rfl)⟩ ⟨Nat.zero_le _, Nat.zero_le _⟩ ?_
                refine v_lcmp dX10_nameOf_139 ?_
                refine v_if_ne (tgt := 148) dX10_nameOf_140 (by decide) (fun c => ?_) (fun c => ?_)
                · replace hh := (if_neg c).symm.trans hh
                  refine v_aload_n 0 dX10_nameOf_148 rfl rfl ?_
                  refine r_Model_word dX10_nameOf_149 fl_X10_101 ?_
                  refine v_bipush dX10_nameOf_152 (by decide : _ = (114 : Int32)) ?_
                  refine v_bipush dX10_nameOf_154 (by decide : _ = (105 : Int32)) ?_
                  refine v_bipush dX10_nameOf_156 (by decide : _ = (103 : Int32)) ?_
                  refine v_bipush dX10_nameOf_158 (by decide : _ = (104 : Int32)) ?_
                  refine v_bipush dX10_nameOf_160 (by decide : _ = (116 : Int32)) ?_
                  obtain ⟨q8, eq8, hh⟩ := bnd_some hh
                  refine v_callSl (t_X10_w5 eq8) dX10_nameOf_162 y_X10_w5 ml_X10_122 rfl rfl (Nat.le_of_ble_eq_true rfl) ⟨(Nat.le_of_ble_eq_true rfl), (Nat.le_of_ble_eq_true rfl)⟩ ⟨Nat.zero_le _, Nat.zero_le _⟩ ?_
                  refine v_lcmp dX10_nameOf_165 ?_
                  refine v_if_ne (tgt := 174) dX10_nameOf_166 (by decide) (fun c => ?_) (fun c => ?_)
                  · replace hh := (if_neg c).symm.trans hh
                    refine v_iconst dX10_nameOf_174 (by decide : _ = (-1 : Int32)) ?_
                    obtain rfl := Option.some.inj hh
                    exact v_iret dX10_nameOf_175 rfl (Nat.zero_le _) (Nat.zero_le _) ⟨rfl, rfl⟩
                  · replace hh := (if_pos c).symm.trans hh
                    refine v_bipush dX10_nameOf_169 (by decide : _ = (7 : Int32)) ?_
                    refine v_goto (tgt := 175) dX10_nameOf_171 (by decide) ?_
                    obtain rfl := Option.some.inj hh
                    exact v_iret dX10_nameOf_175 rfl (Nat.zero_le _) (Nat.zero_le _) ⟨rfl, rfl⟩
                · replace hh := (if_pos c).symm.trans hh
                  refine v_bipush dX10_nameOf_143 (by decide : _ = (6 : Int32)) ?_
                  refine v_goto (tgt := 175) dX10_nameOf_145 (by decide) ?_
                  obtain rfl := Option.some.inj hh
                  exact v_iret dX10_nameOf_175 rfl (Nat.zero_le _) (Nat.zero_le _) ⟨rfl, rfl⟩
              · replace hh := (if_pos c).symm.trans hh
                refine v_iconst dX10_nameOf_122 (by decide : _ = (5 : Int32)) ?_
                obtain rfl := Option.some.inj hh
                exact v_iret dX10_nameOf_123 rfl (Nat.zero_le _) (Nat.zero_le _) ⟨rfl, rfl⟩
            · replace hh := (if_neg c).symm.trans hh
              refine v_iconst dX10_nameOf_103 (by decide : _ = (4 : Int32)) ?_
              obtain rfl := Option.some.inj hh
              exact v_iret dX10_nameOf_104 rfl (Nat.zero_le _) (Nat.zero_le _) ⟨rfl, rfl⟩
          · replace hh := (if_pos c).symm.trans hh
            refine v_iconst dX10_nameOf_94 (by decide : _ = (3 : Int32)) ?_
            obtain rfl := Option.some.inj hh
            exact v_iret dX10_nameOf_95 rfl (Nat.zero_le _) (Nat.zero_le _) ⟨rfl, rfl⟩
        · replace hh := (if_pos c).symm.trans hh
          refine v_iconst dX10_nameOf_73 (by decide : _ = (2 : Int32)) ?_
          obtain rfl := Option.some.inj hh
          exact v_iret dX10_nameOf_74 rfl (Nat.zero_le _) (Nat.zero_le _) ⟨rfl, rfl⟩
      · replace hh := (if_pos c).symm.trans hh
        refine v_iconst dX10_nameOf_50 (by decide : _ = (1 : Int32)) ?_
        obtain rfl := Option.some.inj hh
        exact v_iret dX10_nameOf_51 rfl (Nat.zero_le _) (Nat.zero_le _) ⟨rfl, rfl⟩
    · replace hh := (if_pos c).symm.trans hh
      refine v_iconst dX10_nameOf_29 (by decide : _ = (0 : Int32)) ?_
      obtain rfl := Option.some.inj hh
      exact v_iret dX10_nameOf_30 rfl (Nat.zero_le _) (Nat.zero_le _) ⟨rfl, rfl⟩
  · replace hh := (if_neg c).symm.trans hh
    refine v_iconst dX10_nameOf_8 (by decide : _ = (-1 : Int32)) ?_
    obtain rfl := Option.some.inj hh
    exact v_iret dX10_nameOf_9 rfl (Nat.zero_le _) (Nat.zero_le _) ⟨rfl, rfl⟩
def f_X10_rank  (S : St) (x0 : Int32) : Option (Int32) :=
  if x0 < (40 : Int32) then
  (if x0 = (22 : Int32) then
  (some (1 : Int32))
  else
  (if x0 = (21 : Int32) then
  (some (2 : Int32))
  else
  (if x0 = (20 : Int32) then
  (some (3 : Int32))
  else
  (if x0 < (10 : Int32) then
  (if x0 < (8 : Int32) then
  (if x0 < (6 : Int32) then
  (some (7 : Int32))
  else
  (some (5 : Int32)))
  else
  (some (6 : Int32)))
  else
  (some (4 : Int32))))))
  else
  (some (0 : Int32))
set_option maxRecDepth 100000 in
set_option maxHeartbeats 4000000 in
theorem t_X10_rank {l : Launch} {G : v_G} {S : St}   {x0 : Int32} {r : Int32} (hh : f_X10_rank  S x0 = some r) : v_M l G yX10_rank cX10_rank 1 (some .int) 0 0 0 [.int x0] (lay G S) (QI r (lay G S)) := by
  refine v_entry (by decide) (Nat.le_of_ble_eq_true rfl) ?_
  unfold f_X10_rank at hh
  show V l G yX10_rank cX10_rank 1 (some .int) (v_rm 0 0 0) (QI r (lay G S)) 0 0 0 [(0, .int x0)] [] (lay G S)
  refine v_iload_n 0 dX10_rank_0 rfl rfl ?_
  refine v_bipush dX10_rank_1 (by decide : _ = (40 : Int32)) ?_
  refine v_icmp_lt (tgt := 10) dX10_rank_3 (by decide) (fun c => ?_) (fun c => ?_)
  · replace hh := (if_pos c).symm.trans hh
    refine v_iload_n 0 dX10_rank_10 rfl rfl ?_
    refine v_bipush dX10_rank_11 (by decide : _ = (22 : Int32)) ?_
    refine v_icmp_ne (tgt := 20) dX10_rank_13 (by decide) (fun c => ?_) (fun c => ?_)
    · replace hh := (if_neg c).symm.trans hh
      refine v_iload_n 0 dX10_rank_20 rfl rfl ?_
      refine v_bipush dX10_rank_21 (by decide : _ = (21 : Int32)) ?_
      refine v_icmp_ne (tgt := 30) dX10_rank_23 (by decide) (fun c => ?_) (fun c => ?_)
      · replace hh := (if_neg c).symm.trans hh
        refine v_iload_n 0 dX10_rank_30 rfl rfl ?_
        refine v_bipush dX10_rank_31 (by decide : _ = (20 : Int32)) ?_
        refine v_icmp_ne (tgt := 40) dX10_rank_33 (by decide) (fun c => ?_) (fun c => ?_)
        · replace hh := (if_neg c).symm.trans hh
          refine v_iload_n 0 dX10_rank_40 rfl rfl ?_
          refine v_bipush dX10_rank_41 (by decide : _ = (10 : Int32)) ?_
          refine v_icmp_lt (tgt := 50) dX10_rank_43 (by decide) (fun c => ?_) (fun c => ?_)
          · replace hh := (if_pos c).symm.trans hh
            refine v_iload_n 0 dX10_rank_50 rfl rfl ?_
            refine v_bipush dX10_rank_51 (by decide : _ = (8 : Int32)) ?_
            refine v_icmp_lt (tgt := 61) dX10_rank_53 (by decide) (fun c => ?_) (fun c => ?_)
            · replace hh := (if_pos c).symm.trans hh
              refine v_iload_n 0 dX10_rank_61 rfl rfl ?_
              refine v_bipush dX10_rank_62 (by decide : _ = (6 : Int32)) ?_
              refine v_icmp_lt (tgt := 71) dX10_rank_64 (by decide) (fun c => ?_) (fun c => ?_)
              · replace hh := (if_pos c).symm.trans hh
                refine v_bipush dX10_rank_71 (by decide : _ = (7 : Int32)) ?_
                obtain rfl := Option.some.inj hh
                exact v_iret dX10_rank_73 rfl (Nat.zero_le _) (Nat.zero_le _) ⟨rfl, rfl⟩
              · replace hh := (if_neg c).symm.trans hh
                refine v_iconst dX10_rank_67 (by decide : _ = (5 : Int32)) ?_
                refine v_goto (tgt := 73) dX10_rank_68 (by decide) ?_
                obtain rfl := Option.some.inj hh
                exact v_iret dX10_rank_73 rfl (Nat.zero_le _) (Nat.zero_le _) ⟨rfl, rfl⟩
            · replace hh := (if_neg c).symm.trans hh
              refine v_bipush dX10_rank_56 (by decide : _ = (6 : Int32)) ?_
              refine v_goto (tgt := 73) dX10_rank_58 (by decide) ?_
              obtain rfl := Option.some.inj hh
              exact v_iret dX10_rank_73 rfl (Nat.zero_le _) (Nat.zero_le _) ⟨rfl, rfl⟩
          · replace hh := (if_neg c).symm.trans hh
            refine v_iconst dX10_rank_46 (by decide : _ = (4 : Int32)) ?_
            refine v_goto (tgt := 73) dX10_rank_47 (by decide) ?_
            obtain rfl := Option.some.inj hh
            exact v_iret dX10_rank_73 rfl (Nat.zero_le _) (Nat.zero_le _) ⟨rfl, rfl⟩
        · replace hh := (if_pos c).symm.trans hh
          refine v_iconst dX10_rank_36 (by decide : _ = (3 : Int32)) ?_
          refine v_goto (tgt := 73) dX10_rank_37 (by decide) ?_
          obtain rfl := Option.some.inj hh
          exact v_iret dX10_rank_73 rfl (Nat.zero_le _) (Nat.zero_le _) ⟨rfl, rfl⟩
      · replace hh := (if_pos c).symm.trans hh
        refine v_iconst dX10_rank_26 (by decide : _ = (2 : Int32)) ?_
        refine v_goto (tgt := 73) dX10_rank_27 (by decide) ?_
        obtain rfl := Option.some.inj hh
        exact v_iret dX10_rank_73 rfl (Nat.zero_le _) (Nat.zero_le _) ⟨rfl, rfl⟩
    · replace hh := (if_pos c).symm.trans hh
      refine v_iconst dX10_rank_16 (by decide : _ = (1 : Int32)) ?_
      refine v_goto (tgt := 73) dX10_rank_17 (by decide) ?_
      obtain rfl := Option.some.inj hh
      exact v_iret dX10_rank_73 rfl (Nat.zero_le _) (Nat.zero_le _) ⟨rfl, rfl⟩
  · replace hh := (if_neg c).symm.trans hh
    refine v_iconst dX10_rank_6 (by decide : _ = (0 : Int32)) ?_
    refine v_goto (tgt := 73) dX10_rank_7 (by decide) ?_
    obtain rfl := Option.some.inj hh
    exact v_iret dX10_rank_73 rfl (Nat.zero_le _) (Nat.zero_le _) ⟨rfl, rfl⟩
def f_X10_settle_b80 (rec0 : (Int32 → St → Option (St))) (N : Nat) (x1 : Int32) (S : St) : Option (St) :=
  lt (sI S 1017 0 0 ((gI S 1017 0 0) - (1 : Int32))) fun S8 =>
  rec0 x1 S8
set_option maxRecDepth 100000 in
set_option maxHeartbeats 4000000 in
theorem tb_X10_settle_80 {l : Launch} {G : v_G} {N : Nat}    {r : St} {rec0 : (Int32 → St → Option (St))} (hrec0 : ∀ (x1 : Int32) (S : St),  rec0 x1 S = some r → V l G yX10_settle cX10_settle 2 (none) (v_rm 1 0 0) (QV (lay G r)) 0 0 0 [(0, .ref (v_B G + 291)), (1, .int x1)] [] (lay G S)) : ∀ (x1 : Int32) (S : St),  f_X10_settle_b80 rec0 N x1 S = some r → V l G yX10_settle cX10_settle 2 (none) (v_rm 1 0 0) (QV (lay G r)) 0 0 80 [(0, .ref (v_B G + 291)), (1, .int x1)] [] (lay G S) := by
  intro x1 S  hh
  unfold f_X10_settle_b80 at hh
  refine v_aload_n 0 dX10_settle_80 rfl rfl ?_
  refine v_dup dX10_settle_81 rfl ?_
  refine r_Model_opens dX10_settle_82 fl_X10_146 ?_
  refine v_iconst dX10_settle_85 (by decide : _ = (1 : Int32)) ?_
  refine v_isub dX10_settle_86 ?_
  refine w_Model_opens dX10_settle_87 fl_X10_146 ?_
  replace hh := lt_of hh
  refine v_goto (tgt := 0) dX10_settle_90 (by decide) ?_
  exact v_sub [0, 1] rfl (hrec0 _ _ hh)
def f_X10_settle_b0 (N : Nat) : Nat → Int32 → St → Option (St)
  | 0, _, _ => none
  | n + 1, x1, S =>
  if (gI S 1016 0 0) ≤ (0 : Int32) then
  (some S)
  else
  (chk (inb ((gI S 1016 0 0) - (1 : Int32)) 160) (
  bnd (f_X10_rank S (gI S 1015 0 ((gI S 1016 0 0) - (1 : Int32)).toNatClampNeg)) fun q2 =>
 if q2 < x1 then
  (some S)
  else
  (lt (sI S 1016 0 0 ((gI S 1016 0 0) - (1 : Int32))) fun S3 =>
  chk (inb (gI S3 1016 0 0) 160) (
  bnd (f_X10_emit S3 (gI S3 1015 0 (gI S3 1016 0 0).toNatClampNeg) (0 : Int32)) fun q5 =>
 chk (inb (gI q5 1016 0 0) 160) (
  bnd (f_X10_rank q5 (gI q5 1015 0 (gI q5 1016 0 0).toNatClampNeg)) fun q7 =>
 if q7 = (7 : Int32) then
  (f_X10_settle_b80 (f_X10_settle_b0 N n) N x1 q5)
  else
  (chk (inb (gI q5 1016 0 0) 160) (
  if (gI q5 1015 0 (gI q5 1016 0 0).toNatClampNeg) = (20 : Int32) then
  (f_X10_settle_b80 (f_X10_settle_b0 N n) N x1 q5)
  else
  (f_X10_settle_b0 N n x1 q5))))))))
set_option maxRecDepth 100000 in
set_option maxHeartbeats 4000000 in
theorem tb_X10_settle_0 {l : Launch} {G : v_G} {N : Nat}    {r : St}   : ∀ (n : Nat) (x1 : Int32) (S : St),  f_X10_settle_b0 N n x1 S = some r → V l G yX10_settle cX10_settle 2 (none) (v_rm 1 0 0) (QV (lay G r)) 0 0 0 [(0, .ref (v_B G + 291)), (1, .int x1)] [] (lay G S) := by
  intro n
  induction n with
  | zero =>
    intro x1 S  hh
    rw [f_X10_settle_b0] at hh
    cases hh
  | succ n ih =>
    intro x1 S  hh
    rw [f_X10_settle_b0] at hh
    refine v_aload_n 0 dX10_settle_0 rfl rfl ?_
    refine r_Model_piled dX10_settle_1 fl_X10_136 ?_
    refine v_if_le (tgt := 93) dX10_settle_4 (by decide) (fun c => ?_) (fun c => ?_)
    · replace hh := (if_pos c).symm.trans hh
      obtain rfl := Option.some.inj hh
      exact v_vret dX10_settle_93 rfl (Nat.zero_le _) (Nat.zero_le _) ⟨rfl, rfl⟩
    · replace hh := (if_neg c).symm.trans hh
      refine v_aload_n 0 dX10_settle_7 rfl rfl ?_
      refine r_Model_pile dX10_settle_8 fl_X10_29 ?_
      refine v_aload_n 0 dX10_settle_11 rfl rfl ?_
      refine r_Model_piled dX10_settle_12 fl_X10_136 ?_
      refine v_iconst dX10_settle_15 (by decide : _ = (1 : Int32)) ?_
      refine v_isub dX10_settle_16 ?_
      obtain ⟨g1, hh⟩ := chk_some hh
      replace g1 := inb_in g1
      refine ld_pile dX10_settle_17 g1 ?_
      obtain ⟨q2, eq2, hh⟩ := bnd_some hh
      refine v_callSi (t_X10_rank eq2) dX10_settle_18 y_X10_rank ml_X10_139 rfl rfl (Nat.le_of_ble_eq_true rfl) ⟨(Nat.le_of_ble_eq_true rfl), (Nat.le_of_ble_eq_true rfl)⟩ ⟨Nat.zero_le _, Nat.zero_le _⟩ ?_
      refine v_iload_n 1 dX10_settle_21 rfl rfl ?_
      refine v_icmp_lt (tgt := 93) dX10_settle_22 (by decide) (fun c => ?_) (fun c => ?_)
      · replace hh := (if_pos c).symm.trans hh
        obtain rfl := Option.some.inj hh
        exact v_vret dX10_settle_93 rfl (Nat.zero_le _) (Nat.zero_le _) ⟨rfl, rfl⟩
      · replace hh := (if_neg c).symm.trans hh
        refine v_aload_n 0 dX10_settle_25 rfl rfl ?_
        refine v_dup dX10_settle_26 rfl ?_
        refine r_Model_piled dX10_settle_27 fl_X10_136 ?_
        refine v_iconst dX10_settle_30 (by decide : _ = (1 : Int32)) ?_
        refine v_isub dX10_settle_31 ?_
        refine w_Model_piled dX10_settle_32 fl_X10_136 ?_
        replace hh := lt_of hh
        refine v_aload_n 0 dX10_settle_35 rfl rfl ?_
        refine v_aload_n 0 dX10_settle_36 rfl rfl ?_
        refine r_Model_pile dX10_settle_37 fl_X10_29 ?_
        refine v_aload_n 0 dX10_settle_40 rfl rfl ?_
        refine r_Model_piled dX10_settle_41 fl_X10_136 ?_
        obtain ⟨g4, hh⟩ := chk_some hh
        replace g4 := inb_in g4
        refine ld_pile dX10_settle_44 g4 ?_
        refine v_iconst dX10_settle_45 (by decide : _ = (0 : Int32)) ?_
        obtain ⟨q5, eq5, hh⟩ := bnd_some hh
        refine v_callVv (t_X10_emit eq5) dX10_settle_46 y_X10_emit ml_X10_142 (ci := 9) rfl rfl (e_Model) rfl rfl (Nat.le_of_ble_eq_true rfl) ⟨(Nat.le_of_ble_eq_true rfl), (Nat.le_of_ble_eq_true rfl)⟩ ⟨Nat.zero_le _, Nat.zero_le _⟩ ?_
        refine v_aload_n 0 dX10_settle_49 rfl rfl ?_
        refine r_Model_pile dX10_settle_50 fl_X10_29 ?_
        refine v_aload_n 0 dX10_settle_53 rfl rfl ?_
        refine r_Model_piled dX10_settle_54 fl_X10_136 ?_
        obtain ⟨g6, hh⟩ := chk_some hh
        replace g6 := inb_in g6
        refine ld_pile dX10_settle_57 g6 ?_
        obtain ⟨q7, eq7, hh⟩ := bnd_some hh
        refine v_callSi (t_X10_rank eq7) dX10_settle_58 y_X10_rank ml_X10_139 rfl rfl (Nat.le_of_ble_eq_true rfl) ⟨(Nat.le_of_ble_eq_true rfl), (Nat.le_of_ble_eq_true rfl)⟩ ⟨Nat.zero_le _, Nat.zero_le _⟩ ?_
        refine v_bipush dX10_settle_61 (by decide : _ = (7 : Int32)) ?_
        refine v_icmp_eq (tgt := 80) dX10_settle_63 (by decide) (fun c => ?_) (fun c => ?_)
        · replace hh := (if_pos c).symm.trans hh
          exact v_sub [0, 1] rfl (tb_X10_settle_80 (fun _ _ hh => ih _ _ hh) _ _ hh)
        · replace hh := (if_neg c).symm.trans hh
          refine v_aload_n 0 dX10_settle_66 rfl rfl ?_
          refine r_Model_pile dX10_settle_67 fl_X10_29 ?_
          refine v_aload_n 0 dX10_settle_70 rfl rfl ?_
          refine r_Model_piled dX10_settle_71 fl_X10_136 ?_
          obtain ⟨g9, hh⟩ := chk_some hh
          replace g9 := inb_in g9
          refine ld_pile dX10_settle_74 g9 ?_
          refine v_bipush dX10_settle_75 (by decide : _ = (20 : Int32)) ?_
          refine v_icmp_ne (tgt := 0) dX10_settle_77 (by decide) (fun c => ?_) (fun c => ?_)
          · replace hh := (if_neg c).symm.trans hh
            exact v_sub [0, 1] rfl (ih _ _ hh)
          · replace hh := (if_pos c).symm.trans hh
            exact v_sub [0, 1] rfl (tb_X10_settle_80 (fun _ _ hh => ih _ _ hh) _ _ hh)
def f_X10_settle (N : Nat) (S : St) (x1 : Int32) : Option (St) :=
  f_X10_settle_b0 N N x1 S
set_option maxRecDepth 100000 in
set_option maxHeartbeats 4000000 in
theorem t_X10_settle {l : Launch} {G : v_G} {N : Nat} {S : St}   {x1 : Int32} {r : St} (hh : f_X10_settle N S x1 = some r) : v_M l G yX10_settle cX10_settle 2 (none) 1 0 0 [.ref (v_B G + 291), .int x1] (lay G S) (QV (lay G r)) := by
  refine v_entry (by decide) (Nat.le_of_ble_eq_true rfl) ?_
  unfold f_X10_settle at hh
  show V l G yX10_settle cX10_settle 2 (none) (v_rm 1 0 0) (QV (lay G r)) 0 0 0 [(0, .ref (v_B G + 291)), (1, .int x1)] [] (lay G S)
  exact v_sub [0, 1] rfl (tb_X10_settle_0 N _ _ hh)
def f_X10_openAt_b7 (N : Nat) : Nat → Int32 → St → Option (Int32)
  | 0, _, _ => none
  | n + 1, x1, S =>
  if x1 < (0 : Int32) then
  (some x1)
  else
  (chk (inb x1 160) (
  if (40 : Int32) ≤ (gI S 1015 0 x1.toNatClampNeg) then
  (some x1)
  else
  (lt (x1 + (-1 : Int32)) fun v3 =>
  f_X10_openAt_b7 N n v3 S)))
set_option maxRecDepth 100000 in
set_option maxHeartbeats 4000000 in
theorem tb_X10_openAt_7 {l : Launch} {G : v_G} {N : Nat}    {r : Int32} {S0 : St}   : ∀ (n : Nat) (x1 : Int32) (S : St),  S = S0 → f_X10_openAt_b7 N n x1 S = some r → V l G yX10_openAt cX10_openAt 2 (some .int) (v_rm 0 0 0) (QI r (lay G S0)) 0 0 7 [(0, .ref (v_B G + 291)), (1, .int x1)] [] (lay G S) := by
  intro n
  induction n with
  | zero =>
    intro x1 S  hS0 hh
    rw [f_X10_openAt_b7] at hh
    cases hh
  | succ n ih =>
    intro x1 S  hS0 hh
    rw [f_X10_openAt_b7] at hh
    refine v_iload_n 1 dX10_openAt_7 rfl rfl ?_
    refine v_if_lt (tgt := 28) dX10_openAt_8 (by decide) (fun c => ?_) (fun c => ?_)
    · replace hh := (if_pos c).symm.trans hh
      refine v_iload_n 1 dX10_openAt_28 rfl rfl ?_
      obtain rfl := Option.some.inj hh
      exact v_iret dX10_openAt_29 rfl (Nat.zero_le _) (Nat.zero_le _) ⟨rfl, by rw [hS0]⟩
    · replace hh := (if_neg c).symm.trans hh
      refine v_aload_n 0 dX10_openAt_11 rfl rfl ?_
      refine r_Model_pile dX10_openAt_12 fl_X10_29 ?_
      refine v_iload_n 1 dX10_openAt_15 rfl rfl ?_
      obtain ⟨g2, hh⟩ := chk_some hh
      replace g2 := inb_in g2
      refine ld_pile dX10_openAt_16 g2 ?_
      refine v_bipush dX10_openAt_17 (by decide : _ = (40 : Int32)) ?_
      refine v_icmp_ge (tgt := 28) dX10_openAt_19 (by decide) (fun c => ?_) (fun c => ?_)
      · replace hh := (if_pos c).symm.trans hh
        refine v_iload_n 1 dX10_openAt_28 rfl rfl ?_
        obtain rfl := Option.some.inj hh
        exact v_iret dX10_openAt_29 rfl (Nat.zero_le _) (Nat.zero_le _) ⟨rfl, by rw [hS0]⟩
      · replace hh := (if_neg c).symm.trans hh
        refine v_iinc (v := _ + (-1 : Int32)) 1 dX10_openAt_22 rfl rfl (by decide) rfl ?_
        replace hh := lt_of hh
        refine v_goto (tgt := 7) dX10_openAt_25 (by decide) ?_
        exact v_sub [1, 0] rfl (ih _ _ hS0 hh)
def f_X10_openAt (N : Nat) (S : St)  : Option (Int32) :=
  lt ((gI S 1016 0 0) - (1 : Int32)) fun v1 =>
  f_X10_openAt_b7 N N v1 S
set_option maxRecDepth 100000 in
set_option maxHeartbeats 4000000 in
theorem t_X10_openAt {l : Launch} {G : v_G} {N : Nat} {S : St}    {r : Int32} (hh : f_X10_openAt N S  = some r) : v_M l G yX10_openAt cX10_openAt 2 (some .int) 0 0 0 [.ref (v_B G + 291)] (lay G S) (QI r (lay G S)) := by
  refine v_entry (by decide) (Nat.le_of_ble_eq_true rfl) ?_
  unfold f_X10_openAt at hh
  show V l G yX10_openAt cX10_openAt 2 (some .int) (v_rm 0 0 0) (QI r (lay G S)) 0 0 0 [(0, .ref (v_B G + 291))] [] (lay G S)
  refine v_aload_n 0 dX10_openAt_0 rfl rfl ?_
  refine r_Model_piled dX10_openAt_1 fl_X10_136 ?_
  refine v_iconst dX10_openAt_4 (by decide : _ = (1 : Int32)) ?_
  refine v_isub dX10_openAt_5 ?_
  refine v_istore_n dX10_openAt_6 rfl (by decide) rfl ?_
  replace hh := lt_of hh
  exact v_sub [1, 0] rfl (tb_X10_openAt_7 N _ _ rfl hh)
def f_X10_openNow (N : Nat) (S : St)  : Option (Int32) :=
  bnd (f_X10_openAt N S ) fun q1 =>
 if (0 : Int32) ≤ q1 then
  (bnd (f_X10_openAt N S ) fun q2 =>
 chk (inb q2 160) (
  some (gI S 1015 0 q2.toNatClampNeg)))
  else
  (some (-1 : Int32))
set_option maxRecDepth 100000 in
set_option maxHeartbeats 4000000 in
theorem t_X10_openNow {l : Launch} {G : v_G} {N : Nat} {S : St}    {r : Int32} (hh : f_X10_openNow N S  = some r) : v_M l G yX10_openNow cX10_openNow 1 (some .int) 1 0 0 [.ref (v_B G + 291)] (lay G S) (QI r (lay G S)) := by
  refine v_entry (by decide) (Nat.le_of_ble_eq_true rfl) ?_
  unfold f_X10_openNow at hh
  show V l G yX10_openNow cX10_openNow 1 (some .int) (v_rm 1 0 0) (QI r (lay G S)) 0 0 0 [(0, .ref (v_B G + 291))] [] (lay G S)
  refine v_aload_n 0 dX10_openNow_0 rfl rfl ?_
  obtain ⟨q1, eq1, hh⟩ := bnd_some hh
  refine v_callVi (t_X10_openAt eq1) dX10_openNow_1 y_X10_openAt ml_X10_149 (ci := 9) rfl rfl (e_Model) rfl rfl (Nat.le_of_ble_eq_true rfl) ⟨(Nat.le_of_ble_eq_true rfl), (Nat.le_of_ble_eq_true rfl)⟩ ⟨Nat.zero_le _, Nat.zero_le _⟩ ?_
  refine v_if_ge (tgt := 11) dX10_openNow_4 (by decide) (fun c => ?_) (fun c => ?_)
  · replace hh := (if_pos c).symm.trans hh
    refine v_aload_n 0 dX10_openNow_11 rfl rfl ?_
    refine r_Model_pile dX10_openNow_12 fl_X10_29 ?_
    refine v_aload_n 0 dX10_openNow_15 rfl rfl ?_
    obtain ⟨q2, eq2, hh⟩ := bnd_some hh
    refine v_callVi (t_X10_openAt eq2) dX10_openNow_16 y_X10_openAt ml_X10_149 (ci := 9) rfl rfl (e_Model) rfl rfl (Nat.le_of_ble_eq_true rfl) ⟨(Nat.le_of_ble_eq_true rfl), (Nat.le_of_ble_eq_true rfl)⟩ ⟨Nat.zero_le _, Nat.zero_le _⟩ ?_
    obtain ⟨g3, hh⟩ := chk_some hh
    replace g3 := inb_in g3
    refine ld_pile dX10_openNow_19 g3 ?_
    obtain rfl := Option.some.inj hh
    exact v_iret dX10_openNow_20 rfl (Nat.zero_le _) (Nat.zero_le _) ⟨rfl, rfl⟩
  · replace hh := (if_neg c).symm.trans hh
    refine v_iconst dX10_openNow_7 (by decide : _ = (-1 : Int32)) ?_
    refine v_goto (tgt := 20) dX10_openNow_8 (by decide) ?_
    obtain rfl := Option.some.inj hh
    exact v_iret dX10_openNow_20 rfl (Nat.zero_le _) (Nat.zero_le _) ⟨rfl, rfl⟩
def f_X10_isCompared_b30 (N : Nat) (x1 : Int32) (S : St) : Option (Int32) :=
  if x1 < (0 : Int32) then
  (some (0 : Int32))
  else
  (chk (inb x1 160) (
  bnd (f_X10_rank S (gI S 1015 0 x1.toNatClampNeg)) fun q3 =>
 if q3 = (4 : Int32) then
  (some (1 : Int32))
  else
  (some (0 : Int32))))
set_option maxRecDepth 100000 in
set_option maxHeartbeats 4000000 in
theorem tb_X10_isCompared_30 {l : Launch} {G : v_G} {N : Nat}    {r : Int32} {S0 : St}   : ∀ (x1 : Int32) (S : St),  S = S0 → f_X10_isCompared_b30 N x1 S = some r → V l G yX10_isCompared cX10_isCompared 2 (some .boolean) (v_rm 1 0 0) (QI r (lay G S0)) 0 0 30 [(0, .ref (v_B G + 291)), (1, .int x1)] [] (lay G S) := by
  intro x1 S  hS0 hh
  unfold f_X10_isCompared_b30 at hh
  refine v_iload_n 1 dX10_isCompared_30 rfl rfl ?_
  refine v_if_lt (tgt := 51) dX10_isCompared_31 (by decide) (fun c => ?_) (fun c => ?_)
  · replace hh := (if_pos c).symm.trans hh
    refine v_iconst dX10_isCompared_51 (by decide : _ = (0 : Int32)) ?_
    obtain rfl := Option.some.inj hh
    exact v_zret dX10_isCompared_52 rfl (zb (by decide)).1 (Nat.zero_le _) (Nat.zero_le _) ⟨rfl, by rw [hS0]⟩
  · replace hh := (if_neg c).symm.trans hh
    refine v_aload_n 0 dX10_isCompared_34 rfl rfl ?_
    refine r_Model_pile dX10_isCompared_35 fl_X10_29 ?_
    refine v_iload_n 1 dX10_isCompared_38 rfl rfl ?_
    obtain ⟨g2, hh⟩ := chk_some hh
    replace g2 := inb_in g2
    refine ld_pile dX10_isCompared_39 g2 ?_
    obtain ⟨q3, eq3, hh⟩ := bnd_some hh
    refine v_callSi (t_X10_rank eq3) dX10_isCompared_40 y_X10_rank ml_X10_139 rfl rfl (Nat.le_of_ble_eq_true rfl) ⟨(Nat.le_of_ble_eq_true rfl), (Nat.le_of_ble_eq_true rfl)⟩ ⟨Nat.zero_le _, Nat.zero_le _⟩ ?_
    refine v_iconst dX10_isCompared_43 (by decide : _ = (4 : Int32)) ?_
    refine v_icmp_ne (tgt := 51) dX10_isCompared_44 (by decide) (fun c => ?_) (fun c => ?_)
    · replace hh := (if_neg c).symm.trans hh
      refine v_iconst dX10_isCompared_51 (by decide : _ = (0 : Int32)) ?_
      obtain rfl := Option.some.inj hh
      exact v_zret dX10_isCompared_52 rfl (zb (by decide)).1 (Nat.zero_le _) (Nat.zero_le _) ⟨rfl, by rw [hS0]⟩
    · replace hh := (if_pos c).symm.trans hh
      refine v_iconst dX10_isCompared_47 (by decide : _ = (1 : Int32)) ?_
      refine v_goto (tgt := 52) dX10_isCompared_48 (by decide) ?_
      obtain rfl := Option.some.inj hh
      exact v_zret dX10_isCompared_52 rfl (zb (by decide)).1 (Nat.zero_le _) (Nat.zero_le _) ⟨rfl, by rw [hS0]⟩
def f_X10_isCompared_b7 (N : Nat) : Nat → Int32 → St → Option (Int32)
  | 0, _, _ => none
  | n + 1, x1, S =>
  if x1 < (0 : Int32) then
  (f_X10_isCompared_b30 N x1 S)
  else
  (chk (inb x1 160) (
  bnd (f_X10_rank S (gI S 1015 0 x1.toNatClampNeg)) fun q5 =>
 if q5 ≤ (4 : Int32) then
  (f_X10_isCompared_b30 N x1 S)
  else
  (lt (x1 + (-1 : Int32)) fun v6 =>
  f_X10_isCompared_b7 N n v6 S)))
set_option maxRecDepth 100000 in
set_option maxHeartbeats 4000000 in
theorem tb_X10_isCompared_7 {l : Launch} {G : v_G} {N : Nat}    {r : Int32} {S0 : St}   : ∀ (n : Nat) (x1 : Int32) (S : St),  S = S0 → f_X10_isCompared_b7 N n x1 S = some r → V l G yX10_isCompared cX10_isCompared 2 (some .boolean) (v_rm 1 0 0) (QI r (lay G S0)) 0 0 7 [(0, .ref (v_B G + 291)), (1, .int x1)] [] (lay G S) := by
  intro n
  induction n with
  | zero =>
    intro x1 S  hS0 hh
    rw [f_X10_isCompared_b7] at hh
    cases hh
  | succ n ih =>
    intro x1 S  hS0 hh
    rw [f_X10_isCompared_b7] at hh
    refine v_iload_n 1 dX10_isCompared_7 rfl rfl ?_
    refine v_if_lt (tgt := 30) dX10_isCompared_8 (by decide) (fun c => ?_) (fun c => ?_)
    · replace hh := (if_pos c).symm.trans hh
      exact v_sub [0, 1] rfl (tb_X10_isCompared_30 _ _ hS0 hh)
    · replace hh := (if_neg c).symm.trans hh
      refine v_aload_n 0 dX10_isCompared_11 rfl rfl ?_
      refine r_Model_pile dX10_isCompared_12 fl_X10_29 ?_
      refine v_iload_n 1 dX10_isCompared_15 rfl rfl ?_
      obtain ⟨g4, hh⟩ := chk_some hh
      replace g4 := inb_in g4
      refine ld_pile dX10_isCompared_16 g4 ?_
      obtain ⟨q5, eq5, hh⟩ := bnd_some hh
      refine v_callSi (t_X10_rank eq5) dX10_isCompared_17 y_X10_rank ml_X10_139 rfl rfl (Nat.le_of_ble_eq_true rfl) ⟨(Nat.le_of_ble_eq_true rfl), (Nat.le_of_ble_eq_true rfl)⟩ ⟨Nat.zero_le _, Nat.zero_le _⟩ ?_
      refine v_iconst dX10_isCompared_20 (by decide : _ = (4 : Int32)) ?_
      refine v_icmp_le (tgt := 30) dX10_isCompared_21 (by decide) (fun c => ?_) (fun c => ?_)
      · replace hh := (if_pos c).symm.trans hh
        exact v_sub [0, 1] rfl (tb_X10_isCompared_30 _ _ hS0 hh)
      · replace hh := (if_neg c).symm.trans hh
        refine v_iinc (v := _ + (-1 : Int32)) 1 dX10_isCompared_24 rfl rfl (by decide) rfl ?_
        replace hh := lt_of hh
        refine v_goto (tgt := 7) dX10_isCompared_27 (by decide) ?_
        exact v_sub [1, 0] rfl (ih _ _ hS0 hh)
def f_X10_isCompared (N : Nat) (S : St)  : Option (Int32) :=
  lt ((gI S 1016 0 0) - (1 : Int32)) fun v1 =>
  f_X10_isCompared_b7 N N v1 S
set_option maxRecDepth 100000 in
set_option maxHeartbeats 4000000 in
theorem t_X10_isCompared {l : Launch} {G : v_G} {N : Nat} {S : St}    {r : Int32} (hh : f_X10_isCompared N S  = some r) : v_M l G yX10_isCompared cX10_isCompared 2 (some .boolean) 1 0 0 [.ref (v_B G + 291)] (lay G S) (QI r (lay G S)) := by
  refine v_entry (by decide) (Nat.le_of_ble_eq_true rfl) ?_
  unfold f_X10_isCompared at hh
  show V l G yX10_isCompared cX10_isCompared 2 (some .boolean) (v_rm 1 0 0) (QI r (lay G S)) 0 0 0 [(0, .ref (v_B G + 291))] [] (lay G S)
  refine v_aload_n 0 dX10_isCompared_0 rfl rfl ?_
  refine r_Model_piled dX10_isCompared_1 fl_X10_136 ?_
  refine v_iconst dX10_isCompared_4 (by decide : _ = (1 : Int32)) ?_
  refine v_isub dX10_isCompared_5 ?_
  refine v_istore_n dX10_isCompared_6 rfl (by decide) rfl ?_
  replace hh := lt_of hh
  exact v_sub [1, 0] rfl (tb_X10_isCompared_7 N _ _ rfl hh)
