def f_X5_hasRoomFor  (S : St) (x1 : Int32) : Option (Int32) :=
  if (300 : Int32) < ((gI S 501 0 0) + x1) then
  (some (0 : Int32))
  else
  (some (1 : Int32))
set_option maxRecDepth 100000 in
set_option maxHeartbeats 4000000 in
theorem t_X5_hasRoomFor {l : Launch} {G : v_G} {S : St}   {x1 : Int32} {r : Int32} (hh : f_X5_hasRoomFor  S x1 = some r) : v_M l G yX5_hasRoomFor cX5_hasRoomFor 2 (some .boolean) 0 0 0 [.ref (v_B G + 283), .int x1] (lay G S) (QI r (lay G S)) := by
  refine v_entry (by decide) (Nat.le_of_ble_eq_true rfl) ?_
  unfold f_X5_hasRoomFor at hh
  show V l G yX5_hasRoomFor cX5_hasRoomFor 2 (some .boolean) (v_rm 0 0 0) (QI r (lay G S)) 0 0 0 [(0, .ref (v_B G + 283)), (1, .int x1)] [] (lay G S)
  refine v_aload_n 0 dX5_hasRoomFor_0 rfl rfl ?_
  refine r_Tape_length dX5_hasRoomFor_1 fl_X5_24 ?_
  refine v_iload_n 1 dX5_hasRoomFor_4 rfl rfl ?_
  refine v_iadd dX5_hasRoomFor_5 ?_
  refine v_sipush dX5_hasRoomFor_6 (by decide : _ = (300 : Int32)) ?_
  refine v_icmp_gt (tgt := 16) dX5_hasRoomFor_9 (by decide) (fun c => ?_) (fun c => ?_)
  · replace hh := (if_pos c).symm.trans hh
    refine v_iconst dX5_hasRoomFor_16 (by decide : _ = (0 : Int32)) ?_
    obtain rfl := Option.some.inj hh
    exact v_zret dX5_hasRoomFor_17 rfl (zb (by decide)).1 (Nat.zero_le _) (Nat.zero_le _) ⟨rfl, rfl⟩
  · replace hh := (if_neg c).symm.trans hh
    refine v_iconst dX5_hasRoomFor_12 (by decide : _ = (1 : Int32)) ?_
    refine v_goto (tgt := 17) dX5_hasRoomFor_13 (by decide) ?_
    obtain rfl := Option.some.inj hh
    exact v_zret dX5_hasRoomFor_17 rfl (zb (by decide)).1 (Nat.zero_le _) (Nat.zero_le _) ⟨rfl, rfl⟩
def f_X5_takeFour_b3 (N : Nat) : Nat → Int32 → Int32 → St → Option (St)
  | 0, _, _, _ => none
  | n + 1, x1, x2, S =>
  if x2 < (0 : Int32) then
  (some S)
  else
  (if (300 : Int32) ≤ (gI S 501 0 0) then
  (some S)
  else
  (chk (inb (gI S 501 0 0) 300) (
  lt (sI S 500 0 ((gI S 501 0 0).toNatClampNeg) (((x1.toUInt32 >>> (x2.toUInt32 &&& Int32.toUInt32 31)).toInt32) &&& (255 : Int32))) fun S2 =>
  lt (sI S2 501 0 0 ((gI S2 501 0 0) + (1 : Int32))) fun S3 =>
  lt (x2 + (-8 : Int32)) fun v4 =>
  f_X5_takeFour_b3 N n x1 v4 S3)))
set_option maxRecDepth 100000 in
set_option maxHeartbeats 4000000 in
theorem tb_X5_takeFour_3 {l : Launch} {G : v_G} {N : Nat}    {r : St}   : ∀ (n : Nat) (x1 : Int32) (x2 : Int32) (S : St),  f_X5_takeFour_b3 N n x1 x2 S = some r → V l G yX5_takeFour cX5_takeFour 3 (none) (v_rm 0 0 0) (QV (lay G r)) 0 0 3 [(0, .ref (v_B G + 283)), (1, .int x1), (2, .int x2)] [] (lay G S) := by
  intro n
  induction n with
  | zero =>
    intro x1 x2 S  hh
    rw [f_X5_takeFour_b3] at hh
    cases hh
  | succ n ih =>
    intro x1 x2 S  hh
    rw [f_X5_takeFour_b3] at hh
    refine v_iload_n 2 dX5_takeFour_3 rfl rfl ?_
    refine v_if_lt (tgt := 49) dX5_takeFour_4 (by decide) (fun c => ?_) (fun c => ?_)
    · replace hh := (if_pos c).symm.trans hh
      obtain rfl := Option.some.inj hh
      exact v_vret dX5_takeFour_49 rfl (Nat.zero_le _) (Nat.zero_le _) ⟨rfl, rfl⟩
    · replace hh := (if_neg c).symm.trans hh
      refine v_aload_n 0 dX5_takeFour_7 rfl rfl ?_
      refine r_Tape_length dX5_takeFour_8 fl_X5_24 ?_
      refine v_sipush dX5_takeFour_11 (by decide : _ = (300 : Int32)) ?_
      refine v_icmp_ge (tgt := 49) dX5_takeFour_14 (by decide) (fun c => ?_) (fun c => ?_)
      · replace hh := (if_pos c).symm.trans hh
        obtain rfl := Option.some.inj hh
        exact v_vret dX5_takeFour_49 rfl (Nat.zero_le _) (Nat.zero_le _) ⟨rfl, rfl⟩
      · replace hh := (if_neg c).symm.trans hh
        refine v_aload_n 0 dX5_takeFour_17 rfl rfl ?_
        refine r_Tape_bytes dX5_takeFour_18 fl_X5_9 ?_
        refine v_aload_n 0 dX5_takeFour_21 rfl rfl ?_
        refine r_Tape_length dX5_takeFour_22 fl_X5_24 ?_
        refine v_iload_n 1 dX5_takeFour_25 rfl rfl ?_
        refine v_iload_n 2 dX5_takeFour_26 rfl rfl ?_
        refine v_iushr dX5_takeFour_27 ?_
        refine v_sipush dX5_takeFour_28 (by decide : _ = (255 : Int32)) ?_
        refine v_iand dX5_takeFour_31 ?_
        obtain ⟨g1, hh⟩ := chk_some hh
        replace g1 := inb_in g1
        refine st_bytes dX5_takeFour_32 g1 ?_
        replace hh := lt_of hh
        refine v_aload_n 0 dX5_takeFour_33 rfl rfl ?_
        refine v_dup dX5_takeFour_34 rfl ?_
        refine r_Tape_length dX5_takeFour_35 fl_X5_24 ?_
        refine v_iconst dX5_takeFour_38 (by decide : _ = (1 : Int32)) ?_
        refine v_iadd dX5_takeFour_39 ?_
        refine w_Tape_length dX5_takeFour_40 fl_X5_24 ?_
        replace hh := lt_of hh
        refine v_iinc (v := _ + (-8 : Int32)) 2 dX5_takeFour_43 rfl rfl (by decide) rfl ?_
        replace hh := lt_of hh
        refine v_goto (tgt := 3) dX5_takeFour_46 (by decide) ?_
        exact v_sub [1, 2, 0] rfl (ih _ _ _ hh)
def f_X5_takeFour (N : Nat) (S : St) (x1 : Int32) : Option (St) :=
  f_X5_takeFour_b3 N N x1 (24 : Int32) S
set_option maxRecDepth 100000 in
set_option maxHeartbeats 4000000 in
theorem t_X5_takeFour {l : Launch} {G : v_G} {N : Nat} {S : St}   {x1 : Int32} {r : St} (hh : f_X5_takeFour N S x1 = some r) : v_M l G yX5_takeFour cX5_takeFour 3 (none) 0 0 0 [.ref (v_B G + 283), .int x1] (lay G S) (QV (lay G r)) := by
  refine v_entry (by decide) (Nat.le_of_ble_eq_true rfl) ?_
  unfold f_X5_takeFour at hh
  show V l G yX5_takeFour cX5_takeFour 3 (none) (v_rm 0 0 0) (QV (lay G r)) 0 0 0 [(0, .ref (v_B G + 283)), (1, .int x1)] [] (lay G S)
  refine v_bipush dX5_takeFour_0 (by decide : _ = (24 : Int32)) ?_
  refine v_istore_n dX5_takeFour_2 rfl (by decide) rfl ?_
  exact v_sub [1, 2, 0] rfl (tb_X5_takeFour_3 N _ _ _ hh)
def f_X5_add  (S : St) (x1 : Int32) (x2 : Int32) (x3 : Int32) : Option (St) :=
  if (301 : Int32) ≤ (gI S 505 0 0) then
  (some S)
  else
  (chk (inb (gI S 505 0 0) 301) (
  lt (sI S 502 0 ((gI S 505 0 0).toNatClampNeg) x1) fun S2 =>
  chk (inb (gI S2 505 0 0) 301) (
  lt (sI S2 503 0 ((gI S2 505 0 0).toNatClampNeg) x2) fun S4 =>
  chk (inb (gI S4 505 0 0) 301) (
  lt (sI S4 504 0 ((gI S4 505 0 0).toNatClampNeg) x3) fun S6 =>
  lt (sI S6 505 0 0 ((gI S6 505 0 0) + (1 : Int32))) fun S7 =>
  some S7))))
set_option maxRecDepth 100000 in
set_option maxHeartbeats 4000000 in
theorem t_X5_add {l : Launch} {G : v_G} {S : St}   {x1 : Int32} {x2 : Int32} {x3 : Int32} {r : St} (hh : f_X5_add  S x1 x2 x3 = some r) : v_M l G yX5_add cX5_add 4 (none) 0 0 0 [.ref (v_B G + 283), .int x1, .int x2, .int x3] (lay G S) (QV (lay G r)) := by
  refine v_entry (by decide) (Nat.le_of_ble_eq_true rfl) ?_
  unfold f_X5_add at hh
  show V l G yX5_add cX5_add 4 (none) (v_rm 0 0 0) (QV (lay G r)) 0 0 0 [(0, .ref (v_B G + 283)), (1, .int x1), (2, .int x2), (3, .int x3)] [] (lay G S)
  refine v_aload_n 0 dX5_add_0 rfl rfl ?_
  refine r_Tape_tokens dX5_add_1 fl_X5_28 ?_
  refine v_aload_n 0 dX5_add_4 rfl rfl ?_
  refine r_Tape_kinds dX5_add_5 fl_X5_15 ?_
  refine ln_kinds dX5_add_8 ?_
  refine v_icmp_ge (tgt := 52) dX5_add_9 (by decide) (fun c => ?_) (fun c => ?_)
  · replace hh := (if_pos c).symm.trans hh
    obtain rfl := Option.some.inj hh
    exact v_vret dX5_add_52 rfl (Nat.zero_le _) (Nat.zero_le _) ⟨rfl, rfl⟩
  · replace hh := (if_neg c).symm.trans hh
    refine v_aload_n 0 dX5_add_12 rfl rfl ?_
    refine r_Tape_kinds dX5_add_13 fl_X5_15 ?_
    refine v_aload_n 0 dX5_add_16 rfl rfl ?_
    refine r_Tape_tokens dX5_add_17 fl_X5_28 ?_
    refine v_iload_n 1 dX5_add_20 rfl rfl ?_
    obtain ⟨g1, hh⟩ := chk_some hh
    replace g1 := inb_in g1
    refine st_kinds dX5_add_21 g1 ?_
    replace hh := lt_of hh
    refine v_aload_n 0 dX5_add_22 rfl rfl ?_
    refine r_Tape_places dX5_add_23 fl_X5_18 ?_
    refine v_aload_n 0 dX5_add_26 rfl rfl ?_
    refine r_Tape_tokens dX5_add_27 fl_X5_28 ?_
    refine v_iload_n 2 dX5_add_30 rfl rfl ?_
    obtain ⟨g3, hh⟩ := chk_some hh
    replace g3 := inb_in g3
    refine st_places dX5_add_31 g3 ?_
    replace hh := lt_of hh
    refine v_aload_n 0 dX5_add_32 rfl rfl ?_
    refine r_Tape_numbers dX5_add_33 fl_X5_21 ?_
    refine v_aload_n 0 dX5_add_36 rfl rfl ?_
    refine r_Tape_tokens dX5_add_37 fl_X5_28 ?_
    refine v_iload_n 3 dX5_add_40 rfl rfl ?_
    obtain ⟨g5, hh⟩ := chk_some hh
    replace g5 := inb_in g5
    refine st_numbers dX5_add_41 g5 ?_
    replace hh := lt_of hh
    refine v_aload_n 0 dX5_add_42 rfl rfl ?_
    refine v_dup dX5_add_43 rfl ?_
    refine r_Tape_tokens dX5_add_44 fl_X5_28 ?_
    refine v_iconst dX5_add_47 (by decide : _ = (1 : Int32)) ?_
    refine v_iadd dX5_add_48 ?_
    refine w_Tape_tokens dX5_add_49 fl_X5_28 ?_
    replace hh := lt_of hh
    obtain rfl := Option.some.inj hh
    exact v_vret dX5_add_52 rfl (Nat.zero_le _) (Nat.zero_le _) ⟨rfl, rfl⟩
def f_X5_isLetter_b12  (x0 : Int32) (S : St) : Option (Int32) :=
  if x0 < (65 : Int32) then
  (some (0 : Int32))
  else
  (if (90 : Int32) < x0 then
  (some (0 : Int32))
  else
  (some (1 : Int32)))
set_option maxRecDepth 100000 in
set_option maxHeartbeats 4000000 in
theorem tb_X5_isLetter_12 {l : Launch} {G : v_G}    {r : Int32} {S0 : St}   : ∀ (x0 : Int32) (S : St),  S = S0 → f_X5_isLetter_b12  x0 S = some r → V l G yX5_isLetter cX5_isLetter 1 (some .boolean) (v_rm 0 0 0) (QI r (lay G S0)) 0 0 12 [(0, .int x0)] [] (lay G S) := by
  intro x0 S  hS0 hh
  unfold f_X5_isLetter_b12 at hh
  refine v_iload_n 0 dX5_isLetter_12 rfl rfl ?_
  refine v_bipush dX5_isLetter_13 (by decide : _ = (65 : Int32)) ?_
  refine v_icmp_lt (tgt := 28) dX5_isLetter_15 (by decide) (fun c => ?_) (fun c => ?_)
  · replace hh := (if_pos c).symm.trans hh
    refine v_iconst dX5_isLetter_28 (by decide : _ = (0 : Int32)) ?_
    obtain rfl := Option.some.inj hh
    exact v_zret dX5_isLetter_29 rfl (zb (by decide)).1 (Nat.zero_le _) (Nat.zero_le _) ⟨rfl, by rw [hS0]⟩
  · replace hh := (if_neg c).symm.trans hh
    refine v_iload_n 0 dX5_isLetter_18 rfl rfl ?_
    refine v_bipush dX5_isLetter_19 (by decide : _ = (90 : Int32)) ?_
    refine v_icmp_gt (tgt := 28) dX5_isLetter_21 (by decide) (fun c => ?_) (fun c => ?_)
    · replace hh := (if_pos c).symm.trans hh
      refine v_iconst dX5_isLetter_28 (by decide : _ = (0 : Int32)) ?_
      obtain rfl := Option.some.inj hh
      exact v_zret dX5_isLetter_29 rfl (zb (by decide)).1 (Nat.zero_le _) (Nat.zero_le _) ⟨rfl, by rw [hS0]⟩
    · replace hh := (if_neg c).symm.trans hh
      refine v_iconst dX5_isLetter_24 (by decide : _ = (1 : Int32)) ?_
      refine v_goto (tgt := 29) dX5_isLetter_25 (by decide) ?_
      obtain rfl := Option.some.inj hh
      exact v_zret dX5_isLetter_29 rfl (zb (by decide)).1 (Nat.zero_le _) (Nat.zero_le _) ⟨rfl, by rw [hS0]⟩
def f_X5_isLetter  (S : St) (x0 : Int32) : Option (Int32) :=
  if x0 < (97 : Int32) then
  (f_X5_isLetter_b12 x0 S)
  else
  (if x0 ≤ (122 : Int32) then
  (some (1 : Int32))
  else
  (f_X5_isLetter_b12 x0 S))
set_option maxRecDepth 100000 in
set_option maxHeartbeats 4000000 in
theorem t_X5_isLetter {l : Launch} {G : v_G} {S : St}   {x0 : Int32} {r : Int32} (hh : f_X5_isLetter  S x0 = some r) : v_M l G yX5_isLetter cX5_isLetter 1 (some .boolean) 0 0 0 [.int x0] (lay G S) (QI r (lay G S)) := by
  refine v_entry (by decide) (Nat.le_of_ble_eq_true rfl) ?_
  unfold f_X5_isLetter at hh
  show V l G yX5_isLetter cX5_isLetter 1 (some .boolean) (v_rm 0 0 0) (QI r (lay G S)) 0 0 0 [(0, .int x0)] [] (lay G S)
  refine v_iload_n 0 dX5_isLetter_0 rfl rfl ?_
  refine v_bipush dX5_isLetter_1 (by decide : _ = (97 : Int32)) ?_
  refine v_icmp_lt (tgt := 12) dX5_isLetter_3 (by decide) (fun c => ?_) (fun c => ?_)
  · replace hh := (if_pos c).symm.trans hh
    exact v_sub [0] rfl (tb_X5_isLetter_12 _ _ rfl hh)
  · replace hh := (if_neg c).symm.trans hh
    refine v_iload_n 0 dX5_isLetter_6 rfl rfl ?_
    refine v_bipush dX5_isLetter_7 (by decide : _ = (122 : Int32)) ?_
    refine v_icmp_le (tgt := 24) dX5_isLetter_9 (by decide) (fun c => ?_) (fun c => ?_)
    · replace hh := (if_pos c).symm.trans hh
      refine v_iconst dX5_isLetter_24 (by decide : _ = (1 : Int32)) ?_
      refine v_goto (tgt := 29) dX5_isLetter_25 (by decide) ?_
      obtain rfl := Option.some.inj hh
      exact v_zret dX5_isLetter_29 rfl (zb (by decide)).1 (Nat.zero_le _) (Nat.zero_le _) ⟨rfl, rfl⟩
    · replace hh := (if_neg c).symm.trans hh
      exact v_sub [0] rfl (tb_X5_isLetter_12 _ _ rfl hh)
def f_X5_isDigit  (S : St) (x0 : Int32) : Option (Int32) :=
  if x0 < (48 : Int32) then
  (some (0 : Int32))
  else
  (if (57 : Int32) < x0 then
  (some (0 : Int32))
  else
  (some (1 : Int32)))
set_option maxRecDepth 100000 in
set_option maxHeartbeats 4000000 in
theorem t_X5_isDigit {l : Launch} {G : v_G} {S : St}   {x0 : Int32} {r : Int32} (hh : f_X5_isDigit  S x0 = some r) : v_M l G yX5_isDigit cX5_isDigit 1 (some .boolean) 0 0 0 [.int x0] (lay G S) (QI r (lay G S)) := by
  refine v_entry (by decide) (Nat.le_of_ble_eq_true rfl) ?_
  unfold f_X5_isDigit at hh
  show V l G yX5_isDigit cX5_isDigit 1 (some .boolean) (v_rm 0 0 0) (QI r (lay G S)) 0 0 0 [(0, .int x0)] [] (lay G S)
  refine v_iload_n 0 dX5_isDigit_0 rfl rfl ?_
  refine v_bipush dX5_isDigit_1 (by decide : _ = (48 : Int32)) ?_
  refine v_icmp_lt (tgt := 16) dX5_isDigit_3 (by decide) (fun c => ?_) (fun c => ?_)
  · replace hh := (if_pos c).symm.trans hh
    refine v_iconst dX5_isDigit_16 (by decide : _ = (0 : Int32)) ?_
    obtain rfl := Option.some.inj hh
    exact v_zret dX5_isDigit_17 rfl (zb (by decide)).1 (Nat.zero_le _) (Nat.zero_le _) ⟨rfl, rfl⟩
  · replace hh := (if_neg c).symm.trans hh
    refine v_iload_n 0 dX5_isDigit_6 rfl rfl ?_
    refine v_bipush dX5_isDigit_7 (by decide : _ = (57 : Int32)) ?_
    refine v_icmp_gt (tgt := 16) dX5_isDigit_9 (by decide) (fun c => ?_) (fun c => ?_)
    · replace hh := (if_pos c).symm.trans hh
      refine v_iconst dX5_isDigit_16 (by decide : _ = (0 : Int32)) ?_
      obtain rfl := Option.some.inj hh
      exact v_zret dX5_isDigit_17 rfl (zb (by decide)).1 (Nat.zero_le _) (Nat.zero_le _) ⟨rfl, rfl⟩
    · replace hh := (if_neg c).symm.trans hh
      refine v_iconst dX5_isDigit_12 (by decide : _ = (1 : Int32)) ?_
      refine v_goto (tgt := 17) dX5_isDigit_13 (by decide) ?_
      obtain rfl := Option.some.inj hh
      exact v_zret dX5_isDigit_17 rfl (zb (by decide)).1 (Nat.zero_le _) (Nat.zero_le _) ⟨rfl, rfl⟩
def f_X5_signOf  (S : St) (x0 : Int32) : Option (Int32) :=
  if x0 = (35 : Int32) then
  (some (31 : Int32))
  else if x0 = (36 : Int32) then
  (some (41 : Int32))
  else if x0 = (37 : Int32) then
  (some (41 : Int32))
  else if x0 = (38 : Int32) then
  (some (41 : Int32))
  else if x0 = (39 : Int32) then
  (some (41 : Int32))
  else if x0 = (40 : Int32) then
  (some (36 : Int32))
  else if x0 = (41 : Int32) then
  (some (37 : Int32))
  else if x0 = (42 : Int32) then
  (some (34 : Int32))
  else if x0 = (43 : Int32) then
  (some (32 : Int32))
  else if x0 = (44 : Int32) then
  (some (41 : Int32))
  else if x0 = (45 : Int32) then
  (some (33 : Int32))
  else if x0 = (46 : Int32) then
  (some (41 : Int32))
  else if x0 = (47 : Int32) then
  (some (35 : Int32))
  else if x0 = (48 : Int32) then
  (some (41 : Int32))
  else if x0 = (49 : Int32) then
  (some (41 : Int32))
  else if x0 = (50 : Int32) then
  (some (41 : Int32))
  else if x0 = (51 : Int32) then
  (some (41 : Int32))
  else if x0 = (52 : Int32) then
  (some (41 : Int32))
  else if x0 = (53 : Int32) then
  (some (41 : Int32))
  else if x0 = (54 : Int32) then
  (some (41 : Int32))
  else if x0 = (55 : Int32) then
  (some (41 : Int32))
  else if x0 = (56 : Int32) then
  (some (41 : Int32))
  else if x0 = (57 : Int32) then
  (some (41 : Int32))
  else if x0 = (58 : Int32) then
  (some (41 : Int32))
  else if x0 = (59 : Int32) then
  (some (38 : Int32))
  else if x0 = (60 : Int32) then
  (some (28 : Int32))
  else if x0 = (61 : Int32) then
  (some (30 : Int32))
  else if x0 = (62 : Int32) then
  (some (29 : Int32))
  else (some (41 : Int32))
set_option maxRecDepth 100000 in
set_option maxHeartbeats 4000000 in
theorem t_X5_signOf {l : Launch} {G : v_G} {S : St}   {x0 : Int32} {r : Int32} (hh : f_X5_signOf  S x0 = some r) : v_M l G yX5_signOf cX5_signOf 1 (some .int) 0 0 0 [.int x0] (lay G S) (QI r (lay G S)) := by
  refine v_entry (by decide) (Nat.le_of_ble_eq_true rfl) ?_
  unfold f_X5_signOf at hh
  show V l G yX5_signOf cX5_signOf 1 (some .int) (v_rm 0 0 0) (QI r (lay G S)) 0 0 0 [(0, .int x0)] [] (lay G S)
  refine v_iload_n 0 dX5_signOf_0 rfl rfl ?_
  refine sw_if hh (fun c0 hh => ?_) (fun c0 hh => ?_)
  · skip
    refine v_tableIn (tgt := 137) dX5_signOf_1 (by rw [c0]; decide) (by rw [c0]; decide) (by rw [c0] <;> rfl) (by decide) ?_
    refine v_bipush dX5_signOf_137 (by decide : _ = (31 : Int32)) ?_
    obtain rfl := Option.some.inj hh
    exact v_iret dX5_signOf_139 rfl (Nat.zero_le _) (Nat.zero_le _) ⟨rfl, rfl⟩
  · skip
    refine sw_if hh (fun c1 hh => ?_) (fun c1 hh => ?_)
    · skip
      refine v_tableIn (tgt := 161) dX5_signOf_1 (by rw [c1]; decide) (by rw [c1]; decide) (by rw [c1] <;> rfl) (by decide) ?_
      refine v_bipush dX5_signOf_161 (by decide : _ = (41 : Int32)) ?_
      obtain rfl := Option.some.inj hh
      exact v_iret dX5_signOf_163 rfl (Nat.zero_le _) (Nat.zero_le _) ⟨rfl, rfl⟩
    · skip
      refine sw_if hh (fun c2 hh => ?_) (fun c2 hh => ?_)
      · skip
        refine v_tableIn (tgt := 161) dX5_signOf_1 (by rw [c2]; decide) (by rw [c2]; decide) (by rw [c2] <;> rfl) (by decide) ?_
        refine v_bipush dX5_signOf_161 (by decide : _ = (41 : Int32)) ?_
        obtain rfl := Option.some.inj hh
        exact v_iret dX5_signOf_163 rfl (Nat.zero_le _) (Nat.zero_le _) ⟨rfl, rfl⟩
      · skip
        refine sw_if hh (fun c3 hh => ?_) (fun c3 hh => ?_)
        · skip
          refine v_tableIn (tgt := 161) dX5_signOf_1 (by rw [c3]; decide) (by rw [c3]; decide) (by rw [c3] <;> rfl) (by decide) ?_
          refine v_bipush dX5_signOf_161 (by decide : _ = (41 : Int32)) ?_
          obtain rfl := Option.some.inj hh
          exact v_iret dX5_signOf_163 rfl (Nat.zero_le _) (Nat.zero_le _) ⟨rfl, rfl⟩
        · skip
          refine sw_if hh (fun c4 hh => ?_) (fun c4 hh => ?_)
          · skip
            refine v_tableIn (tgt := 161) dX5_signOf_1 (by rw [c4]; decide) (by rw [c4]; decide) (by rw [c4] <;> rfl) (by decide) ?_
            refine v_bipush dX5_signOf_161 (by decide : _ = (41 : Int32)) ?_
            obtain rfl := Option.some.inj hh
            exact v_iret dX5_signOf_163 rfl (Nat.zero_le _) (Nat.zero_le _) ⟨rfl, rfl⟩
          · skip
            refine sw_if hh (fun c5 hh => ?_) (fun c5 hh => ?_)
            · skip
              refine v_tableIn (tgt := 152) dX5_signOf_1 (by rw [c5]; decide) (by rw [c5]; decide) (by rw [c5] <;> rfl) (by decide) ?_
              refine v_bipush dX5_signOf_152 (by decide : _ = (36 : Int32)) ?_
              obtain rfl := Option.some.inj hh
              exact v_iret dX5_signOf_154 rfl (Nat.zero_le _) (Nat.zero_le _) ⟨rfl, rfl⟩
            · skip
              refine sw_if hh (fun c6 hh => ?_) (fun c6 hh => ?_)
              · skip
                refine v_tableIn (tgt := 155) dX5_signOf_1 (by rw [c6]; decide) (by rw [c6]; decide) (by rw [c6] <;> rfl) (by decide) ?_
                refine v_bipush dX5_signOf_155 (by decide : _ = (37 : Int32)) ?_
                obtain rfl := Option.some.inj hh
                exact v_iret dX5_signOf_157 rfl (Nat.zero_le _) (Nat.zero_le _) ⟨rfl, rfl⟩
              · skip
                refine sw_if hh (fun c7 hh => ?_) (fun c7 hh => ?_)
                · skip
                  refine v_tableIn (tgt := 146) dX5_signOf_1 (by rw [c7]; decide) (by rw [c7]; decide) (by rw [c7] <;> rfl) (by decide) ?_
                  refine v_bipush dX5_signOf_146 (by decide : _ = (34 : Int32)) ?_
                  obtain rfl := Option.some.inj hh
                  exact v_iret dX5_signOf_148 rfl (Nat.zero_le _) (Nat.zero_le _) ⟨rfl, rfl⟩
                · skip
                  refine sw_if hh (fun c8 hh => ?_) (fun c8 hh => ?_)
                  · skip
                    refine v_tableIn (tgt := 140) dX5_signOf_1 (by rw [c8]; decide) (by rw [c8]; decide) (by rw [c8] <;> rfl) (by decide) ?_
                    refine v_bipush dX5_signOf_140 (by decide : _ = (32 : Int32)) ?_
                    obtain rfl := Option.some.inj hh
                    exact v_iret dX5_signOf_142 rfl (Nat.zero_le _) (Nat.zero_le _) ⟨rfl, rfl⟩
                  · skip
                    refine sw_if hh (fun c9 hh => ?_) (fun c9 hh => ?_)
                    · skip
                      refine v_tableIn (tgt := 161) dX5_signOf_1 (by rw [c9]; decide) (by rw [c9]; decide) (by rw [c9] <;> rfl) (by decide) ?_
                      refine v_bipush dX5_signOf_161 (by decide : _ = (41 : Int32)) ?_
                      obtain rfl := Option.some.inj hh
                      exact v_iret dX5_signOf_163 rfl (Nat.zero_le _) (Nat.zero_le _) ⟨rfl, rfl⟩
                    · skip
                      refine sw_if hh (fun c10 hh => ?_) (fun c10 hh => ?_)
                      · skip
                        refine v_tableIn (tgt := 143) dX5_signOf_1 (by rw [c10]; decide) (by rw [c10]; decide) (by rw [c10] <;> rfl) (by decide) ?_
                        refine v_bipush dX5_signOf_143 (by decide : _ = (33 : Int32)) ?_
                        obtain rfl := Option.some.inj hh
                        exact v_iret dX5_signOf_145 rfl (Nat.zero_le _) (Nat.zero_le _) ⟨rfl, rfl⟩
                      · skip
                        refine sw_if hh (fun c11 hh => ?_) (fun c11 hh => ?_)
                        · skip
                          refine v_tableIn (tgt := 161) dX5_signOf_1 (by rw [c11]; decide) (by rw [c11]; decide) (by rw [c11] <;> rfl) (by decide) ?_
                          refine v_bipush dX5_signOf_161 (by decide : _ = (41 : Int32)) ?_
                          obtain rfl := Option.some.inj hh
                          exact v_iret dX5_signOf_163 rfl (Nat.zero_le _) (Nat.zero_le _) ⟨rfl, rfl⟩
                        · skip
                          refine sw_if hh (fun c12 hh => ?_) (fun c12 hh => ?_)
                          · skip
                            refine v_tableIn (tgt := 149) dX5_signOf_1 (by rw [c12]; decide) (by rw [c12]; decide) (by rw [c12] <;> rfl) (by decide) ?_
                            refine v_bipush dX5_signOf_149 (by decide : _ = (35 : Int32)) ?_
                            obtain rfl := Option.some.inj hh
                            exact v_iret dX5_signOf_151 rfl (Nat.zero_le _) (Nat.zero_le _) ⟨rfl, rfl⟩
                          · skip
                            refine sw_if hh (fun c13 hh => ?_) (fun c13 hh => ?_)
                            · skip
                              refine v_tableIn (tgt := 161) dX5_signOf_1 (by rw [c13]; decide) (by rw [c13]; decide) (by rw [c13] <;> rfl) (by decide) ?_
                              refine v_bipush dX5_signOf_161 (by decide : _ = (41 : Int32)) ?_
                              obtain rfl := Option.some.inj hh
                              exact v_iret dX5_signOf_163 rfl (Nat.zero_le _) (Nat.zero_le _) ⟨rfl, rfl⟩
                            · skip
                              refine sw_if hh (fun c14 hh => ?_) (fun c14 hh => ?_)
                              · skip
                                refine v_tableIn (tgt := 161) dX5_signOf_1 (by rw [c14]; decide) (by rw [c14]; decide) (by rw [c14] <;> rfl) (by decide) ?_
                                refine v_bipush dX5_signOf_161 (by decide : _ = (41 : Int32)) ?_
                                obtain rfl := Option.some.inj hh
                                exact v_iret dX5_signOf_163 rfl (Nat.zero_le _) (Nat.zero_le _) ⟨rfl, rfl⟩
                              · skip
                                refine sw_if hh (fun c15 hh => ?_) (fun c15 hh => ?_)
                                · skip
                                  refine v_tableIn (tgt := 161) dX5_signOf_1 (by rw [c15]; decide) (by rw [c15]; decide) (by rw [c15] <;> rfl) (by decide) ?_
                                  refine v_bipush dX5_signOf_161 (by decide : _ = (41 : Int32)) ?_
                                  obtain rfl := Option.some.inj hh
                                  exact v_iret dX5_signOf_163 rfl (Nat.zero_le _) (Nat.zero_le _) ⟨rfl, rfl⟩
                                · skip
                                  refine sw_if hh (fun c16 hh => ?_) (fun c16 hh => ?_)
                                  · skip
                                    refine v_tableIn (tgt := 161) dX5_signOf_1 (by rw [c16]; decide) (by rw [c16]; decide) (by rw [c16] <;> rfl) (by decide) ?_
                                    refine v_bipush dX5_signOf_161 (by decide : _ = (41 : Int32)) ?_
                                    obtain rfl := Option.some.inj hh
                                    exact v_iret dX5_signOf_163 rfl (Nat.zero_le _) (Nat.zero_le _) ⟨rfl, rfl⟩
                                  · skip
                                    refine sw_if hh (fun c17 hh => ?_) (fun c17 hh => ?_)
                                    · skip
                                      refine v_tableIn (tgt := 161) dX5_signOf_1 (by rw [c17]; decide) (by rw [c17]; decide) (by rw [c17] <;> rfl) (by decide) ?_
                                      refine v_bipush dX5_signOf_161 (by decide : _ = (41 : Int32)) ?_
                                      obtain rfl := Option.some.inj hh
                                      exact v_iret dX5_signOf_163 rfl (Nat.zero_le _) (Nat.zero_le _) ⟨rfl, rfl⟩
                                    · skip
                                      refine sw_if hh (fun c18 hh => ?_) (fun c18 hh => ?_)
                                      · skip
                                        refine v_tableIn (tgt := 161) dX5_signOf_1 (by rw [c18]; decide) (by rw [c18]; decide) (by rw [c18] <;> rfl) (by decide) ?_
                                        refine v_bipush dX5_signOf_161 (by decide : _ = (41 : Int32)) ?_
                                        obtain rfl := Option.some.inj hh
                                        exact v_iret dX5_signOf_163 rfl (Nat.zero_le _) (Nat.zero_le _) ⟨rfl, rfl⟩
                                      · skip
                                        refine sw_if hh (fun c19 hh => ?_) (fun c19 hh => ?_)
                                        · skip
                                          refine v_tableIn (tgt := 161) dX5_signOf_1 (by rw [c19]; decide) (by rw [c19]; decide) (by rw [c19] <;> rfl) (by decide) ?_
                                          refine v_bipush dX5_signOf_161 (by decide : _ = (41 : Int32)) ?_
                                          obtain rfl := Option.some.inj hh
                                          exact v_iret dX5_signOf_163 rfl (Nat.zero_le _) (Nat.zero_le _) ⟨rfl, rfl⟩
                                        · skip
                                          refine sw_if hh (fun c20 hh => ?_) (fun c20 hh => ?_)
                                          · skip
                                            refine v_tableIn (tgt := 161) dX5_signOf_1 (by rw [c20]; decide) (by rw [c20]; decide) (by rw [c20] <;> rfl) (by decide) ?_
                                            refine v_bipush dX5_signOf_161 (by decide : _ = (41 : Int32)) ?_
                                            obtain rfl := Option.some.inj hh
                                            exact v_iret dX5_signOf_163 rfl (Nat.zero_le _) (Nat.zero_le _) ⟨rfl, rfl⟩
                                          · skip
                                            refine sw_if hh (fun c21 hh => ?_) (fun c21 hh => ?_)
                                            · skip
                                              refine v_tableIn (tgt := 161) dX5_signOf_1 (by rw [c21]; decide) (by rw [c21]; decide) (by rw [c21] <;> rfl) (by decide) ?_
                                              refine v_bipush dX5_signOf_161 (by decide : _ = (41 : Int32)) ?_
                                              obtain rfl := Option.some.inj hh
                                              exact v_iret dX5_signOf_163 rfl (Nat.zero_le _) (Nat.zero_le _) ⟨rfl, rfl⟩
                                            · skip
                                              refine sw_if hh (fun c22 hh => ?_) (fun c22 hh => ?_)
                                              · skip
                                                refine v_tableIn (tgt := 161) dX5_signOf_1 (by rw [c22]; decide) (by rw [c22]; decide) (by rw [c22] <;> rfl) (by decide) ?_
                                                refine v_bipush dX5_signOf_161 (by decide : _ = (41 : Int32)) ?_
                                                obtain rfl := Option.some.inj hh
                                                exact v_iret dX5_signOf_163 rfl (Nat.zero_le _) (Nat.zero_le _) ⟨rfl, rfl⟩
                                              · skip
                                                refine sw_if hh (fun c23 hh => ?_) (fun c23 hh => ?_)
                                                · skip
                                                  refine v_tableIn (tgt := 161) dX5_signOf_1 (by rw [c23]; decide) (by rw [c23]; decide) (by rw [c23] <;> rfl) (by decide) ?_
                                                  refine v_bipush dX5_signOf_161 (by decide : _ = (41 : Int32)) ?_
                                                  obtain rfl := Option.some.inj hh
                                                  exact v_iret dX5_signOf_163 rfl (Nat.zero_le _) (Nat.zero_le _) ⟨rfl, rfl⟩
                                                · skip
                                                  refine sw_if hh (fun c24 hh => ?_) (fun c24 hh => ?_)
                                                  · skip
                                                    refine v_tableIn (tgt := 158) dX5_signOf_1 (by rw [c24]; decide) (by rw [c24]; decide) (by rw [c24] <;> rfl) (by decide) ?_
                                                    refine v_bipush dX5_signOf_158 (by decide : _ = (38 : Int32)) ?_
                                                    obtain rfl := Option.some.inj hh
                                                    exact v_iret dX5_signOf_160 rfl (Nat.zero_le _) (Nat.zero_le _) ⟨rfl, rfl⟩
                                                  · skip
                                                    refine sw_if hh (fun c25 hh => ?_) (fun c25 hh => ?_)
                                                    · skip
                                                      refine v_tableIn (tgt := 128) dX5_signOf_1 (by rw [c25]; decide) (by rw [c25]; decide) (by rw [c25] <;> rfl) (by decide) ?_
                                                      refine v_bipush dX5_signOf_128 (by decide : _ = (28 : Int32)) ?_
                                                      obtain rfl := Option.some.inj hh
                                                      exact v_iret dX5_signOf_130 rfl (Nat.zero_le _) (Nat.zero_le _) ⟨rfl, rfl⟩
                                                    · skip
                                                      refine sw_if hh (fun c26 hh => ?_) (fun c26 hh => ?_)
                                                      · skip
                                                        refine v_tableIn (tgt := 134) dX5_signOf_1 (by rw [c26]; decide) (by rw [c26]; decide) (by rw [c26] <;> rfl) (by decide) ?_
                                                        refine v_bipush dX5_signOf_134 (by decide : _ = (30 : Int32)) ?_
                                                        obtain rfl := Option.some.inj hh
                                                        exact v_iret dX5_signOf_136 rfl (Nat.zero_le _) (Nat.zero_le _) ⟨rfl, rfl⟩
                                                      · skip
                                                        refine sw_if hh (fun c27 hh => ?_) (fun c27 hh => ?_)
                                                        · skip
                                                          refine v_tableIn (tgt := 131) dX5_signOf_1 (by rw [c27]; decide) (by rw [c27]; decide) (by rw [c27] <;> rfl) (by decide) ?_
                                                          refine v_bipush dX5_signOf_131 (by decide : _ = (29 : Int32)) ?_
                                                          obtain rfl := Option.some.inj hh
                                                          exact v_iret dX5_signOf_133 rfl (Nat.zero_le _) (Nat.zero_le _) ⟨rfl, rfl⟩
                                                        · skip
                                                          refine v_tableOut (tgt := 161) dX5_signOf_1 (sw_out 28 (by decide) (fun k hk => match k, hk with | 0, _ => fun h => c0 (h.trans (by decide)) | 1, _ => fun h => c1 (h.trans (by decide)) | 2, _ => fun h => c2 (h.trans (by decide)) | 3, _ => fun h => c3 (h.trans (by decide)) | 4, _ => fun h => c4 (h.trans (by decide)) | 5, _ => fun h => c5 (h.trans (by decide)) | 6, _ => fun h => c6 (h.trans (by decide)) | 7, _ => fun h => c7 (h.trans (by decide)) | 8, _ => fun h => c8 (h.trans (by decide)) | 9, _ => fun h => c9 (h.trans (by decide)) | 10, _ => fun h => c10 (h.trans (by decide)) | 11, _ => fun h => c11 (h.trans (by decide)) | 12, _ => fun h => c12 (h.trans (by decide)) | 13, _ => fun h => c13 (h.trans (by decide)) | 14, _ => fun h => c14 (h.trans (by decide)) | 15, _ => fun h => c15 (h.trans (by decide)) | 16, _ => fun h => c16 (h.trans (by decide)) | 17, _ => fun h => c17 (h.trans (by decide)) | 18, _ => fun h => c18 (h.trans (by decide)) | 19, _ => fun h => c19 (h.trans (by decide)) | 20, _ => fun h => c20 (h.trans (by decide)) | 21, _ => fun h => c21 (h.trans (by decide)) | 22, _ => fun h => c22 (h.trans (by decide)) | 23, _ => fun h => c23 (h.trans (by decide)) | 24, _ => fun h => c24 (h.trans (by decide)) | 25, _ => fun h => c25 (h.trans (by decide)) | 26, _ => fun h => c26 (h.trans (by decide)) | 27, _ => fun h => c27 (h.trans (by decide)) | k + 28, hk => absurd hk (by omega))) (by decide) ?_
                                                          refine v_bipush dX5_signOf_161 (by decide : _ = (41 : Int32)) ?_
                                                          obtain rfl := Option.some.inj hh
                                                          exact v_iret dX5_signOf_163 rfl (Nat.zero_le _) (Nat.zero_le _) ⟨rfl, rfl⟩
def f_X5_takeNumber_b51 (N : Nat) (x1 : Int32) (x2 : Int32) (x3 : Int32) (S : St) : Option (Int32 × St) :=
  bnd (f_X5_add S (39 : Int32) x1 x3) fun q1 =>
 some (x2, q1)
set_option maxRecDepth 100000 in
set_option maxHeartbeats 4000000 in
theorem tb_X5_takeNumber_51 {l : Launch} {G : v_G} {N : Nat}    {r : Int32 × St}   : ∀ (x1 : Int32) (x2 : Int32) (x3 : Int32) (S : St),  f_X5_takeNumber_b51 N x1 x2 x3 S = some r → V l G yX5_takeNumber cX5_takeNumber 4 (some .int) (v_rm 1 0 0) (QI r.1 (lay G r.2)) 0 0 51 [(0, .ref (v_B G + 283)), (1, .int x1), (2, .int x2), (3, .int x3)] [] (lay G S) := by
  intro x1 x2 x3 S  hh
  unfold f_X5_takeNumber_b51 at hh
  refine v_aload_n 0 dX5_takeNumber_51 rfl rfl ?_
  refine v_bipush dX5_takeNumber_52 (by decide : _ = (39 : Int32)) ?_
  refine v_iload_n 1 dX5_takeNumber_54 rfl rfl ?_
  refine v_iload_n 3 dX5_takeNumber_55 rfl rfl ?_
  obtain ⟨q1, eq1, hh⟩ := bnd_some hh
  refine v_callVv (t_X5_add eq1) dX5_takeNumber_56 y_X5_add ml_X5_43 (ci := 4) rfl rfl (e_Tape) rfl rfl (Nat.le_of_ble_eq_true rfl) ⟨(Nat.le_of_ble_eq_true rfl), (Nat.le_of_ble_eq_true rfl)⟩ ⟨Nat.zero_le _, Nat.zero_le _⟩ ?_
  refine v_iload_n 2 dX5_takeNumber_59 rfl rfl ?_
  obtain rfl := Option.some.inj hh
  exact v_iret dX5_takeNumber_60 rfl (Nat.zero_le _) (Nat.zero_le _) ⟨rfl, rfl⟩
def f_X5_takeNumber_b4 (N : Nat) : Nat → Int32 → Int32 → Int32 → St → Option (Int32 × St)
  | 0, _, _, _, _ => none
  | n + 1, x1, x2, x3, S =>
  if (gI S 501 0 0) ≤ x2 then
  (f_X5_takeNumber_b51 N x1 x2 x3 S)
  else
  (chk (inb x2 300) (
  bnd (f_X5_isDigit S (gI S 500 0 x2.toNatClampNeg)) fun q3 =>
 if q3 = (0 : Int32) then
  (f_X5_takeNumber_b51 N x1 x2 x3 S)
  else
  (chk (inb x2 300) (
  lt (if (((x3 * (10 : Int32)) + (gI S 500 0 x2.toNatClampNeg)) - (48 : Int32)) < (10000 : Int32) then (((x3 * (10 : Int32)) + (gI S 500 0 x2.toNatClampNeg)) - (48 : Int32)) else (10000 : Int32)) fun v5 =>
  lt (x2 + (1 : Int32)) fun v6 =>
  f_X5_takeNumber_b4 N n x1 v6 v5 S))))
set_option maxRecDepth 100000 in
set_option maxHeartbeats 4000000 in
theorem tb_X5_takeNumber_4 {l : Launch} {G : v_G} {N : Nat}    {r : Int32 × St}   : ∀ (n : Nat) (x1 : Int32) (x2 : Int32) (x3 : Int32) (S : St),  f_X5_takeNumber_b4 N n x1 x2 x3 S = some r → V l G yX5_takeNumber cX5_takeNumber 4 (some .int) (v_rm 1 0 0) (QI r.1 (lay G r.2)) 0 0 4 [(0, .ref (v_B G + 283)), (1, .int x1), (2, .int x2), (3, .int x3)] [] (lay G S) := by
  intro n
  induction n with
  | zero =>
    intro x1 x2 x3 S  hh
    rw [f_X5_takeNumber_b4] at hh
    cases hh
  | succ n ih =>
    intro x1 x2 x3 S  hh
    rw [f_X5_takeNumber_b4] at hh
    refine v_iload_n 2 dX5_takeNumber_4 rfl rfl ?_
    refine v_aload_n 0 dX5_takeNumber_5 rfl rfl ?_
    refine r_Tape_length dX5_takeNumber_6 fl_X5_24 ?_
    refine v_icmp_ge (tgt := 51) dX5_takeNumber_9 (by decide) (fun c => ?_) (fun c => ?_)
    · replace hh := (if_pos c).symm.trans hh
      exact v_sub [0, 1, 2, 3] rfl (tb_X5_takeNumber_51 _ _ _ _ hh)
    · replace hh := (if_neg c).symm.trans hh
      refine v_aload_n 0 dX5_takeNumber_12 rfl rfl ?_
      refine r_Tape_bytes dX5_takeNumber_13 fl_X5_9 ?_
      refine v_iload_n 2 dX5_takeNumber_16 rfl rfl ?_
      obtain ⟨g2, hh⟩ := chk_some hh
      replace g2 := inb_in g2
      refine ld_bytes dX5_takeNumber_17 g2 ?_
      obtain ⟨q3, eq3, hh⟩ := bnd_some hh
      refine v_callSi (t_X5_isDigit eq3) dX5_takeNumber_18 y_X5_isDigit ml_X5_54 rfl rfl (Nat.le_of_ble_eq_true rfl) ⟨(Nat.le_of_ble_eq_true rfl), (Nat.le_of_ble_eq_true rfl)⟩ ⟨Nat.zero_le _, Nat.zero_le _⟩ ?_
      refine v_if_eq (tgt := 51) dX5_takeNumber_21 (by decide) (fun c => ?_) (fun c => ?_)
      · replace hh := (if_pos c).symm.trans hh
        exact v_sub [0, 1, 2, 3] rfl (tb_X5_takeNumber_51 _ _ _ _ hh)
      · replace hh := (if_neg c).symm.trans hh
        refine v_sipush dX5_takeNumber_24 (by decide : _ = (10000 : Int32)) ?_
        refine v_iload_n 3 dX5_takeNumber_27 rfl rfl ?_
        refine v_bipush dX5_takeNumber_28 (by decide : _ = (10 : Int32)) ?_
        refine v_imul dX5_takeNumber_30 ?_
        refine v_aload_n 0 dX5_takeNumber_31 rfl rfl ?_
        refine r_Tape_bytes dX5_takeNumber_32 fl_X5_9 ?_
        refine v_iload_n 2 dX5_takeNumber_35 rfl rfl ?_
        obtain ⟨g4, hh⟩ := chk_some hh
        replace g4 := inb_in g4
        refine ld_bytes dX5_takeNumber_36 g4 ?_
        refine v_iadd dX5_takeNumber_37 ?_
        refine v_bipush dX5_takeNumber_38 (by decide : _ = (48 : Int32)) ?_
        refine v_isub dX5_takeNumber_40 ?_
        refine v_mmin dX5_takeNumber_41 ml_X5_77 y_J9_min_7cf53.2 y_J9_min_7cf53.1.2.1 y_J9_min_7cf53.1.1 (Nat.le_of_ble_eq_true rfl) (Nat.le_of_ble_eq_true rfl) (Nat.zero_le _) (Nat.zero_le _) ?_
        replace hh := lt_of hh
        refine v_istore_n dX5_takeNumber_44 rfl (by decide) rfl ?_
        refine v_iinc (v := _ + (1 : Int32)) 3 dX5_takeNumber_45 rfl rfl (by decide) rfl ?_
        replace hh := lt_of hh
        refine v_goto (tgt := 4) dX5_takeNumber_48 (by decide) ?_
        exact v_sub [2, 3, 0, 1] rfl (ih _ _ _ _ hh)
def f_X5_takeNumber (N : Nat) (S : St) (x1 : Int32) : Option (Int32 × St) :=
  f_X5_takeNumber_b4 N N x1 x1 (0 : Int32) S
set_option maxRecDepth 100000 in
set_option maxHeartbeats 4000000 in
theorem t_X5_takeNumber {l : Launch} {G : v_G} {N : Nat} {S : St}   {x1 : Int32} {r : Int32 × St} (hh : f_X5_takeNumber N S x1 = some r) : v_M l G yX5_takeNumber cX5_takeNumber 4 (some .int) 1 0 0 [.ref (v_B G + 283), .int x1] (lay G S) (QI r.1 (lay G r.2)) := by
  refine v_entry (by decide) (Nat.le_of_ble_eq_true rfl) ?_
  unfold f_X5_takeNumber at hh
  show V l G yX5_takeNumber cX5_takeNumber 4 (some .int) (v_rm 1 0 0) (QI r.1 (lay G r.2)) 0 0 0 [(0, .ref (v_B G + 283)), (1, .int x1)] [] (lay G S)
  refine v_iload_n 1 dX5_takeNumber_0 rfl rfl ?_
  refine v_istore_n dX5_takeNumber_1 rfl (by decide) rfl ?_
  refine v_iconst dX5_takeNumber_2 (by decide : _ = (0 : Int32)) ?_
  refine v_istore_n dX5_takeNumber_3 rfl (by decide) rfl ?_
  exact v_sub [2, 3, 1, 0] rfl (tb_X5_takeNumber_4 N _ _ _ _ hh)
