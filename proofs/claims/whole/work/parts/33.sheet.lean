def f_X4_laysAs (j : Nat) (k : Nat) (S : St)  : Option (St) :=
  lt (sIA S 400 j (fun i => gI S 400 k i)) fun S1 =>
  lt (sI S1 404 j 0 (gI S1 404 k 0)) fun S2 =>
  lt (sI S2 405 j 0 (gI S2 405 k 0)) fun S3 =>
  lt (sI S3 407 j 0 (gI S3 407 k 0)) fun S4 =>
  some S4
set_option maxRecDepth 100000 in
set_option maxHeartbeats 4000000 in
theorem t_X4_laysAs {l : Launch} {G : v_G} {S : St}  {j : Nat} (hj : j < 66) {k : Nat} (hk : k < 66)  {r : St} (hh : f_X4_laysAs j k S  = some r) : v_M l G yX4_laysAs cX4_laysAs 2 (none) 1 0 0 [.ref (v_B G + (so j)), .ref (v_B G + (so k))] (lay G S) (QV (lay G r)) := by
  refine v_entry (by decide) (Nat.le_of_ble_eq_true rfl) ?_
  unfold f_X4_laysAs at hh
  show V l G yX4_laysAs cX4_laysAs 2 (none) (v_rm 1 0 0) (QV (lay G r)) 0 0 0 [(0, .ref (v_B G + (so j))), (1, .ref (v_B G + (so k)))] [] (lay G S)
  refine v_aload_n 1 dX4_laysAs_0 rfl rfl ?_
  refine r_Sheet_cells hk dX4_laysAs_1 fl_X4_9 ?_
  refine v_iconst dX4_laysAs_4 (by decide : _ = (0 : Int32)) ?_
  refine v_aload_n 0 dX4_laysAs_5 rfl rfl ?_
  refine r_Sheet_cells hj dX4_laysAs_6 fl_X4_9 ?_
  refine v_iconst dX4_laysAs_9 (by decide : _ = (0 : Int32)) ?_
  refine v_bipush dX4_laysAs_10 (by decide : _ = (12 : Int32)) ?_
  refine cp_cells hj hk dX4_laysAs_12 ml_X4_36 (Nat.le_of_ble_eq_true rfl) (Nat.le_of_ble_eq_true rfl) ?_
  replace hh := lt_of hh
  refine v_aload_n 0 dX4_laysAs_15 rfl rfl ?_
  refine v_aload_n 1 dX4_laysAs_16 rfl rfl ?_
  refine r_Sheet_torn hk dX4_laysAs_17 fl_X4_48 ?_
  refine w_Sheet_torn hj dX4_laysAs_20 fl_X4_48 ?_
  replace hh := lt_of hh
  refine v_aload_n 0 dX4_laysAs_23 rfl rfl ?_
  refine v_aload_n 1 dX4_laysAs_24 rfl rfl ?_
  refine r_Sheet_edge hk dX4_laysAs_25 fl_X4_51 ?_
  refine w_Sheet_edge hj dX4_laysAs_28 fl_X4_51 ?_
  replace hh := lt_of hh
  refine v_aload_n 0 dX4_laysAs_31 rfl rfl ?_
  refine v_aload_n 1 dX4_laysAs_32 rfl rfl ?_
  refine r_Sheet_turn hk dX4_laysAs_33 fl_X4_54 ?_
  refine w_Sheet_turn hj dX4_laysAs_36 fl_X4_54 ?_
  replace hh := lt_of hh
  obtain rfl := Option.some.inj hh
  exact v_vret dX4_laysAs_39 rfl (Nat.zero_le _) (Nat.zero_le _) ⟨rfl, rfl⟩
def f_X4_becomes (j : Nat) (k : Nat) (S : St)  : Option (St) :=
  bnd (f_X4_laysAs j k S ) fun q1 =>
 lt (sIA q1 401 j (fun i => gI q1 401 k i)) fun S2 =>
  lt (sLA S2 402 j (fun i => gL S2 402 k i)) fun S3 =>
  lt (sI S3 403 j 0 (gI S3 403 k 0)) fun S4 =>
  lt (sI S4 406 j 0 (gI S4 406 k 0)) fun S5 =>
  lt (sI S5 408 j 0 (gI S5 408 k 0)) fun S6 =>
  some S6
set_option maxRecDepth 100000 in
set_option maxHeartbeats 4000000 in
theorem t_X4_becomes {l : Launch} {G : v_G} {S : St}  {j : Nat} (hj : j < 66) {k : Nat} (hk : k < 66)  {r : St} (hh : f_X4_becomes j k S  = some r) : v_M l G yX4_becomes cX4_becomes 2 (none) 2 0 0 [.ref (v_B G + (so j)), .ref (v_B G + (so k))] (lay G S) (QV (lay G r)) := by
  refine v_entry (by decide) (Nat.le_of_ble_eq_true rfl) ?_
  unfold f_X4_becomes at hh
  show V l G yX4_becomes cX4_becomes 2 (none) (v_rm 2 0 0) (QV (lay G r)) 0 0 0 [(0, .ref (v_B G + (so j))), (1, .ref (v_B G + (so k)))] [] (lay G S)
  refine v_aload_n 0 dX4_becomes_0 rfl rfl ?_
  refine v_aload_n 1 dX4_becomes_1 rfl rfl ?_
  obtain ⟨q1, eq1, hh⟩ := bnd_some hh
  refine v_callVv (t_X4_laysAs hj hk eq1) dX4_becomes_2 y_X4_laysAs ml_X4_32 (ci := 3) rfl rfl (e_Sheet hj) rfl rfl (Nat.le_of_ble_eq_true rfl) ⟨(Nat.le_of_ble_eq_true rfl), (Nat.le_of_ble_eq_true rfl)⟩ ⟨Nat.zero_le _, Nat.zero_le _⟩ ?_
  refine v_aload_n 1 dX4_becomes_5 rfl rfl ?_
  refine r_Sheet_homes hk dX4_becomes_6 fl_X4_15 ?_
  refine v_iconst dX4_becomes_9 (by decide : _ = (0 : Int32)) ?_
  refine v_aload_n 0 dX4_becomes_10 rfl rfl ?_
  refine r_Sheet_homes hj dX4_becomes_11 fl_X4_15 ?_
  refine v_iconst dX4_becomes_14 (by decide : _ = (0 : Int32)) ?_
  refine v_bipush dX4_becomes_15 (by decide : _ = (6 : Int32)) ?_
  refine cp_homes hj hk dX4_becomes_17 ml_X4_36 (Nat.le_of_ble_eq_true rfl) (Nat.le_of_ble_eq_true rfl) ?_
  replace hh := lt_of hh
  refine v_aload_n 1 dX4_becomes_20 rfl rfl ?_
  refine r_Sheet_book hk dX4_becomes_21 fl_X4_18 ?_
  refine v_iconst dX4_becomes_24 (by decide : _ = (0 : Int32)) ?_
  refine v_aload_n 0 dX4_becomes_25 rfl rfl ?_
  refine r_Sheet_book hj dX4_becomes_26 fl_X4_18 ?_
  refine v_iconst dX4_becomes_29 (by decide : _ = (0 : Int32)) ?_
  refine v_bipush dX4_becomes_30 (by decide : _ = (30 : Int32)) ?_
  refine cp_book hj hk dX4_becomes_32 ml_X4_36 (Nat.le_of_ble_eq_true rfl) (Nat.le_of_ble_eq_true rfl) ?_
  replace hh := lt_of hh
  refine v_aload_n 0 dX4_becomes_35 rfl rfl ?_
  refine v_aload_n 1 dX4_becomes_36 rfl rfl ?_
  refine r_Sheet_written hk dX4_becomes_37 fl_X4_42 ?_
  refine w_Sheet_written hj dX4_becomes_40 fl_X4_42 ?_
  replace hh := lt_of hh
  refine v_aload_n 0 dX4_becomes_43 rfl rfl ?_
  refine v_aload_n 1 dX4_becomes_44 rfl rfl ?_
  refine r_Sheet_ball hk dX4_becomes_45 fl_X4_45 ?_
  refine w_Sheet_ball hj dX4_becomes_48 fl_X4_45 ?_
  replace hh := lt_of hh
  refine v_aload_n 0 dX4_becomes_51 rfl rfl ?_
  refine v_aload_n 1 dX4_becomes_52 rfl rfl ?_
  refine r_Sheet_draw hk dX4_becomes_53 fl_X4_22 ?_
  refine w_Sheet_draw hj dX4_becomes_56 fl_X4_22 ?_
  replace hh := lt_of hh
  obtain rfl := Option.some.inj hh
  exact v_vret dX4_becomes_59 rfl (Nat.zero_le _) (Nat.zero_le _) ⟨rfl, rfl⟩
def f_X4_unlike_b21 (N : Nat) (j : Nat) (k : Nat) : Nat → Int32 → Int32 → St → Option (Int32)
  | 0, _, _, _ => none
  | n + 1, x2, x3, S =>
  if (12 : Int32) ≤ x3 then
  (some x2)
  else
  (chk (inb x3 12) (
  chk (inb x3 12) (
  if (gI S 400 j x3.toNatClampNeg) = (gI S 400 k x3.toNatClampNeg) then
  (lt (x3 + (1 : Int32)) fun v3 =>
  f_X4_unlike_b21 N j k n x2 v3 S)
  else
  (lt (x2 ||| ((1 : Int32) <<< (x3 &&& 31))) fun v4 =>
  lt (x3 + (1 : Int32)) fun v5 =>
  f_X4_unlike_b21 N j k n v4 v5 S))))
set_option maxRecDepth 100000 in
set_option maxHeartbeats 4000000 in
theorem tb_X4_unlike_21 {l : Launch} {G : v_G} {N : Nat}  {j : Nat} (hj : j < 66) {k : Nat} (hk : k < 66)  {r : Int32} {S0 : St}   : ∀ (n : Nat) (x2 : Int32) (x3 : Int32) (S : St),  S = S0 → f_X4_unlike_b21 N j k n x2 x3 S = some r → V l G yX4_unlike cX4_unlike 4 (some .int) (v_rm 0 0 0) (QI r (lay G S0)) 0 0 21 [(0, .ref (v_B G + (so j))), (1, .ref (v_B G + (so k))), (2, .int x2), (3, .int x3)] [] (lay G S) := by
  intro n
  induction n with
  | zero =>
    intro x2 x3 S  hS0 hh
    rw [f_X4_unlike_b21] at hh
    cases hh
  | succ n ih =>
    intro x2 x3 S  hS0 hh
    rw [f_X4_unlike_b21] at hh
    refine v_iload_n 3 dX4_unlike_21 rfl rfl ?_
    refine v_bipush dX4_unlike_22 (by decide : _ = (12 : Int32)) ?_
    refine v_icmp_ge (tgt := 54) dX4_unlike_24 (by decide) (fun c => ?_) (fun c => ?_)
    · replace hh := (if_pos c).symm.trans hh
      refine v_iload_n 2 dX4_unlike_54 rfl rfl ?_
      obtain rfl := Option.some.inj hh
      exact v_iret dX4_unlike_55 rfl (Nat.zero_le _) (Nat.zero_le _) ⟨rfl, by rw [hS0]⟩
    · replace hh := (if_neg c).symm.trans hh
      refine v_aload_n 0 dX4_unlike_27 rfl rfl ?_
      refine r_Sheet_cells hj dX4_unlike_28 fl_X4_9 ?_
      refine v_iload_n 3 dX4_unlike_31 rfl rfl ?_
      obtain ⟨g1, hh⟩ := chk_some hh
      replace g1 := inb_in g1
      refine ld_cells hj dX4_unlike_32 g1 ?_
      refine v_aload_n 1 dX4_unlike_33 rfl rfl ?_
      refine r_Sheet_cells hk dX4_unlike_34 fl_X4_9 ?_
      refine v_iload_n 3 dX4_unlike_37 rfl rfl ?_
      obtain ⟨g2, hh⟩ := chk_some hh
      replace g2 := inb_in g2
      refine ld_cells hk dX4_unlike_38 g2 ?_
      refine v_icmp_eq (tgt := 48) dX4_unlike_39 (by decide) (fun c => ?_) (fun c => ?_)
      · replace hh := (if_pos c).symm.trans hh
        refine v_iinc (v := _ + (1 : Int32)) 3 dX4_unlike_48 rfl rfl (by decide) rfl ?_
        replace hh := lt_of hh
        refine v_goto (tgt := 21) dX4_unlike_51 (by decide) ?_
        exact v_sub [1, 2, 3, 0] rfl (ih _ _ _ hS0 hh)
      · replace hh := (if_neg c).symm.trans hh
        refine v_iload_n 2 dX4_unlike_42 rfl rfl ?_
        refine v_iconst dX4_unlike_43 (by decide : _ = (1 : Int32)) ?_
        refine v_iload_n 3 dX4_unlike_44 rfl rfl ?_
        refine v_ishl dX4_unlike_45 ?_
        refine v_ior dX4_unlike_46 ?_
        refine v_istore_n dX4_unlike_47 rfl (by decide) rfl ?_
        replace hh := lt_of hh
        refine v_iinc (v := _ + (1 : Int32)) 3 dX4_unlike_48 rfl rfl (by decide) rfl ?_
        replace hh := lt_of hh
        refine v_goto (tgt := 21) dX4_unlike_51 (by decide) ?_
        exact v_sub [2, 3, 1, 0] rfl (ih _ _ _ hS0 hh)
def f_X4_unlike (N : Nat) (j : Nat) (k : Nat) (S : St)  : Option (Int32) :=
  if (gI S 405 j 0) = (gI S 405 k 0) then
  (f_X4_unlike_b21 N j k N (0 : Int32) (0 : Int32) S)
  else
  (f_X4_unlike_b21 N j k N (4096 : Int32) (0 : Int32) S)
set_option maxRecDepth 100000 in
set_option maxHeartbeats 4000000 in
theorem t_X4_unlike {l : Launch} {G : v_G} {N : Nat} {S : St}  {j : Nat} (hj : j < 66) {k : Nat} (hk : k < 66)  {r : Int32} (hh : f_X4_unlike N j k S  = some r) : v_M l G yX4_unlike cX4_unlike 4 (some .int) 0 0 0 [.ref (v_B G + (so j)), .ref (v_B G + (so k))] (lay G S) (QI r (lay G S)) := by
  refine v_entry (by decide) (Nat.le_of_ble_eq_true rfl) ?_
  unfold f_X4_unlike at hh
  show V l G yX4_unlike cX4_unlike 4 (some .int) (v_rm 0 0 0) (QI r (lay G S)) 0 0 0 [(0, .ref (v_B G + (so j))), (1, .ref (v_B G + (so k)))] [] (lay G S)
  refine v_aload_n 0 dX4_unlike_0 rfl rfl ?_
  refine r_Sheet_edge hj dX4_unlike_1 fl_X4_51 ?_
  refine v_aload_n 1 dX4_unlike_4 rfl rfl ?_
  refine r_Sheet_edge hk dX4_unlike_5 fl_X4_51 ?_
  refine v_icmp_ne (tgt := 15) dX4_unlike_8 (by decide) (fun c => ?_) (fun c => ?_)
  · replace hh := (if_neg c).symm.trans hh
    refine v_sipush dX4_unlike_15 (by decide : _ = (4096 : Int32)) ?_
    refine v_istore_n dX4_unlike_18 rfl (by decide) rfl ?_
    refine v_iconst dX4_unlike_19 (by decide : _ = (0 : Int32)) ?_
    refine v_istore_n dX4_unlike_20 rfl (by decide) rfl ?_
    exact v_sub [2, 3, 1, 0] rfl (tb_X4_unlike_21 hj hk N _ _ _ rfl hh)
  · replace hh := (if_pos c).symm.trans hh
    refine v_iconst dX4_unlike_11 (by decide : _ = (0 : Int32)) ?_
    refine v_goto (tgt := 18) dX4_unlike_12 (by decide) ?_
    refine v_istore_n dX4_unlike_18 rfl (by decide) rfl ?_
    refine v_iconst dX4_unlike_19 (by decide : _ = (0 : Int32)) ?_
    refine v_istore_n dX4_unlike_20 rfl (by decide) rfl ?_
    exact v_sub [2, 3, 1, 0] rfl (tb_X4_unlike_21 hj hk N _ _ _ rfl hh)
def f_X4_laysLike (N : Nat) (j : Nat) (k : Nat) (S : St)  : Option (Int32) :=
  if (gI S 404 j 0) = (gI S 404 k 0) then
  (bnd (f_X4_unlike N j k S ) fun q1 =>
 if q1 = (0 : Int32) then
  (some (1 : Int32))
  else
  (some (0 : Int32)))
  else
  (some (0 : Int32))
set_option maxRecDepth 100000 in
set_option maxHeartbeats 4000000 in
theorem t_X4_laysLike {l : Launch} {G : v_G} {N : Nat} {S : St}  {j : Nat} (hj : j < 66) {k : Nat} (hk : k < 66)  {r : Int32} (hh : f_X4_laysLike N j k S  = some r) : v_M l G yX4_laysLike cX4_laysLike 2 (some .boolean) 1 0 0 [.ref (v_B G + (so j)), .ref (v_B G + (so k))] (lay G S) (QI r (lay G S)) := by
  refine v_entry (by decide) (Nat.le_of_ble_eq_true rfl) ?_
  unfold f_X4_laysLike at hh
  show V l G yX4_laysLike cX4_laysLike 2 (some .boolean) (v_rm 1 0 0) (QI r (lay G S)) 0 0 0 [(0, .ref (v_B G + (so j))), (1, .ref (v_B G + (so k)))] [] (lay G S)
  refine v_aload_n 0 dX4_laysLike_0 rfl rfl ?_
  refine r_Sheet_torn hj dX4_laysLike_1 fl_X4_48 ?_
  refine v_aload_n 1 dX4_laysLike_4 rfl rfl ?_
  refine r_Sheet_torn hk dX4_laysLike_5 fl_X4_48 ?_
  refine v_icmp_ne (tgt := 23) dX4_laysLike_8 (by decide) (fun c => ?_) (fun c => ?_)
  · replace hh := (if_neg c).symm.trans hh
    refine v_iconst dX4_laysLike_23 (by decide : _ = (0 : Int32)) ?_
    obtain rfl := Option.some.inj hh
    exact v_zret dX4_laysLike_24 rfl (zb (by decide)).1 (Nat.zero_le _) (Nat.zero_le _) ⟨rfl, rfl⟩
  · replace hh := (if_pos c).symm.trans hh
    refine v_aload_n 0 dX4_laysLike_11 rfl rfl ?_
    refine v_aload_n 1 dX4_laysLike_12 rfl rfl ?_
    obtain ⟨q1, eq1, hh⟩ := bnd_some hh
    refine v_callVi (t_X4_unlike hj hk eq1) dX4_laysLike_13 y_X4_unlike ml_X4_57 (ci := 3) rfl rfl (e_Sheet hj) rfl rfl (Nat.le_of_ble_eq_true rfl) ⟨(Nat.le_of_ble_eq_true rfl), (Nat.le_of_ble_eq_true rfl)⟩ ⟨Nat.zero_le _, Nat.zero_le _⟩ ?_
    refine v_if_ne (tgt := 23) dX4_laysLike_16 (by decide) (fun c => ?_) (fun c => ?_)
    · replace hh := (if_neg c).symm.trans hh
      refine v_iconst dX4_laysLike_23 (by decide : _ = (0 : Int32)) ?_
      obtain rfl := Option.some.inj hh
      exact v_zret dX4_laysLike_24 rfl (zb (by decide)).1 (Nat.zero_le _) (Nat.zero_le _) ⟨rfl, rfl⟩
    · replace hh := (if_pos c).symm.trans hh
      refine v_iconst dX4_laysLike_19 (by decide : _ = (1 : Int32)) ?_
      refine v_goto (tgt := 24) dX4_laysLike_20 (by decide) ?_
      obtain rfl := Option.some.inj hh
      exact v_zret dX4_laysLike_24 rfl (zb (by decide)).1 (Nat.zero_le _) (Nat.zero_le _) ⟨rfl, rfl⟩
def f_X4_drawn (j : Nat) (S : St)  : Option (Int32 × St) :=
  lt (gI S 408 j 0) fun v1 =>
  lt (sI S 408 j 0 (((v1 * (541 : Int32)) + (419 : Int32)) - ((v1 * (541 : Int32)) + (419 : Int32)) / (30713 : Int32) * (30713 : Int32))) fun S2 =>
  some (v1, S2)
set_option maxRecDepth 100000 in
set_option maxHeartbeats 4000000 in
theorem t_X4_drawn {l : Launch} {G : v_G} {S : St}  {j : Nat} (hj : j < 66)  {r : Int32 × St} (hh : f_X4_drawn j S  = some r) : v_M l G yX4_drawn cX4_drawn 2 (some .int) 0 0 0 [.ref (v_B G + (so j))] (lay G S) (QI r.1 (lay G r.2)) := by
  refine v_entry (by decide) (Nat.le_of_ble_eq_true rfl) ?_
  unfold f_X4_drawn at hh
  show V l G yX4_drawn cX4_drawn 2 (some .int) (v_rm 0 0 0) (QI r.1 (lay G r.2)) 0 0 0 [(0, .ref (v_B G + (so j)))] [] (lay G S)
  refine v_aload_n 0 dX4_drawn_0 rfl rfl ?_
  refine r_Sheet_draw hj dX4_drawn_1 fl_X4_22 ?_
  refine v_istore_n dX4_drawn_4 rfl (by decide) rfl ?_
  replace hh := lt_of hh
  refine v_aload_n 1 dX4_drawn_5 rfl rfl ?_
  refine v_iload_n 0 dX4_drawn_6 rfl rfl ?_
  refine v_sipush dX4_drawn_7 (by decide : _ = (541 : Int32)) ?_
  refine v_imul dX4_drawn_10 ?_
  refine v_sipush dX4_drawn_11 (by decide : _ = (419 : Int32)) ?_
  refine v_iadd dX4_drawn_14 ?_
  refine v_sipush dX4_drawn_15 (by decide : _ = (30713 : Int32)) ?_
  refine v_irem dX4_drawn_18 (by decide) ?_
  refine w_Sheet_draw hj dX4_drawn_19 fl_X4_22 ?_
  replace hh := lt_of hh
  refine v_iload_n 0 dX4_drawn_22 rfl rfl ?_
  obtain rfl := Option.some.inj hh
  exact v_iret dX4_drawn_23 rfl (Nat.zero_le _) (Nat.zero_le _) ⟨rfl, rfl⟩
def f_X4_cutOff (j : Nat) (S : St)  : Option (St) :=
  lt (sI S 406 j 0 ((gI S 406 j 0) + (gI S 405 j 0))) fun S1 =>
  lt (sI S1 405 j 0 (0 : Int32)) fun S2 =>
  some S2
set_option maxRecDepth 100000 in
set_option maxHeartbeats 4000000 in
theorem t_X4_cutOff {l : Launch} {G : v_G} {S : St}  {j : Nat} (hj : j < 66)  {r : St} (hh : f_X4_cutOff j S  = some r) : v_M l G yX4_cutOff cX4_cutOff 1 (none) 0 0 0 [.ref (v_B G + (so j))] (lay G S) (QV (lay G r)) := by
  refine v_entry (by decide) (Nat.le_of_ble_eq_true rfl) ?_
  unfold f_X4_cutOff at hh
  show V l G yX4_cutOff cX4_cutOff 1 (none) (v_rm 0 0 0) (QV (lay G r)) 0 0 0 [(0, .ref (v_B G + (so j)))] [] (lay G S)
  refine v_aload_n 0 dX4_cutOff_0 rfl rfl ?_
  refine v_dup dX4_cutOff_1 rfl ?_
  refine r_Sheet_ball hj dX4_cutOff_2 fl_X4_45 ?_
  refine v_aload_n 0 dX4_cutOff_5 rfl rfl ?_
  refine r_Sheet_edge hj dX4_cutOff_6 fl_X4_51 ?_
  refine v_iadd dX4_cutOff_9 ?_
  refine w_Sheet_ball hj dX4_cutOff_10 fl_X4_45 ?_
  replace hh := lt_of hh
  refine v_aload_n 0 dX4_cutOff_13 rfl rfl ?_
  refine v_iconst dX4_cutOff_14 (by decide : _ = (0 : Int32)) ?_
  refine w_Sheet_edge hj dX4_cutOff_15 fl_X4_51 ?_
  replace hh := lt_of hh
  obtain rfl := Option.some.inj hh
  exact v_vret dX4_cutOff_18 rfl (Nat.zero_le _) (Nat.zero_le _) ⟨rfl, rfl⟩
def f_X4_canMend (j : Nat) (S : St) (x1 : Int32) (x2 : Int32) : Option (Int32) :=
  if (((gI S 404 j 0) >>> (x1 &&& 31)) &&& (1 : Int32)) = (1 : Int32) then
  (if (gI S 406 j 0) < x2 then
  (some (0 : Int32))
  else
  (some (1 : Int32)))
  else
  (some (0 : Int32))
set_option maxRecDepth 100000 in
set_option maxHeartbeats 4000000 in
theorem t_X4_canMend {l : Launch} {G : v_G} {S : St}  {j : Nat} (hj : j < 66) {x1 : Int32} {x2 : Int32} {r : Int32} (hh : f_X4_canMend j S x1 x2 = some r) : v_M l G yX4_canMend cX4_canMend 3 (some .boolean) 0 0 0 [.ref (v_B G + (so j)), .int x1, .int x2] (lay G S) (QI r (lay G S)) := by
  refine v_entry (by decide) (Nat.le_of_ble_eq_true rfl) ?_
  unfold f_X4_canMend at hh
  show V l G yX4_canMend cX4_canMend 3 (some .boolean) (v_rm 0 0 0) (QI r (lay G S)) 0 0 0 [(0, .ref (v_B G + (so j))), (1, .int x1), (2, .int x2)] [] (lay G S)
  refine v_aload_n 0 dX4_canMend_0 rfl rfl ?_
  refine r_Sheet_torn hj dX4_canMend_1 fl_X4_48 ?_
  refine v_iload_n 1 dX4_canMend_4 rfl rfl ?_
  refine v_ishr dX4_canMend_5 ?_
  refine v_iconst dX4_canMend_6 (by decide : _ = (1 : Int32)) ?_
  refine v_iand dX4_canMend_7 ?_
  refine v_iconst dX4_canMend_8 (by decide : _ = (1 : Int32)) ?_
  refine v_icmp_ne (tgt := 24) dX4_canMend_9 (by decide) (fun c => ?_) (fun c => ?_)
  · replace hh := (if_neg c).symm.trans hh
    refine v_iconst dX4_canMend_24 (by decide : _ = (0 : Int32)) ?_
    obtain rfl := Option.some.inj hh
    exact v_zret dX4_canMend_25 rfl (zb (by decide)).1 (Nat.zero_le _) (Nat.zero_le _) ⟨rfl, rfl⟩
  · replace hh := (if_pos c).symm.trans hh
    refine v_aload_n 0 dX4_canMend_12 rfl rfl ?_
    refine r_Sheet_ball hj dX4_canMend_13 fl_X4_45 ?_
    refine v_iload_n 2 dX4_canMend_16 rfl rfl ?_
    refine v_icmp_lt (tgt := 24) dX4_canMend_17 (by decide) (fun c => ?_) (fun c => ?_)
    · replace hh := (if_pos c).symm.trans hh
      refine v_iconst dX4_canMend_24 (by decide : _ = (0 : Int32)) ?_
      obtain rfl := Option.some.inj hh
      exact v_zret dX4_canMend_25 rfl (zb (by decide)).1 (Nat.zero_le _) (Nat.zero_le _) ⟨rfl, rfl⟩
    · replace hh := (if_neg c).symm.trans hh
      refine v_iconst dX4_canMend_20 (by decide : _ = (1 : Int32)) ?_
      refine v_goto (tgt := 25) dX4_canMend_21 (by decide) ?_
      obtain rfl := Option.some.inj hh
      exact v_zret dX4_canMend_25 rfl (zb (by decide)).1 (Nat.zero_le _) (Nat.zero_le _) ⟨rfl, rfl⟩
def f_X4_mend (j : Nat) (S : St) (x1 : Int32) (x2 : Int32) : Option (St) :=
  lt (sI S 406 j 0 ((gI S 406 j 0) - x2)) fun S1 =>
  chk (inb x1 12) (
  chk (inb x1 12) (
  lt (sI S1 400 j x1.toNatClampNeg ((gI S1 400 j x1.toNatClampNeg) + x2)) fun S4 =>
  lt (sI S4 404 j 0 ((gI S4 404 j 0) &&& (((1 : Int32) <<< (x1 &&& 31)) ^^^ (-1 : Int32)))) fun S5 =>
  some S5))
set_option maxRecDepth 100000 in
set_option maxHeartbeats 4000000 in
theorem t_X4_mend {l : Launch} {G : v_G} {S : St}  {j : Nat} (hj : j < 66) {x1 : Int32} {x2 : Int32} {r : St} (hh : f_X4_mend j S x1 x2 = some r) : v_M l G yX4_mend cX4_mend 3 (none) 0 0 0 [.ref (v_B G + (so j)), .int x1, .int x2] (lay G S) (QV (lay G r)) := by
  refine v_entry (by decide) (Nat.le_of_ble_eq_true rfl) ?_
  unfold f_X4_mend at hh
  show V l G yX4_mend cX4_mend 3 (none) (v_rm 0 0 0) (QV (lay G r)) 0 0 0 [(0, .ref (v_B G + (so j))), (1, .int x1), (2, .int x2)] [] (lay G S)
  refine v_aload_n 0 dX4_mend_0 rfl rfl ?_
  refine v_dup dX4_mend_1 rfl ?_
  refine r_Sheet_ball hj dX4_mend_2 fl_X4_45 ?_
  refine v_iload_n 2 dX4_mend_5 rfl rfl ?_
  refine v_isub dX4_mend_6 ?_
  refine w_Sheet_ball hj dX4_mend_7 fl_X4_45 ?_
  replace hh := lt_of hh
  refine v_aload_n 0 dX4_mend_10 rfl rfl ?_
  refine r_Sheet_cells hj dX4_mend_11 fl_X4_9 ?_
  refine v_iload_n 1 dX4_mend_14 rfl rfl ?_
  refine v_dup2 dX4_mend_15 rfl rfl ?_
  obtain ⟨g2, hh⟩ := chk_some hh
  replace g2 := inb_in g2
  refine ld_cells hj dX4_mend_16 g2 ?_
  refine v_iload_n 2 dX4_mend_17 rfl rfl ?_
  refine v_iadd dX4_mend_18 ?_
  obtain ⟨g3, hh⟩ := chk_some hh
  replace g3 := inb_in g3
  refine st_cells hj dX4_mend_19 g3 ?_
  replace hh := lt_of hh
  refine v_aload_n 0 dX4_mend_20 rfl rfl ?_
  refine v_dup dX4_mend_21 rfl ?_
  refine r_Sheet_torn hj dX4_mend_22 fl_X4_48 ?_
  refine v_iconst dX4_mend_25 (by decide : _ = (1 : Int32)) ?_
  refine v_iload_n 1 dX4_mend_26 rfl rfl ?_
  refine v_ishl dX4_mend_27 ?_
  refine v_iconst dX4_mend_28 (by decide : _ = (-1 : Int32)) ?_
  refine v_ixor dX4_mend_29 ?_
  refine v_iand dX4_mend_30 ?_
  refine w_Sheet_torn hj dX4_mend_31 fl_X4_48 ?_
  replace hh := lt_of hh
  obtain rfl := Option.some.inj hh
  exact v_vret dX4_mend_34 rfl (Nat.zero_le _) (Nat.zero_le _) ⟨rfl, rfl⟩
def f_X4_carryTowns_b2 (N : Nat) (j : Nat) : Nat → Int32 → Int32 → Int32 → St → Option (St)
  | 0, _, _, _, _ => none
  | n + 1, x1, x2, x3, S =>
  if (6 : Int32) ≤ x3 then
  (some S)
  else
  (chk (inb x3 6) (
  if (gI S 401 j x3.toNatClampNeg) = x1 then
  (chk (inb x3 6) (
  lt (sI S 401 j x3.toNatClampNeg x2) fun S4 =>
  lt (x3 + (1 : Int32)) fun v5 =>
  f_X4_carryTowns_b2 N j n x1 x2 v5 S4))
  else
  (lt (x3 + (1 : Int32)) fun v2 =>
  f_X4_carryTowns_b2 N j n x1 x2 v2 S)))
set_option maxRecDepth 100000 in
set_option maxHeartbeats 4000000 in
theorem tb_X4_carryTowns_2 {l : Launch} {G : v_G} {N : Nat}  {j : Nat} (hj : j < 66)  {r : St}   : ∀ (n : Nat) (x1 : Int32) (x2 : Int32) (x3 : Int32) (S : St),  f_X4_carryTowns_b2 N j n x1 x2 x3 S = some r → V l G yX4_carryTowns cX4_carryTowns 4 (none) (v_rm 0 0 0) (QV (lay G r)) 0 0 2 [(0, .ref (v_B G + (so j))), (1, .int x1), (2, .int x2), (3, .int x3)] [] (lay G S) := by
  intro n
  induction n with
  | zero =>
    intro x1 x2 x3 S  hh
    rw [f_X4_carryTowns_b2] at hh
    cases hh
  | succ n ih =>
    intro x1 x2 x3 S  hh
    rw [f_X4_carryTowns_b2] at hh
    refine v_iload_n 3 dX4_carryTowns_2 rfl rfl ?_
    refine v_bipush dX4_carryTowns_3 (by decide : _ = (6 : Int32)) ?_
    refine v_icmp_ge (tgt := 31) dX4_carryTowns_5 (by decide) (fun c => ?_) (fun c => ?_)
    · replace hh := (if_pos c).symm.trans hh
      obtain rfl := Option.some.inj hh
      exact v_vret dX4_carryTowns_31 rfl (Nat.zero_le _) (Nat.zero_le _) ⟨rfl, rfl⟩
    · replace hh := (if_neg c).symm.trans hh
      refine v_aload_n 0 dX4_carryTowns_8 rfl rfl ?_
      refine r_Sheet_homes hj dX4_carryTowns_9 fl_X4_15 ?_
      refine v_iload_n 3 dX4_carryTowns_12 rfl rfl ?_
      obtain ⟨g1, hh⟩ := chk_some hh
      replace g1 := inb_in g1
      refine ld_homes hj dX4_carryTowns_13 g1 ?_
      refine v_iload_n 1 dX4_carryTowns_14 rfl rfl ?_
      refine v_icmp_ne (tgt := 25) dX4_carryTowns_15 (by decide) (fun c => ?_) (fun c => ?_)
      · replace hh := (if_neg c).symm.trans hh
        refine v_iinc (v := _ + (1 : Int32)) 3 dX4_carryTowns_25 rfl rfl (by decide) rfl ?_
        replace hh := lt_of hh
        refine v_goto (tgt := 2) dX4_carryTowns_28 (by decide) ?_
        exact v_sub [1, 2, 3, 0] rfl (ih _ _ _ _ hh)
      · replace hh := (if_pos c).symm.trans hh
        refine v_aload_n 0 dX4_carryTowns_18 rfl rfl ?_
        refine r_Sheet_homes hj dX4_carryTowns_19 fl_X4_15 ?_
        refine v_iload_n 3 dX4_carryTowns_22 rfl rfl ?_
        refine v_iload_n 2 dX4_carryTowns_23 rfl rfl ?_
        obtain ⟨g3, hh⟩ := chk_some hh
        replace g3 := inb_in g3
        refine st_homes hj dX4_carryTowns_24 g3 ?_
        replace hh := lt_of hh
        refine v_iinc (v := _ + (1 : Int32)) 3 dX4_carryTowns_25 rfl rfl (by decide) rfl ?_
        replace hh := lt_of hh
        refine v_goto (tgt := 2) dX4_carryTowns_28 (by decide) ?_
        exact v_sub [1, 2, 3, 0] rfl (ih _ _ _ _ hh)
def f_X4_carryTowns (N : Nat) (j : Nat) (S : St) (x1 : Int32) (x2 : Int32) : Option (St) :=
  f_X4_carryTowns_b2 N j N x1 x2 (0 : Int32) S
set_option maxRecDepth 100000 in
set_option maxHeartbeats 4000000 in
theorem t_X4_carryTowns {l : Launch} {G : v_G} {N : Nat} {S : St}  {j : Nat} (hj : j < 66) {x1 : Int32} {x2 : Int32} {r : St} (hh : f_X4_carryTowns N j S x1 x2 = some r) : v_M l G yX4_carryTowns cX4_carryTowns 4 (none) 0 0 0 [.ref (v_B G + (so j)), .int x1, .int x2] (lay G S) (QV (lay G r)) := by
  refine v_entry (by decide) (Nat.le_of_ble_eq_true rfl) ?_
  unfold f_X4_carryTowns at hh
  show V l G yX4_carryTowns cX4_carryTowns 4 (none) (v_rm 0 0 0) (QV (lay G r)) 0 0 0 [(0, .ref (v_B G + (so j))), (1, .int x1), (2, .int x2)] [] (lay G S)
  refine v_iconst dX4_carryTowns_0 (by decide : _ = (0 : Int32)) ?_
  refine v_istore_n dX4_carryTowns_1 rfl (by decide) rfl ?_
  exact v_sub [1, 2, 3, 0] rfl (tb_X4_carryTowns_2 hj N _ _ _ _ hh)
def f_X4_townsIn_b4 (N : Nat) (j : Nat) : Nat → Int32 → Int32 → Int32 → St → Option (Int32)
  | 0, _, _, _, _ => none
  | n + 1, x1, x2, x3, S =>
  if (6 : Int32) ≤ x3 then
  (some x2)
  else
  (chk (inb x3 6) (
  if (gI S 401 j x3.toNatClampNeg) = x1 then
  (lt (x2 ||| ((1 : Int32) <<< (x3 &&& 31))) fun v3 =>
  lt (x3 + (1 : Int32)) fun v4 =>
  f_X4_townsIn_b4 N j n x1 v3 v4 S)
  else
  (lt (x3 + (1 : Int32)) fun v2 =>
  f_X4_townsIn_b4 N j n x1 x2 v2 S)))
set_option maxRecDepth 100000 in
set_option maxHeartbeats 4000000 in
theorem tb_X4_townsIn_4 {l : Launch} {G : v_G} {N : Nat}  {j : Nat} (hj : j < 66)  {r : Int32} {S0 : St}   : ∀ (n : Nat) (x1 : Int32) (x2 : Int32) (x3 : Int32) (S : St),  S = S0 → f_X4_townsIn_b4 N j n x1 x2 x3 S = some r → V l G yX4_townsIn cX4_townsIn 4 (some .int) (v_rm 0 0 0) (QI r (lay G S0)) 0 0 4 [(0, .ref (v_B G + (so j))), (1, .int x1), (2, .int x2), (3, .int x3)] [] (lay G S) := by
  intro n
  induction n with
  | zero =>
    intro x1 x2 x3 S  hS0 hh
    rw [f_X4_townsIn_b4] at hh
    cases hh
  | succ n ih =>
    intro x1 x2 x3 S  hS0 hh
    rw [f_X4_townsIn_b4] at hh
    refine v_iload_n 3 dX4_townsIn_4 rfl rfl ?_
    refine v_bipush dX4_townsIn_5 (by decide : _ = (6 : Int32)) ?_
    refine v_icmp_ge (tgt := 32) dX4_townsIn_7 (by decide) (fun c => ?_) (fun c => ?_)
    · replace hh := (if_pos c).symm.trans hh
      refine v_iload_n 2 dX4_townsIn_32 rfl rfl ?_
      obtain rfl := Option.some.inj hh
      exact v_iret dX4_townsIn_33 rfl (Nat.zero_le _) (Nat.zero_le _) ⟨rfl, by rw [hS0]⟩
    · replace hh := (if_neg c).symm.trans hh
      refine v_aload_n 0 dX4_townsIn_10 rfl rfl ?_
      refine r_Sheet_homes hj dX4_townsIn_11 fl_X4_15 ?_
      refine v_iload_n 3 dX4_townsIn_14 rfl rfl ?_
      obtain ⟨g1, hh⟩ := chk_some hh
      replace g1 := inb_in g1
      refine ld_homes hj dX4_townsIn_15 g1 ?_
      refine v_iload_n 1 dX4_townsIn_16 rfl rfl ?_
      refine v_icmp_ne (tgt := 26) dX4_townsIn_17 (by decide) (fun c => ?_) (fun c => ?_)
      · replace hh := (if_neg c).symm.trans hh
        refine v_iinc (v := _ + (1 : Int32)) 3 dX4_townsIn_26 rfl rfl (by decide) rfl ?_
        replace hh := lt_of hh
        refine v_goto (tgt := 4) dX4_townsIn_29 (by decide) ?_
        exact v_sub [1, 2, 3, 0] rfl (ih _ _ _ _ hS0 hh)
      · replace hh := (if_pos c).symm.trans hh
        refine v_iload_n 2 dX4_townsIn_20 rfl rfl ?_
        refine v_iconst dX4_townsIn_21 (by decide : _ = (1 : Int32)) ?_
        refine v_iload_n 3 dX4_townsIn_22 rfl rfl ?_
        refine v_ishl dX4_townsIn_23 ?_
        refine v_ior dX4_townsIn_24 ?_
        refine v_istore_n dX4_townsIn_25 rfl (by decide) rfl ?_
        replace hh := lt_of hh
        refine v_iinc (v := _ + (1 : Int32)) 3 dX4_townsIn_26 rfl rfl (by decide) rfl ?_
        replace hh := lt_of hh
        refine v_goto (tgt := 4) dX4_townsIn_29 (by decide) ?_
        exact v_sub [2, 3, 1, 0] rfl (ih _ _ _ _ hS0 hh)
def f_X4_townsIn (N : Nat) (j : Nat) (S : St) (x1 : Int32) : Option (Int32) :=
  f_X4_townsIn_b4 N j N x1 (0 : Int32) (0 : Int32) S
set_option maxRecDepth 100000 in
set_option maxHeartbeats 4000000 in
theorem t_X4_townsIn {l : Launch} {G : v_G} {N : Nat} {S : St}  {j : Nat} (hj : j < 66) {x1 : Int32} {r : Int32} (hh : f_X4_townsIn N j S x1 = some r) : v_M l G yX4_townsIn cX4_townsIn 4 (some .int) 0 0 0 [.ref (v_B G + (so j)), .int x1] (lay G S) (QI r (lay G S)) := by
  refine v_entry (by decide) (Nat.le_of_ble_eq_true rfl) ?_
  unfold f_X4_townsIn at hh
  show V l G yX4_townsIn cX4_townsIn 4 (some .int) (v_rm 0 0 0) (QI r (lay G S)) 0 0 0 [(0, .ref (v_B G + (so j))), (1, .int x1)] [] (lay G S)
  refine v_iconst dX4_townsIn_0 (by decide : _ = (0 : Int32)) ?_
  refine v_istore_n dX4_townsIn_1 rfl (by decide) rfl ?_
  refine v_iconst dX4_townsIn_2 (by decide : _ = (0 : Int32)) ?_
  refine v_istore_n dX4_townsIn_3 rfl (by decide) rfl ?_
  exact v_sub [2, 3, 1, 0] rfl (tb_X4_townsIn_4 hj N _ _ _ _ rfl hh)
def f_X4_nearestTowns_b14 (rec4 : (Int32 → Int32 → St → Option (Int32))) (N : Nat) (j : Nat) : Nat → Int32 → Int32 → Int32 → St → Option (Int32)
  | 0, _, _, _, _ => none
  | n + 1, x1, x2, x3, S =>
  if (6 : Int32) ≤ x3 then
  (lt (x2 + (1 : Int32)) fun v2 =>
  rec4 x1 v2 S)
  else
  (chk (inb x2 6) (
  chk (inb x3 6) (
  lt (if 0 ≤ ((gI S 401 j x2.toNatClampNeg) - (gI S 401 j x3.toNatClampNeg)) then ((gI S 401 j x2.toNatClampNeg) - (gI S 401 j x3.toNatClampNeg)) else 0 - ((gI S 401 j x2.toNatClampNeg) - (gI S 401 j x3.toNatClampNeg))) fun v5 =>
  chk (inb x2 6) (
  if (gI S 401 j x2.toNatClampNeg) < (0 : Int32) then
  (lt (x3 + (1 : Int32)) fun v7 =>
  f_X4_nearestTowns_b14 rec4 N j n x1 x2 v7 S)
  else
  (chk (inb x3 6) (
  if (gI S 401 j x3.toNatClampNeg) < (0 : Int32) then
  (lt (x3 + (1 : Int32)) fun v9 =>
  f_X4_nearestTowns_b14 rec4 N j n x1 x2 v9 S)
  else
  (if x1 = (-1 : Int32) then
  (lt (x3 + (1 : Int32)) fun v10 =>
  f_X4_nearestTowns_b14 rec4 N j n v5 x2 v10 S)
  else
  (if x1 ≤ v5 then
  (lt (x3 + (1 : Int32)) fun v11 =>
  f_X4_nearestTowns_b14 rec4 N j n x1 x2 v11 S)
  else
  (lt (x3 + (1 : Int32)) fun v12 =>
  f_X4_nearestTowns_b14 rec4 N j n v5 x2 v12 S)))))))))
set_option maxRecDepth 100000 in
set_option maxHeartbeats 4000000 in
theorem tb_X4_nearestTowns_14 {l : Launch} {G : v_G} {N : Nat}  {j : Nat} (hj : j < 66)  {r : Int32} {S0 : St} {rec4 : (Int32 → Int32 → St → Option (Int32))} (hrec4 : ∀ (x1 : Int32) (x2 : Int32) (S : St),  S = S0 → rec4 x1 x2 S = some r → V l G yX4_nearestTowns cX4_nearestTowns 5 (some .int) (v_rm 1 0 0) (QI r (lay G S0)) 0 0 4 [(0, .ref (v_B G + (so j))), (1, .int x1), (2, .int x2)] [] (lay G S)) : ∀ (n : Nat) (x1 : Int32) (x2 : Int32) (x3 : Int32) (S : St),  S = S0 → f_X4_nearestTowns_b14 rec4 N j n x1 x2 x3 S = some r → V l G yX4_nearestTowns cX4_nearestTowns 5 (some .int) (v_rm 1 0 0) (QI r (lay G S0)) 0 0 14 [(0, .ref (v_B G + (so j))), (1, .int x1), (2, .int x2), (3, .int x3)] [] (lay G S) := by
  intro n
  induction n with
  | zero =>
    intro x1 x2 x3 S  hS0 hh
    rw [f_X4_nearestTowns_b14] at hh
    cases hh
  | succ n ih =>
    intro x1 x2 x3 S  hS0 hh
    rw [f_X4_nearestTowns_b14] at hh
    refine v_iload_n 3 dX4_nearestTowns_14 rfl rfl ?_
    refine v_bipush dX4_nearestTowns_15 (by decide : _ = (6 : Int32)) ?_
    refine v_icmp_ge (tgt := 76) dX4_nearestTowns_17 (by decide) (fun c => ?_) (fun c => ?_)
    · replace hh := (if_pos c).symm.trans hh
      refine v_iinc (v := _ + (1 : Int32)) 2 dX4_nearestTowns_76 rfl rfl (by decide) rfl ?_
      replace hh := lt_of hh
      refine v_goto (tgt := 4) dX4_nearestTowns_79 (by decide) ?_
      exact v_sub [1, 2, 0] rfl (hrec4 _ _ _ hS0 hh)
    · replace hh := (if_neg c).symm.trans hh
      refine v_aload_n 0 dX4_nearestTowns_20 rfl rfl ?_
      refine r_Sheet_homes hj dX4_nearestTowns_21 fl_X4_15 ?_
      refine v_iload_n 2 dX4_nearestTowns_24 rfl rfl ?_
      obtain ⟨g3, hh⟩ := chk_some hh
      replace g3 := inb_in g3
      refine ld_homes hj dX4_nearestTowns_25 g3 ?_
      refine v_aload_n 0 dX4_nearestTowns_26 rfl rfl ?_
      refine r_Sheet_homes hj dX4_nearestTowns_27 fl_X4_15 ?_
      refine v_iload_n 3 dX4_nearestTowns_30 rfl rfl ?_
      obtain ⟨g4, hh⟩ := chk_some hh
      replace g4 := inb_in g4
      refine ld_homes hj dX4_nearestTowns_31 g4 ?_
      refine v_isub dX4_nearestTowns_32 ?_
      refine v_mabs dX4_nearestTowns_33 ml_X4_61 y_J9_abs_0f7a4.2 y_J9_abs_0f7a4.1.2.1 y_J9_abs_0f7a4.1.1 (Nat.le_of_ble_eq_true rfl) (Nat.le_of_ble_eq_true rfl) (Nat.zero_le _) (Nat.zero_le _) ?_
      replace hh := lt_of hh
      refine v_istore dX4_nearestTowns_36 (by decide) rfl ?_
      refine v_aload_n 1 dX4_nearestTowns_38 rfl rfl ?_
      refine r_Sheet_homes hj dX4_nearestTowns_39 fl_X4_15 ?_
      refine v_iload_n 3 dX4_nearestTowns_42 rfl rfl ?_
      obtain ⟨g6, hh⟩ := chk_some hh
      replace g6 := inb_in g6
      refine ld_homes hj dX4_nearestTowns_43 g6 ?_
      refine v_if_lt (tgt := 70) dX4_nearestTowns_44 (by decide) (fun c => ?_) (fun c => ?_)
      · replace hh := (if_pos c).symm.trans hh
        refine v_iinc (v := _ + (1 : Int32)) 4 dX4_nearestTowns_70 rfl rfl (by decide) rfl ?_
        replace hh := lt_of hh
        refine v_goto (tgt := 14) dX4_nearestTowns_73 (by decide) ?_
        exact v_sub [2, 3, 4, 0] rfl (ih _ _ _ _ hS0 hh)
      · replace hh := (if_neg c).symm.trans hh
        refine v_aload_n 1 dX4_nearestTowns_47 rfl rfl ?_
        refine r_Sheet_homes hj dX4_nearestTowns_48 fl_X4_15 ?_
        refine v_iload_n 4 dX4_nearestTowns_51 rfl rfl ?_
        obtain ⟨g8, hh⟩ := chk_some hh
        replace g8 := inb_in g8
        refine ld_homes hj dX4_nearestTowns_52 g8 ?_
        refine v_if_lt (tgt := 70) dX4_nearestTowns_53 (by decide) (fun c => ?_) (fun c => ?_)
        · replace hh := (if_pos c).symm.trans hh
          refine v_iinc (v := _ + (1 : Int32)) 4 dX4_nearestTowns_70 rfl rfl (by decide) rfl ?_
          replace hh := lt_of hh
          refine v_goto (tgt := 14) dX4_nearestTowns_73 (by decide) ?_
          exact v_sub [2, 3, 4, 0] rfl (ih _ _ _ _ hS0 hh)
        · replace hh := (if_neg c).symm.trans hh
          refine v_iload_n 2 dX4_nearestTowns_56 rfl rfl ?_
          refine v_iconst dX4_nearestTowns_57 (by decide : _ = (-1 : Int32)) ?_
          refine v_icmp_eq (tgt := 67) dX4_nearestTowns_58 (by decide) (fun c => ?_) (fun c => ?_)
          · replace hh := (if_pos c).symm.trans hh
            refine v_iload 0 dX4_nearestTowns_67 rfl ?_
            refine v_istore_n dX4_nearestTowns_69 rfl (by decide) rfl ?_
            refine v_iinc (v := _ + (1 : Int32)) 4 dX4_nearestTowns_70 rfl rfl (by decide) rfl ?_
            replace hh := lt_of hh
            refine v_goto (tgt := 14) dX4_nearestTowns_73 (by decide) ?_
            exact v_sub [3, 1, 4, 0] rfl (ih _ _ _ _ hS0 hh)
          · replace hh := (if_neg c).symm.trans hh
            refine v_iload 0 dX4_nearestTowns_61 rfl ?_
            refine v_iload_n 2 dX4_nearestTowns_63 rfl rfl ?_
            refine v_icmp_ge (tgt := 70) dX4_nearestTowns_64 (by decide) (fun c => ?_) (fun c => ?_)
            · replace hh := (if_pos c).symm.trans hh
              refine v_iinc (v := _ + (1 : Int32)) 4 dX4_nearestTowns_70 rfl rfl (by decide) rfl ?_
              replace hh := lt_of hh
              refine v_goto (tgt := 14) dX4_nearestTowns_73 (by decide) ?_
              exact v_sub [2, 3, 4, 0] rfl (ih _ _ _ _ hS0 hh)
            · replace hh := (if_neg c).symm.trans hh
              refine v_iload 0 dX4_nearestTowns_67 rfl ?_
              refine v_istore_n dX4_nearestTowns_69 rfl (by decide) rfl ?_
              refine v_iinc (v := _ + (1 : Int32)) 4 dX4_nearestTowns_70 rfl rfl (by decide) rfl ?_
              replace hh := lt_of hh
              refine v_goto (tgt := 14) dX4_nearestTowns_73 (by decide) ?_
              exact v_sub [3, 1, 4, 0] rfl (ih _ _ _ _ hS0 hh)
def f_X4_nearestTowns_b4 (N : Nat) (j : Nat) : Nat → Int32 → Int32 → St → Option (Int32)
  | 0, _, _, _ => none
  | n + 1, x1, x2, S =>
  if (6 : Int32) ≤ x2 then
  (some x1)
  else
  (lt (x2 + (1 : Int32)) fun v1 =>
  f_X4_nearestTowns_b14 (f_X4_nearestTowns_b4 N j n) N j N x1 x2 v1 S)
set_option maxRecDepth 100000 in
set_option maxHeartbeats 4000000 in
theorem tb_X4_nearestTowns_4 {l : Launch} {G : v_G} {N : Nat}  {j : Nat} (hj : j < 66)  {r : Int32} {S0 : St}   : ∀ (n : Nat) (x1 : Int32) (x2 : Int32) (S : St),  S = S0 → f_X4_nearestTowns_b4 N j n x1 x2 S = some r → V l G yX4_nearestTowns cX4_nearestTowns 5 (some .int) (v_rm 1 0 0) (QI r (lay G S0)) 0 0 4 [(0, .ref (v_B G + (so j))), (1, .int x1), (2, .int x2)] [] (lay G S) := by
  intro n
  induction n with
  | zero =>
    intro x1 x2 S  hS0 hh
    rw [f_X4_nearestTowns_b4] at hh
    cases hh
  | succ n ih =>
    intro x1 x2 S  hS0 hh
    rw [f_X4_nearestTowns_b4] at hh
    refine v_iload_n 2 dX4_nearestTowns_4 rfl rfl ?_
    refine v_bipush dX4_nearestTowns_5 (by decide : _ = (6 : Int32)) ?_
    refine v_icmp_ge (tgt := 82) dX4_nearestTowns_7 (by decide) (fun c => ?_) (fun c => ?_)
    · replace hh := (if_pos c).symm.trans hh
      refine v_iload_n 1 dX4_nearestTowns_82 rfl rfl ?_
      obtain rfl := Option.some.inj hh
      exact v_iret dX4_nearestTowns_83 rfl (Nat.zero_le _) (Nat.zero_le _) ⟨rfl, by rw [hS0]⟩
    · replace hh := (if_neg c).symm.trans hh
      refine v_iload_n 2 dX4_nearestTowns_10 rfl rfl ?_
      refine v_iconst dX4_nearestTowns_11 (by decide : _ = (1 : Int32)) ?_
      refine v_iadd dX4_nearestTowns_12 ?_
      refine v_istore_n dX4_nearestTowns_13 rfl (by decide) rfl ?_
      replace hh := lt_of hh
      exact v_sub [1, 2, 3, 0] rfl (tb_X4_nearestTowns_14 hj (fun _ _ _ hS hh => ih _ _ _ hS hh) N _ _ _ _ hS0 hh)
def f_X4_nearestTowns (N : Nat) (j : Nat) (S : St)  : Option (Int32) :=
  f_X4_nearestTowns_b4 N j N (-1 : Int32) (0 : Int32) S
set_option maxRecDepth 100000 in
set_option maxHeartbeats 4000000 in
theorem t_X4_nearestTowns {l : Launch} {G : v_G} {N : Nat} {S : St}  {j : Nat} (hj : j < 66)  {r : Int32} (hh : f_X4_nearestTowns N j S  = some r) : v_M l G yX4_nearestTowns cX4_nearestTowns 5 (some .int) 1 0 0 [.ref (v_B G + (so j))] (lay G S) (QI r (lay G S)) := by
  refine v_entry (by decide) (Nat.le_of_ble_eq_true rfl) ?_
  unfold f_X4_nearestTowns at hh
  show V l G yX4_nearestTowns cX4_nearestTowns 5 (some .int) (v_rm 1 0 0) (QI r (lay G S)) 0 0 0 [(0, .ref (v_B G + (so j)))] [] (lay G S)
  refine v_iconst dX4_nearestTowns_0 (by decide : _ = (-1 : Int32)) ?_
  refine v_istore_n dX4_nearestTowns_1 rfl (by decide) rfl ?_
  refine v_iconst dX4_nearestTowns_2 (by decide : _ = (0 : Int32)) ?_
  refine v_istore_n dX4_nearestTowns_3 rfl (by decide) rfl ?_
  exact v_sub [2, 1, 0] rfl (tb_X4_nearestTowns_4 hj N _ _ _ rfl hh)
def f_X4_write (j : Nat) (S : St) (x1 : Int32) (x2 : Int32) (x3 : Int32) : Option (St) :=
  lt ((((((gI S 407 j 0).toInt64) * (4 : Int64)) + x1.toInt64) * (32 : Int64)) + x2.toInt64) fun v1 =>
  chk (inb ((gI S 403 j 0) - (gI S 403 j 0) / (30 : Int32) * (30 : Int32)) 30) (
  lt (sL S 402 j (((gI S 403 j 0) - (gI S 403 j 0) / (30 : Int32) * (30 : Int32)).toNatClampNeg) ((v1 <<< ((32 : Int32).toInt64 &&& 63)) ||| x3.toInt64)) fun S3 =>
  if (60 : Int32) ≤ ((gI S3 403 j 0) + (1 : Int32)) then
  (lt (sI S3 403 j 0 (30 : Int32)) fun S4 =>
  some S4)
  else
  (lt (sI S3 403 j 0 ((gI S3 403 j 0) + (1 : Int32))) fun S5 =>
  some S5))
set_option maxRecDepth 100000 in
set_option maxHeartbeats 4000000 in
theorem t_X4_write {l : Launch} {G : v_G} {S : St}  {j : Nat} (hj : j < 66) {x1 : Int32} {x2 : Int32} {x3 : Int32} {r : St} (hh : f_X4_write j S x1 x2 x3 = some r) : v_M l G yX4_write cX4_write 6 (none) 0 0 0 [.ref (v_B G + (so j)), .int x1, .int x2, .int x3] (lay G S) (QV (lay G r)) := by
  refine v_entry (by decide) (Nat.le_of_ble_eq_true rfl) ?_
  unfold f_X4_write at hh
  show V l G yX4_write cX4_write 6 (none) (v_rm 0 0 0) (QV (lay G r)) 0 0 0 [(0, .ref (v_B G + (so j))), (1, .int x1), (2, .int x2), (3, .int x3)] [] (lay G S)
  refine v_aload_n 0 dX4_write_0 rfl rfl ?_
  refine r_Sheet_turn hj dX4_write_1 fl_X4_54 ?_
  refine v_i2l dX4_write_4 ?_
  refine v_ldc2 dX4_write_5 col_X4_67 ?_
  refine v_lmul dX4_write_8 ?_
  refine v_iload_n 1 dX4_write_9 rfl rfl ?_
  refine v_i2l dX4_write_10 ?_
  refine v_ladd dX4_write_11 ?_
  refine v_ldc2 dX4_write_12 col_X4_69 ?_
  refine v_lmul dX4_write_15 ?_
  refine v_iload_n 2 dX4_write_16 rfl rfl ?_
  refine v_i2l dX4_write_17 ?_
  refine v_ladd dX4_write_18 ?_
  refine v_lstore dX4_write_19 (by decide) rfl ?_
  replace hh := lt_of hh
  refine v_aload_n 1 dX4_write_21 rfl rfl ?_
  refine r_Sheet_book hj dX4_write_22 fl_X4_18 ?_
  refine v_aload_n 1 dX4_write_25 rfl rfl ?_
  refine r_Sheet_written hj dX4_write_26 fl_X4_42 ?_
  refine v_bipush dX4_write_29 (by decide : _ = (30 : Int32)) ?_
  refine v_irem dX4_write_31 (by decide) ?_
  refine v_lload 0 dX4_write_32 rfl ?_
  refine v_bipush dX4_write_34 (by decide : _ = (32 : Int32)) ?_
  refine v_lshl dX4_write_36 ?_
  refine v_iload_n 4 dX4_write_37 rfl rfl ?_
  refine v_i2l dX4_write_38 ?_
  refine v_lor dX4_write_39 ?_
  obtain ⟨g2, hh⟩ := chk_some hh
  replace g2 := inb_in g2
  refine st_book hj dX4_write_40 g2 ?_
  replace hh := lt_of hh
  refine v_aload_n 1 dX4_write_41 rfl rfl ?_
  refine v_aload_n 1 dX4_write_42 rfl rfl ?_
  refine r_Sheet_written hj dX4_write_43 fl_X4_42 ?_
  refine v_iconst dX4_write_46 (by decide : _ = (1 : Int32)) ?_
  refine v_iadd dX4_write_47 ?_
  refine v_bipush dX4_write_48 (by decide : _ = (60 : Int32)) ?_
  refine v_icmp_ge (tgt := 62) dX4_write_50 (by decide) (fun c => ?_) (fun c => ?_)
  · replace hh := (if_pos c).symm.trans hh
    refine v_bipush dX4_write_62 (by decide : _ = (30 : Int32)) ?_
    refine w_Sheet_written hj dX4_write_64 fl_X4_42 ?_
    replace hh := lt_of hh
    obtain rfl := Option.some.inj hh
    exact v_vret dX4_write_67 rfl (Nat.zero_le _) (Nat.zero_le _) ⟨rfl, rfl⟩
  · replace hh := (if_neg c).symm.trans hh
    refine v_aload_n 1 dX4_write_53 rfl rfl ?_
    refine r_Sheet_written hj dX4_write_54 fl_X4_42 ?_
    refine v_iconst dX4_write_57 (by decide : _ = (1 : Int32)) ?_
    refine v_iadd dX4_write_58 ?_
    refine v_goto (tgt := 64) dX4_write_59 (by decide) ?_
    refine w_Sheet_written hj dX4_write_64 fl_X4_42 ?_
    replace hh := lt_of hh
    obtain rfl := Option.some.inj hh
    exact v_vret dX4_write_67 rfl (Nat.zero_le _) (Nat.zero_le _) ⟨rfl, rfl⟩
def f_X4_bookSize (j : Nat) (S : St)  : Option (Int32) :=
  lt (if (30 : Int32) < (gI S 403 j 0) then (30 : Int32) else (gI S 403 j 0)) fun v1 =>
  some v1
set_option maxRecDepth 100000 in
set_option maxHeartbeats 4000000 in
theorem t_X4_bookSize {l : Launch} {G : v_G} {S : St}  {j : Nat} (hj : j < 66)  {r : Int32} (hh : f_X4_bookSize j S  = some r) : v_M l G yX4_bookSize cX4_bookSize 1 (some .int) 1 0 0 [.ref (v_B G + (so j))] (lay G S) (QI r (lay G S)) := by
  refine v_entry (by decide) (Nat.le_of_ble_eq_true rfl) ?_
  unfold f_X4_bookSize at hh
  show V l G yX4_bookSize cX4_bookSize 1 (some .int) (v_rm 1 0 0) (QI r (lay G S)) 0 0 0 [(0, .ref (v_B G + (so j)))] [] (lay G S)
  refine v_aload_n 0 dX4_bookSize_0 rfl rfl ?_
  refine r_Sheet_written hj dX4_bookSize_1 fl_X4_42 ?_
  refine v_bipush dX4_bookSize_4 (by decide : _ = (30 : Int32)) ?_
  refine v_mmin dX4_bookSize_6 ml_X4_71 y_J9_min_7cf53.2 y_J9_min_7cf53.1.2.1 y_J9_min_7cf53.1.1 (Nat.le_of_ble_eq_true rfl) (Nat.le_of_ble_eq_true rfl) (Nat.zero_le _) (Nat.zero_le _) ?_
  replace hh := lt_of hh
  obtain rfl := Option.some.inj hh
  exact v_iret dX4_bookSize_9 rfl (Nat.zero_le _) (Nat.zero_le _) ⟨rfl, rfl⟩
def f_X4_bookPart (j : Nat) (S : St) (x1 : Int32) (x2 : Int32) : Option (Int32) :=
  bnd (f_X4_bookSize j S ) fun q1 =>
 chk (inb ((((gI S 403 j 0) - q1) + x1) - (((gI S 403 j 0) - q1) + x1) / (30 : Int32) * (30 : Int32)) 30) (
  lt (gL S 402 j ((((gI S 403 j 0) - q1) + x1) - (((gI S 403 j 0) - q1) + x1) / (30 : Int32) * (30 : Int32)).toNatClampNeg) fun v3 =>
  lt ((v3 >>> ((32 : Int32).toInt64 &&& 63)).toInt32) fun v4 =>
  if x2 = (0 : Int32) then
  (some (v4 >>> ((7 : Int32) &&& 31)))
  else if x2 = (1 : Int32) then
  (some ((v4 >>> ((5 : Int32) &&& 31)) &&& (3 : Int32)))
  else if x2 = (2 : Int32) then
  (some (v4 &&& (31 : Int32)))
  else (some v3.toInt32))
set_option maxRecDepth 100000 in
set_option maxHeartbeats 4000000 in
theorem t_X4_bookPart {l : Launch} {G : v_G} {S : St}  {j : Nat} (hj : j < 66) {x1 : Int32} {x2 : Int32} {r : Int32} (hh : f_X4_bookPart j S x1 x2 = some r) : v_M l G yX4_bookPart cX4_bookPart 6 (some .int) 2 0 0 [.ref (v_B G + (so j)), .int x1, .int x2] (lay G S) (QI r (lay G S)) := by
  refine v_entry (by decide) (Nat.le_of_ble_eq_true rfl) ?_
  unfold f_X4_bookPart at hh
  show V l G yX4_bookPart cX4_bookPart 6 (some .int) (v_rm 2 0 0) (QI r (lay G S)) 0 0 0 [(0, .ref (v_B G + (so j))), (1, .int x1), (2, .int x2)] [] (lay G S)
  refine v_aload_n 0 dX4_bookPart_0 rfl rfl ?_
  refine r_Sheet_book hj dX4_bookPart_1 fl_X4_18 ?_
  refine v_aload_n 0 dX4_bookPart_4 rfl rfl ?_
  refine r_Sheet_written hj dX4_bookPart_5 fl_X4_42 ?_
  refine v_aload_n 0 dX4_bookPart_8 rfl rfl ?_
  obtain ⟨q1, eq1, hh⟩ := bnd_some hh
  refine v_callVi (t_X4_bookSize hj eq1) dX4_bookPart_9 y_X4_bookSize ml_X4_75 (ci := 3) rfl rfl (e_Sheet hj) rfl rfl (Nat.le_of_ble_eq_true rfl) ⟨(Nat.le_of_ble_eq_true rfl), (Nat.le_of_ble_eq_true rfl)⟩ ⟨Nat.zero_le _, Nat.zero_le _⟩ ?_
  refine v_isub dX4_bookPart_12 ?_
  refine v_iload_n 1 dX4_bookPart_13 rfl rfl ?_
  refine v_iadd dX4_bookPart_14 ?_
  refine v_bipush dX4_bookPart_15 (by decide : _ = (30 : Int32)) ?_
  refine v_irem dX4_bookPart_17 (by decide) ?_
  obtain ⟨g2, hh⟩ := chk_some hh
  replace g2 := inb_in g2
  refine ld_book hj dX4_bookPart_18 g2 ?_
  refine v_lstore_n dX4_bookPart_19 rfl (by decide) rfl ?_
  replace hh := lt_of hh
  refine v_lload_n 0 dX4_bookPart_20 rfl rfl ?_
  refine v_bipush dX4_bookPart_21 (by decide : _ = (32 : Int32)) ?_
  refine v_lshr dX4_bookPart_23 ?_
  refine v_l2i dX4_bookPart_24 ?_
  refine v_istore dX4_bookPart_25 (by decide) rfl ?_
  replace hh := lt_of hh
  refine v_iload_n 4 dX4_bookPart_27 rfl rfl ?_
  refine sw_if hh (fun c0 hh => ?_) (fun c0 hh => ?_)
  · skip
    refine v_tableIn (tgt := 56) dX4_bookPart_28 (by rw [c0]; decide) (by rw [c0]; decide) (by rw [c0] <;> rfl) (by decide) ?_
    refine v_iload 0 dX4_bookPart_56 rfl ?_
    refine v_bipush dX4_bookPart_58 (by decide : _ = (7 : Int32)) ?_
    refine v_ishr dX4_bookPart_60 ?_
    obtain rfl := Option.some.inj hh
    exact v_iret dX4_bookPart_61 rfl (Nat.zero_le _) (Nat.zero_le _) ⟨rfl, rfl⟩
  · skip
    refine sw_if hh (fun c1 hh => ?_) (fun c1 hh => ?_)
    · skip
      refine v_tableIn (tgt := 62) dX4_bookPart_28 (by rw [c1]; decide) (by rw [c1]; decide) (by rw [c1] <;> rfl) (by decide) ?_
      refine v_iload 0 dX4_bookPart_62 rfl ?_
      refine v_iconst dX4_bookPart_64 (by decide : _ = (5 : Int32)) ?_
      refine v_ishr dX4_bookPart_65 ?_
      refine v_iconst dX4_bookPart_66 (by decide : _ = (3 : Int32)) ?_
      refine v_iand dX4_bookPart_67 ?_
      obtain rfl := Option.some.inj hh
      exact v_iret dX4_bookPart_68 rfl (Nat.zero_le _) (Nat.zero_le _) ⟨rfl, rfl⟩
    · skip
      refine sw_if hh (fun c2 hh => ?_) (fun c2 hh => ?_)
      · skip
        refine v_tableIn (tgt := 69) dX4_bookPart_28 (by rw [c2]; decide) (by rw [c2]; decide) (by rw [c2] <;> rfl) (by decide) ?_
        refine v_iload 0 dX4_bookPart_69 rfl ?_
        refine v_bipush dX4_bookPart_71 (by decide : _ = (31 : Int32)) ?_
        refine v_iand dX4_bookPart_73 ?_
        obtain rfl := Option.some.inj hh
        exact v_iret dX4_bookPart_74 rfl (Nat.zero_le _) (Nat.zero_le _) ⟨rfl, rfl⟩
      · skip
        refine v_tableOut (tgt := 75) dX4_bookPart_28 (sw_out 3 (by decide) (fun k hk => match k, hk with | 0, _ => fun h => c0 (h.trans (by decide)) | 1, _ => fun h => c1 (h.trans (by decide)) | 2, _ => fun h => c2 (h.trans (by decide)) | k + 3, hk => absurd hk (by omega))) (by decide) ?_
        refine v_lload_n 1 dX4_bookPart_75 rfl rfl ?_
        refine v_l2i dX4_bookPart_76 ?_
        obtain rfl := Option.some.inj hh
        exact v_iret dX4_bookPart_77 rfl (Nat.zero_le _) (Nat.zero_le _) ⟨rfl, rfl⟩
def f_X4_movedBy_b27 (rec4 : (Int32 → Int32 → Int32 → St → Option (Int32))) (N : Nat) (j : Nat) (x1 : Int32) (x2 : Int32) (x3 : Int32) (S : St) : Option (Int32) :=
  bnd (f_X4_bookPart j S x3 (3 : Int32)) fun q2 =>
 lt (x2 + q2) fun v3 =>
  lt (x3 + (1 : Int32)) fun v4 =>
  rec4 x1 v3 v4 S
set_option maxRecDepth 100000 in
set_option maxHeartbeats 4000000 in
theorem tb_X4_movedBy_27 {l : Launch} {G : v_G} {N : Nat}  {j : Nat} (hj : j < 66)  {r : Int32} {S0 : St} {rec4 : (Int32 → Int32 → Int32 → St → Option (Int32))} (hrec4 : ∀ (x1 : Int32) (x2 : Int32) (x3 : Int32) (S : St),  S = S0 → rec4 x1 x2 x3 S = some r → V l G yX4_movedBy cX4_movedBy 4 (some .int) (v_rm 3 0 0) (QI r (lay G S0)) 0 0 4 [(0, .ref (v_B G + (so j))), (1, .int x1), (2, .int x2), (3, .int x3)] [] (lay G S)) : ∀ (x1 : Int32) (x2 : Int32) (x3 : Int32) (S : St),  S = S0 → f_X4_movedBy_b27 rec4 N j x1 x2 x3 S = some r → V l G yX4_movedBy cX4_movedBy 4 (some .int) (v_rm 3 0 0) (QI r (lay G S0)) 0 0 27 [(0, .ref (v_B G + (so j))), (1, .int x1), (2, .int x2), (3, .int x3)] [] (lay G S) := by
  intro x1 x2 x3 S  hS0 hh
  unfold f_X4_movedBy_b27 at hh
  refine v_iload_n 2 dX4_movedBy_27 rfl rfl ?_
  refine v_aload_n 0 dX4_movedBy_28 rfl rfl ?_
  refine v_iload_n 3 dX4_movedBy_29 rfl rfl ?_
  refine v_iconst dX4_movedBy_30 (by decide : _ = (3 : Int32)) ?_
  obtain ⟨q2, eq2, hh⟩ := bnd_some hh
  refine v_callVi (t_X4_bookPart hj eq2) dX4_movedBy_31 y_X4_bookPart ml_X4_79 (ci := 3) rfl rfl (e_Sheet hj) rfl rfl (Nat.le_of_ble_eq_true rfl) ⟨(Nat.le_of_ble_eq_true rfl), (Nat.le_of_ble_eq_true rfl)⟩ ⟨Nat.zero_le _, Nat.zero_le _⟩ ?_
  refine v_iadd dX4_movedBy_34 ?_
  refine v_istore_n dX4_movedBy_35 rfl (by decide) rfl ?_
  replace hh := lt_of hh
  refine v_iinc (v := _ + (1 : Int32)) 3 dX4_movedBy_36 rfl rfl (by decide) rfl ?_
  replace hh := lt_of hh
  refine v_goto (tgt := 4) dX4_movedBy_39 (by decide) ?_
  exact v_sub [2, 3, 1, 0] rfl (hrec4 _ _ _ _ hS0 hh)
def f_X4_movedBy_b4 (N : Nat) (j : Nat) : Nat → Int32 → Int32 → Int32 → St → Option (Int32)
  | 0, _, _, _, _ => none
  | n + 1, x1, x2, x3, S =>
  bnd (f_X4_bookSize j S ) fun q1 =>
 if q1 ≤ x3 then
  (some x2)
  else
  (if x1 = (-1 : Int32) then
  (f_X4_movedBy_b27 (f_X4_movedBy_b4 N j n) N j x1 x2 x3 S)
  else
  (bnd (f_X4_bookPart j S x3 (1 : Int32)) fun q5 =>
 if q5 = x1 then
  (f_X4_movedBy_b27 (f_X4_movedBy_b4 N j n) N j x1 x2 x3 S)
  else
  (lt (x3 + (1 : Int32)) fun v6 =>
  f_X4_movedBy_b4 N j n x1 x2 v6 S)))
set_option maxRecDepth 100000 in
set_option maxHeartbeats 4000000 in
theorem tb_X4_movedBy_4 {l : Launch} {G : v_G} {N : Nat}  {j : Nat} (hj : j < 66)  {r : Int32} {S0 : St}   : ∀ (n : Nat) (x1 : Int32) (x2 : Int32) (x3 : Int32) (S : St),  S = S0 → f_X4_movedBy_b4 N j n x1 x2 x3 S = some r → V l G yX4_movedBy cX4_movedBy 4 (some .int) (v_rm 3 0 0) (QI r (lay G S0)) 0 0 4 [(0, .ref (v_B G + (so j))), (1, .int x1), (2, .int x2), (3, .int x3)] [] (lay G S) := by
  intro n
  induction n with
  | zero =>
    intro x1 x2 x3 S  hS0 hh
    rw [f_X4_movedBy_b4] at hh
    cases hh
  | succ n ih =>
    intro x1 x2 x3 S  hS0 hh
    rw [f_X4_movedBy_b4] at hh
    refine v_iload_n 3 dX4_movedBy_4 rfl rfl ?_
    refine v_aload_n 0 dX4_movedBy_5 rfl rfl ?_
    obtain ⟨q1, eq1, hh⟩ := bnd_some hh
    refine v_callVi (t_X4_bookSize hj eq1) dX4_movedBy_6 y_X4_bookSize ml_X4_75 (ci := 3) rfl rfl (e_Sheet hj) rfl rfl (Nat.le_of_ble_eq_true rfl) ⟨(Nat.le_of_ble_eq_true rfl), (Nat.le_of_ble_eq_true rfl)⟩ ⟨Nat.zero_le _, Nat.zero_le _⟩ ?_
    refine v_icmp_ge (tgt := 42) dX4_movedBy_9 (by decide) (fun c => ?_) (fun c => ?_)
    · replace hh := (if_pos c).symm.trans hh
      refine v_iload_n 2 dX4_movedBy_42 rfl rfl ?_
      obtain rfl := Option.some.inj hh
      exact v_iret dX4_movedBy_43 rfl (Nat.zero_le _) (Nat.zero_le _) ⟨rfl, by rw [hS0]⟩
    · replace hh := (if_neg c).symm.trans hh
      refine v_iload_n 1 dX4_movedBy_12 rfl rfl ?_
      refine v_iconst dX4_movedBy_13 (by decide : _ = (-1 : Int32)) ?_
      refine v_icmp_eq (tgt := 27) dX4_movedBy_14 (by decide) (fun c => ?_) (fun c => ?_)
      · replace hh := (if_pos c).symm.trans hh
        exact v_sub [0, 1, 2, 3] rfl (tb_X4_movedBy_27 hj (fun _ _ _ _ hS hh => ih _ _ _ _ hS hh) _ _ _ _ hS0 hh)
      · replace hh := (if_neg c).symm.trans hh
        refine v_aload_n 0 dX4_movedBy_17 rfl rfl ?_
        refine v_iload_n 3 dX4_movedBy_18 rfl rfl ?_
        refine v_iconst dX4_movedBy_19 (by decide : _ = (1 : Int32)) ?_
        obtain ⟨q5, eq5, hh⟩ := bnd_some hh
        refine v_callVi (t_X4_bookPart hj eq5) dX4_movedBy_20 y_X4_bookPart ml_X4_79 (ci := 3) rfl rfl (e_Sheet hj) rfl rfl (Nat.le_of_ble_eq_true rfl) ⟨(Nat.le_of_ble_eq_true rfl), (Nat.le_of_ble_eq_true rfl)⟩ ⟨Nat.zero_le _, Nat.zero_le _⟩ ?_
        refine v_iload_n 1 dX4_movedBy_23 rfl rfl ?_
        refine v_icmp_ne (tgt := 36) dX4_movedBy_24 (by decide) (fun c => ?_) (fun c => ?_)
        · replace hh := (if_neg c).symm.trans hh
          refine v_iinc (v := _ + (1 : Int32)) 3 dX4_movedBy_36 rfl rfl (by decide) rfl ?_
          replace hh := lt_of hh
          refine v_goto (tgt := 4) dX4_movedBy_39 (by decide) ?_
          exact v_sub [1, 2, 3, 0] rfl (ih _ _ _ _ hS0 hh)
        · replace hh := (if_pos c).symm.trans hh
          exact v_sub [0, 1, 2, 3] rfl (tb_X4_movedBy_27 hj (fun _ _ _ _ hS hh => ih _ _ _ _ hS hh) _ _ _ _ hS0 hh)
def f_X4_movedBy (N : Nat) (j : Nat) (S : St) (x1 : Int32) : Option (Int32) :=
  f_X4_movedBy_b4 N j N x1 (0 : Int32) (0 : Int32) S
set_option maxRecDepth 100000 in
set_option maxHeartbeats 4000000 in
theorem t_X4_movedBy {l : Launch} {G : v_G} {N : Nat} {S : St}  {j : Nat} (hj : j < 66) {x1 : Int32} {r : Int32} (hh : f_X4_movedBy N j S x1 = some r) : v_M l G yX4_movedBy cX4_movedBy 4 (some .int) 3 0 0 [.ref (v_B G + (so j)), .int x1] (lay G S) (QI r (lay G S)) := by
  refine v_entry (by decide) (Nat.le_of_ble_eq_true rfl) ?_
  unfold f_X4_movedBy at hh
  show V l G yX4_movedBy cX4_movedBy 4 (some .int) (v_rm 3 0 0) (QI r (lay G S)) 0 0 0 [(0, .ref (v_B G + (so j))), (1, .int x1)] [] (lay G S)
  refine v_iconst dX4_movedBy_0 (by decide : _ = (0 : Int32)) ?_
  refine v_istore_n dX4_movedBy_1 rfl (by decide) rfl ?_
  refine v_iconst dX4_movedBy_2 (by decide : _ = (0 : Int32)) ?_
  refine v_istore_n dX4_movedBy_3 rfl (by decide) rfl ?_
  exact v_sub [2, 3, 1, 0] rfl (tb_X4_movedBy_4 hj N _ _ _ _ rfl hh)
