def f_X10_copy_ai_b2 (N : Nat) : Nat → Int32 → St → Option (St)
  | 0, _, _ => none
  | n + 1, x2, S =>
  if (3015 : Int32) ≤ x2 then
  (some S)
  else
  (chk (inb x2 3015) (
  chk (inb x2 3015) (
  lt (sI S 1001 0 x2.toNatClampNeg (gI S 1000 0 x2.toNatClampNeg)) fun S3 =>
  lt (x2 + (1 : Int32)) fun v4 =>
  f_X10_copy_ai_b2 N n v4 S3)))
set_option maxRecDepth 100000 in
set_option maxHeartbeats 4000000 in
theorem tb_X10_copy_ai_2 {l : Launch} {G : v_G} {N : Nat}    {r : St}   : ∀ (n : Nat) (x2 : Int32) (S : St),  f_X10_copy_ai_b2 N n x2 S = some r → V l G yX10_copy cX10_copy 3 (none) (v_rm 0 0 0) (QV (lay G r)) 0 0 2 [(0, .ref (v_B G + 292)), (1, .ref (v_B G + 293)), (2, .int x2)] [] (lay G S) := by
  intro n
  induction n with
  | zero =>
    intro x2 S  hh
    rw [f_X10_copy_ai_b2] at hh
    cases hh
  | succ n ih =>
    intro x2 S  hh
    rw [f_X10_copy_ai_b2] at hh
    refine v_iload_n 2 dX10_copy_2 rfl rfl ?_
    refine v_sipush dX10_copy_3 (by decide : _ = (3015 : Int32)) ?_
    refine v_icmp_ge (tgt := 21) dX10_copy_6 (by decide) (fun c => ?_) (fun c => ?_)
    · replace hh := (if_pos c).symm.trans hh
      obtain rfl := Option.some.inj hh
      exact v_vret dX10_copy_21 rfl (Nat.zero_le _) (Nat.zero_le _) ⟨rfl, rfl⟩
    · replace hh := (if_neg c).symm.trans hh
      refine v_aload_n 1 dX10_copy_9 rfl rfl ?_
      refine v_iload_n 2 dX10_copy_10 rfl rfl ?_
      refine v_aload_n 0 dX10_copy_11 rfl rfl ?_
      refine v_iload_n 2 dX10_copy_12 rfl rfl ?_
      obtain ⟨g1, hh⟩ := chk_some hh
      replace g1 := inb_in g1
      refine ld_ma dX10_copy_13 g1 ?_
      obtain ⟨g2, hh⟩ := chk_some hh
      replace g2 := inb_in g2
      refine st_mimage dX10_copy_14 g2 ?_
      replace hh := lt_of hh
      refine v_iinc (v := _ + (1 : Int32)) 2 dX10_copy_15 rfl rfl (by decide) rfl ?_
      replace hh := lt_of hh
      refine v_goto (tgt := 2) dX10_copy_18 (by decide) ?_
      exact v_sub [1, 2, 0] rfl (ih _ _ hh)
def f_X10_copy_ai (N : Nat) (S : St)  : Option (St) :=
  f_X10_copy_ai_b2 N N (0 : Int32) S
set_option maxRecDepth 100000 in
set_option maxHeartbeats 4000000 in
theorem t_X10_copy_ai {l : Launch} {G : v_G} {N : Nat} {S : St}    {r : St} (hh : f_X10_copy_ai N S  = some r) : v_M l G yX10_copy cX10_copy 3 (none) 0 0 0 [.ref (v_B G + 292), .ref (v_B G + 293)] (lay G S) (QV (lay G r)) := by
  refine v_entry (by decide) (Nat.le_of_ble_eq_true rfl) ?_
  unfold f_X10_copy_ai at hh
  show V l G yX10_copy cX10_copy 3 (none) (v_rm 0 0 0) (QV (lay G r)) 0 0 0 [(0, .ref (v_B G + 292)), (1, .ref (v_B G + 293))] [] (lay G S)
  refine v_iconst dX10_copy_0 (by decide : _ = (0 : Int32)) ?_
  refine v_istore_n dX10_copy_1 rfl (by decide) rfl ?_
  exact v_sub [1, 2, 0] rfl (tb_X10_copy_ai_2 N _ _ hh)
def f_X10_copy_ia_b2 (N : Nat) : Nat → Int32 → St → Option (St)
  | 0, _, _ => none
  | n + 1, x2, S =>
  if (3015 : Int32) ≤ x2 then
  (some S)
  else
  (chk (inb x2 3015) (
  chk (inb x2 3015) (
  lt (sI S 1000 0 x2.toNatClampNeg (gI S 1001 0 x2.toNatClampNeg)) fun S3 =>
  lt (x2 + (1 : Int32)) fun v4 =>
  f_X10_copy_ia_b2 N n v4 S3)))
set_option maxRecDepth 100000 in
set_option maxHeartbeats 4000000 in
theorem tb_X10_copy_ia_2 {l : Launch} {G : v_G} {N : Nat}    {r : St}   : ∀ (n : Nat) (x2 : Int32) (S : St),  f_X10_copy_ia_b2 N n x2 S = some r → V l G yX10_copy cX10_copy 3 (none) (v_rm 0 0 0) (QV (lay G r)) 0 0 2 [(0, .ref (v_B G + 293)), (1, .ref (v_B G + 292)), (2, .int x2)] [] (lay G S) := by
  intro n
  induction n with
  | zero =>
    intro x2 S  hh
    rw [f_X10_copy_ia_b2] at hh
    cases hh
  | succ n ih =>
    intro x2 S  hh
    rw [f_X10_copy_ia_b2] at hh
    refine v_iload_n 2 dX10_copy_2 rfl rfl ?_
    refine v_sipush dX10_copy_3 (by decide : _ = (3015 : Int32)) ?_
    refine v_icmp_ge (tgt := 21) dX10_copy_6 (by decide) (fun c => ?_) (fun c => ?_)
    · replace hh := (if_pos c).symm.trans hh
      obtain rfl := Option.some.inj hh
      exact v_vret dX10_copy_21 rfl (Nat.zero_le _) (Nat.zero_le _) ⟨rfl, rfl⟩
    · replace hh := (if_neg c).symm.trans hh
      refine v_aload_n 1 dX10_copy_9 rfl rfl ?_
      refine v_iload_n 2 dX10_copy_10 rfl rfl ?_
      refine v_aload_n 0 dX10_copy_11 rfl rfl ?_
      refine v_iload_n 2 dX10_copy_12 rfl rfl ?_
      obtain ⟨g1, hh⟩ := chk_some hh
      replace g1 := inb_in g1
      refine ld_mimage dX10_copy_13 g1 ?_
      obtain ⟨g2, hh⟩ := chk_some hh
      replace g2 := inb_in g2
      refine st_ma dX10_copy_14 g2 ?_
      replace hh := lt_of hh
      refine v_iinc (v := _ + (1 : Int32)) 2 dX10_copy_15 rfl rfl (by decide) rfl ?_
      replace hh := lt_of hh
      refine v_goto (tgt := 2) dX10_copy_18 (by decide) ?_
      exact v_sub [1, 2, 0] rfl (ih _ _ hh)
def f_X10_copy_ia (N : Nat) (S : St)  : Option (St) :=
  f_X10_copy_ia_b2 N N (0 : Int32) S
set_option maxRecDepth 100000 in
set_option maxHeartbeats 4000000 in
theorem t_X10_copy_ia {l : Launch} {G : v_G} {N : Nat} {S : St}    {r : St} (hh : f_X10_copy_ia N S  = some r) : v_M l G yX10_copy cX10_copy 3 (none) 0 0 0 [.ref (v_B G + 293), .ref (v_B G + 292)] (lay G S) (QV (lay G r)) := by
  refine v_entry (by decide) (Nat.le_of_ble_eq_true rfl) ?_
  unfold f_X10_copy_ia at hh
  show V l G yX10_copy cX10_copy 3 (none) (v_rm 0 0 0) (QV (lay G r)) 0 0 0 [(0, .ref (v_B G + 293)), (1, .ref (v_B G + 292))] [] (lay G S)
  refine v_iconst dX10_copy_0 (by decide : _ = (0 : Int32)) ?_
  refine v_istore_n dX10_copy_1 rfl (by decide) rfl ?_
  exact v_sub [1, 2, 0] rfl (tb_X10_copy_ia_2 N _ _ hh)
def f_X10_image (N : Nat) (S : St)  : Option (Int32 × St) :=
  bnd (f_X10_copy_ai N S ) fun q1 =>
 some (gI q1 1000 0 6, q1)
set_option maxRecDepth 100000 in
set_option maxHeartbeats 4000000 in
theorem t_X10_image {l : Launch} {G : v_G} {N : Nat} {S : St}    {r : Int32 × St} (hh : f_X10_image N S  = some r) : v_M l G yX10_image cX10_image 1 (some .int) 1 0 0 [.ref (v_B G + 291)] (lay G S) (QI r.1 (lay G r.2)) := by
  refine v_entry (by decide) (Nat.le_of_ble_eq_true rfl) ?_
  unfold f_X10_image at hh
  show V l G yX10_image cX10_image 1 (some .int) (v_rm 1 0 0) (QI r.1 (lay G r.2)) 0 0 0 [(0, .ref (v_B G + 291))] [] (lay G S)
  refine v_aload_n 0 dX10_image_0 rfl rfl ?_
  refine r_Model_a dX10_image_1 fl_X10_7 ?_
  refine v_aload_n 0 dX10_image_4 rfl rfl ?_
  refine r_Model_image dX10_image_5 fl_X10_13 ?_
  obtain ⟨q1, eq1, hh⟩ := bnd_some hh
  refine v_callSv (t_X10_copy_ai eq1) dX10_image_8 y_X10_copy ml_X10_59 rfl rfl (Nat.le_of_ble_eq_true rfl) ⟨(Nat.le_of_ble_eq_true rfl), (Nat.le_of_ble_eq_true rfl)⟩ ⟨Nat.zero_le _, Nat.zero_le _⟩ ?_
  refine v_aload_n 0 dX10_image_11 rfl rfl ?_
  refine r_Model_a dX10_image_12 fl_X10_7 ?_
  refine v_bipush dX10_image_15 (by decide : _ = (6 : Int32)) ?_
  refine ld_ma dX10_image_17 (inb_in (by decide)) ?_
  obtain rfl := Option.some.inj hh
  exact v_iret dX10_image_18 rfl (Nat.zero_le _) (Nat.zero_le _) ⟨rfl, rfl⟩
def f_X10_back (N : Nat) (S : St)  : Option (Int32 × St) :=
  bnd (f_X10_copy_ia N S ) fun q1 =>
 some (gI q1 1000 0 6, q1)
set_option maxRecDepth 100000 in
set_option maxHeartbeats 4000000 in
theorem t_X10_back {l : Launch} {G : v_G} {N : Nat} {S : St}    {r : Int32 × St} (hh : f_X10_back N S  = some r) : v_M l G yX10_back cX10_back 1 (some .int) 1 0 0 [.ref (v_B G + 291)] (lay G S) (QI r.1 (lay G r.2)) := by
  refine v_entry (by decide) (Nat.le_of_ble_eq_true rfl) ?_
  unfold f_X10_back at hh
  show V l G yX10_back cX10_back 1 (some .int) (v_rm 1 0 0) (QI r.1 (lay G r.2)) 0 0 0 [(0, .ref (v_B G + 291))] [] (lay G S)
  refine v_aload_n 0 dX10_back_0 rfl rfl ?_
  refine r_Model_image dX10_back_1 fl_X10_13 ?_
  refine v_aload_n 0 dX10_back_4 rfl rfl ?_
  refine r_Model_a dX10_back_5 fl_X10_7 ?_
  obtain ⟨q1, eq1, hh⟩ := bnd_some hh
  refine v_callSv (t_X10_copy_ia eq1) dX10_back_8 y_X10_copy ml_X10_59 rfl rfl (Nat.le_of_ble_eq_true rfl) ⟨(Nat.le_of_ble_eq_true rfl), (Nat.le_of_ble_eq_true rfl)⟩ ⟨Nat.zero_le _, Nat.zero_le _⟩ ?_
  refine v_aload_n 0 dX10_back_11 rfl rfl ?_
  refine r_Model_a dX10_back_12 fl_X10_7 ?_
  refine v_bipush dX10_back_15 (by decide : _ = (6 : Int32)) ?_
  refine ld_ma dX10_back_17 (inb_in (by decide)) ?_
  obtain rfl := Option.some.inj hh
  exact v_iret dX10_back_18 rfl (Nat.zero_le _) (Nat.zero_le _) ⟨rfl, rfl⟩
