def f_X3_sum_b9 (N : Nat) (j : Nat) : Nat → Int32 → Int32 → Int32 → St → Option (Int32)
  | 0, _, _, _, _ => none
  | n + 1, x2, x3, x4, S =>
  if x2 ≤ x4 then
  (some x3)
  else
  (if (12 : Int32) ≤ x4 then
  (some x3)
  else
  (chk (inb x4 12) (
  lt (x3 + (gI S 400 j x4.toNatClampNeg)) fun v3 =>
  lt (x4 + (1 : Int32)) fun v4 =>
  f_X3_sum_b9 N j n x2 v3 v4 S)))
set_option maxRecDepth 100000 in
set_option maxHeartbeats 4000000 in
theorem tb_X3_sum_9 {l : Launch} {G : v_G} {N : Nat} {j : Nat} (hj : j < 66)  {r : Int32} {S0 : St}   : ∀ (n : Nat) (x2 : Int32) (x3 : Int32) (x4 : Int32) (S : St),  S = S0 → f_X3_sum_b9 N j n x2 x3 x4 S = some r → V l G yX3_sum cX3_sum 5 (some .int) (v_rm 1 0 0) (QI r (lay G S0)) 0 0 9 [(0, .ref (v_B G + (so j + 1))), (2, .int x2), (3, .int x3), (4, .int x4)] [] (lay G S) := by
  intro n
  induction n with
  | zero =>
    intro x2 x3 x4 S  hS0 hh
    rw [f_X3_sum_b9] at hh
    cases hh
  | succ n ih =>
    intro x2 x3 x4 S  hS0 hh
    rw [f_X3_sum_b9] at hh
    refine v_iload 3 dX3_sum_9 rfl ?_
    refine v_iload_n 1 dX3_sum_11 rfl rfl ?_
    refine v_icmp_ge (tgt := 35) dX3_sum_12 (by decide) (fun c => ?_) (fun c => ?_)
    · replace hh := (if_pos c).symm.trans hh
      refine v_iload_n 2 dX3_sum_35 rfl rfl ?_
      obtain rfl := Option.some.inj hh
      exact v_iret dX3_sum_36 rfl (Nat.zero_le _) (Nat.zero_le _) ⟨rfl, by rw [hS0]⟩
    · replace hh := (if_neg c).symm.trans hh
      refine v_iload 3 dX3_sum_15 rfl ?_
      refine v_aload_n 0 dX3_sum_17 rfl rfl ?_
      refine ln_cells hj dX3_sum_18 ?_
      refine v_icmp_ge (tgt := 35) dX3_sum_19 (by decide) (fun c => ?_) (fun c => ?_)
      · replace hh := (if_pos c).symm.trans hh
        refine v_iload_n 2 dX3_sum_35 rfl rfl ?_
        obtain rfl := Option.some.inj hh
        exact v_iret dX3_sum_36 rfl (Nat.zero_le _) (Nat.zero_le _) ⟨rfl, by rw [hS0]⟩
      · replace hh := (if_neg c).symm.trans hh
        refine v_iload_n 2 dX3_sum_22 rfl rfl ?_
        refine v_aload_n 0 dX3_sum_23 rfl rfl ?_
        refine v_iload 3 dX3_sum_24 rfl ?_
        obtain ⟨g2, hh⟩ := chk_some hh
        replace g2 := inb_in g2
        refine ld_cells hj dX3_sum_26 g2 ?_
        refine v_iadd dX3_sum_27 ?_
        refine v_istore_n dX3_sum_28 rfl (by decide) rfl ?_
        replace hh := lt_of hh
        refine v_iinc (v := _ + (1 : Int32)) 3 dX3_sum_29 rfl rfl (by decide) rfl ?_
        replace hh := lt_of hh
        refine v_goto (tgt := 9) dX3_sum_32 (by decide) ?_
        exact v_sub [2, 3, 1, 0] rfl (ih _ _ _ _ hS0 hh)
def f_X3_sum (N : Nat) (j : Nat) (S : St) (x1 : Int32) (x2 : Int32) : Option (Int32) :=
  lt (if (0 : Int32) < x1 then x1 else (0 : Int32)) fun v1 =>
  f_X3_sum_b9 N j N x2 (0 : Int32) v1 S
set_option maxRecDepth 100000 in
set_option maxHeartbeats 4000000 in
theorem t_X3_sum {l : Launch} {G : v_G} {N : Nat} {S : St} {j : Nat} (hj : j < 66) {x1 : Int32} {x2 : Int32} {r : Int32} (hh : f_X3_sum N j S x1 x2 = some r) : v_M l G yX3_sum cX3_sum 5 (some .int) 1 0 0 [.ref (v_B G + (so j + 1)), .int x1, .int x2] (lay G S) (QI r (lay G S)) := by
  refine v_entry (by decide) (Nat.le_of_ble_eq_true rfl) ?_
  unfold f_X3_sum at hh
  show V l G yX3_sum cX3_sum 5 (some .int) (v_rm 1 0 0) (QI r (lay G S)) 0 0 0 [(0, .ref (v_B G + (so j + 1))), (1, .int x1), (2, .int x2)] [] (lay G S)
  refine v_iconst dX3_sum_0 (by decide : _ = (0 : Int32)) ?_
  refine v_istore_n dX3_sum_1 rfl (by decide) rfl ?_
  refine v_iconst dX3_sum_2 (by decide : _ = (0 : Int32)) ?_
  refine v_iload_n 2 dX3_sum_3 rfl rfl ?_
  refine v_mmax dX3_sum_4 ml_X3_18 y_J9_max_7cf53.2 y_J9_max_7cf53.1.2.1 y_J9_max_7cf53.1.1 (Nat.le_of_ble_eq_true rfl) (Nat.le_of_ble_eq_true rfl) (Nat.zero_le _) (Nat.zero_le _) ?_
  replace hh := lt_of hh
  refine v_istore dX3_sum_7 (by decide) rfl ?_
  exact v_sub [2, 4, 1, 0] rfl (tb_X3_sum_9 hj N _ _ _ _ rfl hh)
def f_X3_falls_b14 (rec4 : (Int32 → Int32 → St → Option (Int32))) (N : Nat) (j : Nat) : Nat → Int32 → Int32 → Int32 → St → Option (Int32)
  | 0, _, _, _, _ => none
  | n + 1, x1, x2, x3, S =>
  if (12 : Int32) ≤ x3 then
  (lt (x2 + (1 : Int32)) fun v2 =>
  rec4 x1 v2 S)
  else
  (chk (inb x2 12) (
  chk (inb x3 12) (
  if (gI S 400 j x2.toNatClampNeg) ≤ (gI S 400 j x3.toNatClampNeg) then
  (lt (x3 + (1 : Int32)) fun v5 =>
  f_X3_falls_b14 rec4 N j n x1 x2 v5 S)
  else
  (lt (x1 + (1 : Int32)) fun v6 =>
  lt (x3 + (1 : Int32)) fun v7 =>
  f_X3_falls_b14 rec4 N j n v6 x2 v7 S))))
set_option maxRecDepth 100000 in
set_option maxHeartbeats 4000000 in
theorem tb_X3_falls_14 {l : Launch} {G : v_G} {N : Nat} {j : Nat} (hj : j < 66)  {r : Int32} {S0 : St} {rec4 : (Int32 → Int32 → St → Option (Int32))} (hrec4 : ∀ (x1 : Int32) (x2 : Int32) (S : St),  S = S0 → rec4 x1 x2 S = some r → V l G yX3_falls cX3_falls 4 (some .int) (v_rm 0 0 0) (QI r (lay G S0)) 0 0 4 [(0, .ref (v_B G + (so j + 1))), (1, .int x1), (2, .int x2)] [] (lay G S)) : ∀ (n : Nat) (x1 : Int32) (x2 : Int32) (x3 : Int32) (S : St),  S = S0 → f_X3_falls_b14 rec4 N j n x1 x2 x3 S = some r → V l G yX3_falls cX3_falls 4 (some .int) (v_rm 0 0 0) (QI r (lay G S0)) 0 0 14 [(0, .ref (v_B G + (so j + 1))), (1, .int x1), (2, .int x2), (3, .int x3)] [] (lay G S) := by
  intro n
  induction n with
  | zero =>
    intro x1 x2 x3 S  hS0 hh
    rw [f_X3_falls_b14] at hh
    cases hh
  | succ n ih =>
    intro x1 x2 x3 S  hS0 hh
    rw [f_X3_falls_b14] at hh
    refine v_iload_n 3 dX3_falls_14 rfl rfl ?_
    refine v_bipush dX3_falls_15 (by decide : _ = (12 : Int32)) ?_
    refine v_icmp_ge (tgt := 38) dX3_falls_17 (by decide) (fun c => ?_) (fun c => ?_)
    · replace hh := (if_pos c).symm.trans hh
      refine v_iinc (v := _ + (1 : Int32)) 2 dX3_falls_38 rfl rfl (by decide) rfl ?_
      replace hh := lt_of hh
      refine v_goto (tgt := 4) dX3_falls_41 (by decide) ?_
      exact v_sub [1, 2, 0] rfl (hrec4 _ _ _ hS0 hh)
    · replace hh := (if_neg c).symm.trans hh
      refine v_aload_n 0 dX3_falls_20 rfl rfl ?_
      refine v_iload_n 2 dX3_falls_21 rfl rfl ?_
      obtain ⟨g3, hh⟩ := chk_some hh
      replace g3 := inb_in g3
      refine ld_cells hj dX3_falls_22 g3 ?_
      refine v_aload_n 0 dX3_falls_23 rfl rfl ?_
      refine v_iload_n 3 dX3_falls_24 rfl rfl ?_
      obtain ⟨g4, hh⟩ := chk_some hh
      replace g4 := inb_in g4
      refine ld_cells hj dX3_falls_25 g4 ?_
      refine v_icmp_le (tgt := 32) dX3_falls_26 (by decide) (fun c => ?_) (fun c => ?_)
      · replace hh := (if_pos c).symm.trans hh
        refine v_iinc (v := _ + (1 : Int32)) 3 dX3_falls_32 rfl rfl (by decide) rfl ?_
        replace hh := lt_of hh
        refine v_goto (tgt := 14) dX3_falls_35 (by decide) ?_
        exact v_sub [1, 2, 3, 0] rfl (ih _ _ _ _ hS0 hh)
      · replace hh := (if_neg c).symm.trans hh
        refine v_iinc (v := _ + (1 : Int32)) 1 dX3_falls_29 rfl rfl (by decide) rfl ?_
        replace hh := lt_of hh
        refine v_iinc (v := _ + (1 : Int32)) 3 dX3_falls_32 rfl rfl (by decide) rfl ?_
        replace hh := lt_of hh
        refine v_goto (tgt := 14) dX3_falls_35 (by decide) ?_
        exact v_sub [2, 1, 3, 0] rfl (ih _ _ _ _ hS0 hh)
def f_X3_falls_b4 (N : Nat) (j : Nat) : Nat → Int32 → Int32 → St → Option (Int32)
  | 0, _, _, _ => none
  | n + 1, x1, x2, S =>
  if (12 : Int32) ≤ x2 then
  (some x1)
  else
  (lt (x2 + (1 : Int32)) fun v1 =>
  f_X3_falls_b14 (f_X3_falls_b4 N j n) N j N x1 x2 v1 S)
set_option maxRecDepth 100000 in
set_option maxHeartbeats 4000000 in
theorem tb_X3_falls_4 {l : Launch} {G : v_G} {N : Nat} {j : Nat} (hj : j < 66)  {r : Int32} {S0 : St}   : ∀ (n : Nat) (x1 : Int32) (x2 : Int32) (S : St),  S = S0 → f_X3_falls_b4 N j n x1 x2 S = some r → V l G yX3_falls cX3_falls 4 (some .int) (v_rm 0 0 0) (QI r (lay G S0)) 0 0 4 [(0, .ref (v_B G + (so j + 1))), (1, .int x1), (2, .int x2)] [] (lay G S) := by
  intro n
  induction n with
  | zero =>
    intro x1 x2 S  hS0 hh
    rw [f_X3_falls_b4] at hh
    cases hh
  | succ n ih =>
    intro x1 x2 S  hS0 hh
    rw [f_X3_falls_b4] at hh
    refine v_iload_n 2 dX3_falls_4 rfl rfl ?_
    refine v_bipush dX3_falls_5 (by decide : _ = (12 : Int32)) ?_
    refine v_icmp_ge (tgt := 44) dX3_falls_7 (by decide) (fun c => ?_) (fun c => ?_)
    · replace hh := (if_pos c).symm.trans hh
      refine v_iload_n 1 dX3_falls_44 rfl rfl ?_
      obtain rfl := Option.some.inj hh
      exact v_iret dX3_falls_45 rfl (Nat.zero_le _) (Nat.zero_le _) ⟨rfl, by rw [hS0]⟩
    · replace hh := (if_neg c).symm.trans hh
      refine v_iload_n 2 dX3_falls_10 rfl rfl ?_
      refine v_iconst dX3_falls_11 (by decide : _ = (1 : Int32)) ?_
      refine v_iadd dX3_falls_12 ?_
      refine v_istore_n dX3_falls_13 rfl (by decide) rfl ?_
      replace hh := lt_of hh
      exact v_sub [1, 2, 3, 0] rfl (tb_X3_falls_14 hj (fun _ _ _ hS hh => ih _ _ _ hS hh) N _ _ _ _ hS0 hh)
def f_X3_falls (N : Nat) (j : Nat) (S : St)  : Option (Int32) :=
  f_X3_falls_b4 N j N (0 : Int32) (0 : Int32) S
set_option maxRecDepth 100000 in
set_option maxHeartbeats 4000000 in
theorem t_X3_falls {l : Launch} {G : v_G} {N : Nat} {S : St} {j : Nat} (hj : j < 66)  {r : Int32} (hh : f_X3_falls N j S  = some r) : v_M l G yX3_falls cX3_falls 4 (some .int) 0 0 0 [.ref (v_B G + (so j + 1))] (lay G S) (QI r (lay G S)) := by
  refine v_entry (by decide) (Nat.le_of_ble_eq_true rfl) ?_
  unfold f_X3_falls at hh
  show V l G yX3_falls cX3_falls 4 (some .int) (v_rm 0 0 0) (QI r (lay G S)) 0 0 0 [(0, .ref (v_B G + (so j + 1)))] [] (lay G S)
  refine v_iconst dX3_falls_0 (by decide : _ = (0 : Int32)) ?_
  refine v_istore_n dX3_falls_1 rfl (by decide) rfl ?_
  refine v_iconst dX3_falls_2 (by decide : _ = (0 : Int32)) ?_
  refine v_istore_n dX3_falls_3 rfl (by decide) rfl ?_
  exact v_sub [2, 1, 0] rfl (tb_X3_falls_4 hj N _ _ _ rfl hh)
def f_X3_leastCell_b4 (N : Nat) (j : Nat) : Nat → Int32 → Int32 → St → Option (Int32)
  | 0, _, _, _ => none
  | n + 1, x1, x2, S =>
  if (12 : Int32) ≤ x2 then
  (some x1)
  else
  (chk (inb x2 12) (
  chk (inb x1 12) (
  if (gI S 400 j x1.toNatClampNeg) ≤ (gI S 400 j x2.toNatClampNeg) then
  (lt (x2 + (1 : Int32)) fun v3 =>
  f_X3_leastCell_b4 N j n x1 v3 S)
  else
  (lt (x2 + (1 : Int32)) fun v4 =>
  f_X3_leastCell_b4 N j n x2 v4 S))))
set_option maxRecDepth 100000 in
set_option maxHeartbeats 4000000 in
theorem tb_X3_leastCell_4 {l : Launch} {G : v_G} {N : Nat} {j : Nat} (hj : j < 66)  {r : Int32} {S0 : St}   : ∀ (n : Nat) (x1 : Int32) (x2 : Int32) (S : St),  S = S0 → f_X3_leastCell_b4 N j n x1 x2 S = some r → V l G yX3_leastCell cX3_leastCell 3 (some .int) (v_rm 0 0 0) (QI r (lay G S0)) 0 0 4 [(0, .ref (v_B G + (so j + 1))), (1, .int x1), (2, .int x2)] [] (lay G S) := by
  intro n
  induction n with
  | zero =>
    intro x1 x2 S  hS0 hh
    rw [f_X3_leastCell_b4] at hh
    cases hh
  | succ n ih =>
    intro x1 x2 S  hS0 hh
    rw [f_X3_leastCell_b4] at hh
    refine v_iload_n 2 dX3_leastCell_4 rfl rfl ?_
    refine v_bipush dX3_leastCell_5 (by decide : _ = (12 : Int32)) ?_
    refine v_icmp_ge (tgt := 27) dX3_leastCell_7 (by decide) (fun c => ?_) (fun c => ?_)
    · replace hh := (if_pos c).symm.trans hh
      refine v_iload_n 1 dX3_leastCell_27 rfl rfl ?_
      obtain rfl := Option.some.inj hh
      exact v_iret dX3_leastCell_28 rfl (Nat.zero_le _) (Nat.zero_le _) ⟨rfl, by rw [hS0]⟩
    · replace hh := (if_neg c).symm.trans hh
      refine v_aload_n 0 dX3_leastCell_10 rfl rfl ?_
      refine v_iload_n 2 dX3_leastCell_11 rfl rfl ?_
      obtain ⟨g1, hh⟩ := chk_some hh
      replace g1 := inb_in g1
      refine ld_cells hj dX3_leastCell_12 g1 ?_
      refine v_aload_n 0 dX3_leastCell_13 rfl rfl ?_
      refine v_iload_n 1 dX3_leastCell_14 rfl rfl ?_
      obtain ⟨g2, hh⟩ := chk_some hh
      replace g2 := inb_in g2
      refine ld_cells hj dX3_leastCell_15 g2 ?_
      refine v_icmp_ge (tgt := 21) dX3_leastCell_16 (by decide) (fun c => ?_) (fun c => ?_)
      · replace hh := (if_pos c).symm.trans hh
        refine v_iinc (v := _ + (1 : Int32)) 2 dX3_leastCell_21 rfl rfl (by decide) rfl ?_
        replace hh := lt_of hh
        refine v_goto (tgt := 4) dX3_leastCell_24 (by decide) ?_
        exact v_sub [1, 2, 0] rfl (ih _ _ _ hS0 hh)
      · replace hh := (if_neg c).symm.trans hh
        refine v_iload_n 2 dX3_leastCell_19 rfl rfl ?_
        refine v_istore_n dX3_leastCell_20 rfl (by decide) rfl ?_
        refine v_iinc (v := _ + (1 : Int32)) 2 dX3_leastCell_21 rfl rfl (by decide) rfl ?_
        replace hh := lt_of hh
        refine v_goto (tgt := 4) dX3_leastCell_24 (by decide) ?_
        exact v_sub [2, 1, 0] rfl (ih _ _ _ hS0 hh)
def f_X3_leastCell (N : Nat) (j : Nat) (S : St)  : Option (Int32) :=
  f_X3_leastCell_b4 N j N (0 : Int32) (1 : Int32) S
set_option maxRecDepth 100000 in
set_option maxHeartbeats 4000000 in
theorem t_X3_leastCell {l : Launch} {G : v_G} {N : Nat} {S : St} {j : Nat} (hj : j < 66)  {r : Int32} (hh : f_X3_leastCell N j S  = some r) : v_M l G yX3_leastCell cX3_leastCell 3 (some .int) 0 0 0 [.ref (v_B G + (so j + 1))] (lay G S) (QI r (lay G S)) := by
  refine v_entry (by decide) (Nat.le_of_ble_eq_true rfl) ?_
  unfold f_X3_leastCell at hh
  show V l G yX3_leastCell cX3_leastCell 3 (some .int) (v_rm 0 0 0) (QI r (lay G S)) 0 0 0 [(0, .ref (v_B G + (so j + 1)))] [] (lay G S)
  refine v_iconst dX3_leastCell_0 (by decide : _ = (0 : Int32)) ?_
  refine v_istore_n dX3_leastCell_1 rfl (by decide) rfl ?_
  refine v_iconst dX3_leastCell_2 (by decide : _ = (1 : Int32)) ?_
  refine v_istore_n dX3_leastCell_3 rfl (by decide) rfl ?_
  exact v_sub [2, 1, 0] rfl (tb_X3_leastCell_4 hj N _ _ _ rfl hh)
def f_X3_mostCell_b4 (N : Nat) (j : Nat) : Nat → Int32 → Int32 → St → Option (Int32)
  | 0, _, _, _ => none
  | n + 1, x1, x2, S =>
  if (12 : Int32) ≤ x2 then
  (some x1)
  else
  (chk (inb x2 12) (
  chk (inb x1 12) (
  if (gI S 400 j x2.toNatClampNeg) ≤ (gI S 400 j x1.toNatClampNeg) then
  (lt (x2 + (1 : Int32)) fun v3 =>
  f_X3_mostCell_b4 N j n x1 v3 S)
  else
  (lt (x2 + (1 : Int32)) fun v4 =>
  f_X3_mostCell_b4 N j n x2 v4 S))))
set_option maxRecDepth 100000 in
set_option maxHeartbeats 4000000 in
theorem tb_X3_mostCell_4 {l : Launch} {G : v_G} {N : Nat} {j : Nat} (hj : j < 66)  {r : Int32} {S0 : St}   : ∀ (n : Nat) (x1 : Int32) (x2 : Int32) (S : St),  S = S0 → f_X3_mostCell_b4 N j n x1 x2 S = some r → V l G yX3_mostCell cX3_mostCell 3 (some .int) (v_rm 0 0 0) (QI r (lay G S0)) 0 0 4 [(0, .ref (v_B G + (so j + 1))), (1, .int x1), (2, .int x2)] [] (lay G S) := by
  intro n
  induction n with
  | zero =>
    intro x1 x2 S  hS0 hh
    rw [f_X3_mostCell_b4] at hh
    cases hh
  | succ n ih =>
    intro x1 x2 S  hS0 hh
    rw [f_X3_mostCell_b4] at hh
    refine v_iload_n 2 dX3_mostCell_4 rfl rfl ?_
    refine v_bipush dX3_mostCell_5 (by decide : _ = (12 : Int32)) ?_
    refine v_icmp_ge (tgt := 27) dX3_mostCell_7 (by decide) (fun c => ?_) (fun c => ?_)
    · replace hh := (if_pos c).symm.trans hh
      refine v_iload_n 1 dX3_mostCell_27 rfl rfl ?_
      obtain rfl := Option.some.inj hh
      exact v_iret dX3_mostCell_28 rfl (Nat.zero_le _) (Nat.zero_le _) ⟨rfl, by rw [hS0]⟩
    · replace hh := (if_neg c).symm.trans hh
      refine v_aload_n 0 dX3_mostCell_10 rfl rfl ?_
      refine v_iload_n 2 dX3_mostCell_11 rfl rfl ?_
      obtain ⟨g1, hh⟩ := chk_some hh
      replace g1 := inb_in g1
      refine ld_cells hj dX3_mostCell_12 g1 ?_
      refine v_aload_n 0 dX3_mostCell_13 rfl rfl ?_
      refine v_iload_n 1 dX3_mostCell_14 rfl rfl ?_
      obtain ⟨g2, hh⟩ := chk_some hh
      replace g2 := inb_in g2
      refine ld_cells hj dX3_mostCell_15 g2 ?_
      refine v_icmp_le (tgt := 21) dX3_mostCell_16 (by decide) (fun c => ?_) (fun c => ?_)
      · replace hh := (if_pos c).symm.trans hh
        refine v_iinc (v := _ + (1 : Int32)) 2 dX3_mostCell_21 rfl rfl (by decide) rfl ?_
        replace hh := lt_of hh
        refine v_goto (tgt := 4) dX3_mostCell_24 (by decide) ?_
        exact v_sub [1, 2, 0] rfl (ih _ _ _ hS0 hh)
      · replace hh := (if_neg c).symm.trans hh
        refine v_iload_n 2 dX3_mostCell_19 rfl rfl ?_
        refine v_istore_n dX3_mostCell_20 rfl (by decide) rfl ?_
        refine v_iinc (v := _ + (1 : Int32)) 2 dX3_mostCell_21 rfl rfl (by decide) rfl ?_
        replace hh := lt_of hh
        refine v_goto (tgt := 4) dX3_mostCell_24 (by decide) ?_
        exact v_sub [2, 1, 0] rfl (ih _ _ _ hS0 hh)
def f_X3_mostCell (N : Nat) (j : Nat) (S : St)  : Option (Int32) :=
  f_X3_mostCell_b4 N j N (0 : Int32) (1 : Int32) S
set_option maxRecDepth 100000 in
set_option maxHeartbeats 4000000 in
theorem t_X3_mostCell {l : Launch} {G : v_G} {N : Nat} {S : St} {j : Nat} (hj : j < 66)  {r : Int32} (hh : f_X3_mostCell N j S  = some r) : v_M l G yX3_mostCell cX3_mostCell 3 (some .int) 0 0 0 [.ref (v_B G + (so j + 1))] (lay G S) (QI r (lay G S)) := by
  refine v_entry (by decide) (Nat.le_of_ble_eq_true rfl) ?_
  unfold f_X3_mostCell at hh
  show V l G yX3_mostCell cX3_mostCell 3 (some .int) (v_rm 0 0 0) (QI r (lay G S)) 0 0 0 [(0, .ref (v_B G + (so j + 1)))] [] (lay G S)
  refine v_iconst dX3_mostCell_0 (by decide : _ = (0 : Int32)) ?_
  refine v_istore_n dX3_mostCell_1 rfl (by decide) rfl ?_
  refine v_iconst dX3_mostCell_2 (by decide : _ = (1 : Int32)) ?_
  refine v_istore_n dX3_mostCell_3 rfl (by decide) rfl ?_
  exact v_sub [2, 1, 0] rfl (tb_X3_mostCell_4 hj N _ _ _ rfl hh)
def f_X3_rowsAbove_b4 (N : Nat) (j : Nat) : Nat → Int32 → Int32 → Int32 → St → Option (Int32)
  | 0, _, _, _, _ => none
  | n + 1, x1, x2, x3, S =>
  if (12 : Int32) ≤ x3 then
  (some x2)
  else
  (chk (inb x3 12) (
  if (gI S 400 j x3.toNatClampNeg) ≤ x1 then
  (lt (x3 + (1 : Int32)) fun v2 =>
  f_X3_rowsAbove_b4 N j n x1 x2 v2 S)
  else
  (if x3 = (0 : Int32) then
  (lt (x2 + (1 : Int32)) fun v3 =>
  lt (x3 + (1 : Int32)) fun v4 =>
  f_X3_rowsAbove_b4 N j n x1 v3 v4 S)
  else
  (chk (inb (x3 - (1 : Int32)) 12) (
  if x1 < (gI S 400 j (x3 - (1 : Int32)).toNatClampNeg) then
  (lt (x3 + (1 : Int32)) fun v6 =>
  f_X3_rowsAbove_b4 N j n x1 x2 v6 S)
  else
  (lt (x2 + (1 : Int32)) fun v7 =>
  lt (x3 + (1 : Int32)) fun v8 =>
  f_X3_rowsAbove_b4 N j n x1 v7 v8 S))))))
set_option maxRecDepth 100000 in
set_option maxHeartbeats 4000000 in
theorem tb_X3_rowsAbove_4 {l : Launch} {G : v_G} {N : Nat} {j : Nat} (hj : j < 66)  {r : Int32} {S0 : St}   : ∀ (n : Nat) (x1 : Int32) (x2 : Int32) (x3 : Int32) (S : St),  S = S0 → f_X3_rowsAbove_b4 N j n x1 x2 x3 S = some r → V l G yX3_rowsAbove cX3_rowsAbove 4 (some .int) (v_rm 0 0 0) (QI r (lay G S0)) 0 0 4 [(0, .ref (v_B G + (so j + 1))), (1, .int x1), (2, .int x2), (3, .int x3)] [] (lay G S) := by
  intro n
  induction n with
  | zero =>
    intro x1 x2 x3 S  hS0 hh
    rw [f_X3_rowsAbove_b4] at hh
    cases hh
  | succ n ih =>
    intro x1 x2 x3 S  hS0 hh
    rw [f_X3_rowsAbove_b4] at hh
    refine v_iload_n 3 dX3_rowsAbove_4 rfl rfl ?_
    refine v_bipush dX3_rowsAbove_5 (by decide : _ = (12 : Int32)) ?_
    refine v_icmp_ge (tgt := 39) dX3_rowsAbove_7 (by decide) (fun c => ?_) (fun c => ?_)
    · replace hh := (if_pos c).symm.trans hh
      refine v_iload_n 2 dX3_rowsAbove_39 rfl rfl ?_
      obtain rfl := Option.some.inj hh
      exact v_iret dX3_rowsAbove_40 rfl (Nat.zero_le _) (Nat.zero_le _) ⟨rfl, by rw [hS0]⟩
    · replace hh := (if_neg c).symm.trans hh
      refine v_aload_n 0 dX3_rowsAbove_10 rfl rfl ?_
      refine v_iload_n 3 dX3_rowsAbove_11 rfl rfl ?_
      obtain ⟨g1, hh⟩ := chk_some hh
      replace g1 := inb_in g1
      refine ld_cells hj dX3_rowsAbove_12 g1 ?_
      refine v_iload_n 1 dX3_rowsAbove_13 rfl rfl ?_
      refine v_icmp_le (tgt := 33) dX3_rowsAbove_14 (by decide) (fun c => ?_) (fun c => ?_)
      · replace hh := (if_pos c).symm.trans hh
        refine v_iinc (v := _ + (1 : Int32)) 3 dX3_rowsAbove_33 rfl rfl (by decide) rfl ?_
        replace hh := lt_of hh
        refine v_goto (tgt := 4) dX3_rowsAbove_36 (by decide) ?_
        exact v_sub [1, 2, 3, 0] rfl (ih _ _ _ _ hS0 hh)
      · replace hh := (if_neg c).symm.trans hh
        refine v_iload_n 3 dX3_rowsAbove_17 rfl rfl ?_
        refine v_if_eq (tgt := 30) dX3_rowsAbove_18 (by decide) (fun c => ?_) (fun c => ?_)
        · replace hh := (if_pos c).symm.trans hh
          refine v_iinc (v := _ + (1 : Int32)) 2 dX3_rowsAbove_30 rfl rfl (by decide) rfl ?_
          replace hh := lt_of hh
          refine v_iinc (v := _ + (1 : Int32)) 3 dX3_rowsAbove_33 rfl rfl (by decide) rfl ?_
          replace hh := lt_of hh
          refine v_goto (tgt := 4) dX3_rowsAbove_36 (by decide) ?_
          exact v_sub [2, 3, 1, 0] rfl (ih _ _ _ _ hS0 hh)
        · replace hh := (if_neg c).symm.trans hh
          refine v_aload_n 0 dX3_rowsAbove_21 rfl rfl ?_
          refine v_iload_n 3 dX3_rowsAbove_22 rfl rfl ?_
          refine v_iconst dX3_rowsAbove_23 (by decide : _ = (1 : Int32)) ?_
          refine v_isub dX3_rowsAbove_24 ?_
          obtain ⟨g5, hh⟩ := chk_some hh
          replace g5 := inb_in g5
          refine ld_cells hj dX3_rowsAbove_25 g5 ?_
          refine v_iload_n 1 dX3_rowsAbove_26 rfl rfl ?_
          refine v_icmp_gt (tgt := 33) dX3_rowsAbove_27 (by decide) (fun c => ?_) (fun c => ?_)
          · replace hh := (if_pos c).symm.trans hh
            refine v_iinc (v := _ + (1 : Int32)) 3 dX3_rowsAbove_33 rfl rfl (by decide) rfl ?_
            replace hh := lt_of hh
            refine v_goto (tgt := 4) dX3_rowsAbove_36 (by decide) ?_
            exact v_sub [1, 2, 3, 0] rfl (ih _ _ _ _ hS0 hh)
          · replace hh := (if_neg c).symm.trans hh
            refine v_iinc (v := _ + (1 : Int32)) 2 dX3_rowsAbove_30 rfl rfl (by decide) rfl ?_
            replace hh := lt_of hh
            refine v_iinc (v := _ + (1 : Int32)) 3 dX3_rowsAbove_33 rfl rfl (by decide) rfl ?_
            replace hh := lt_of hh
            refine v_goto (tgt := 4) dX3_rowsAbove_36 (by decide) ?_
            exact v_sub [2, 3, 1, 0] rfl (ih _ _ _ _ hS0 hh)
def f_X3_rowsAbove (N : Nat) (j : Nat) (S : St) (x1 : Int32) : Option (Int32) :=
  f_X3_rowsAbove_b4 N j N x1 (0 : Int32) (0 : Int32) S
set_option maxRecDepth 100000 in
set_option maxHeartbeats 4000000 in
theorem t_X3_rowsAbove {l : Launch} {G : v_G} {N : Nat} {S : St} {j : Nat} (hj : j < 66) {x1 : Int32} {r : Int32} (hh : f_X3_rowsAbove N j S x1 = some r) : v_M l G yX3_rowsAbove cX3_rowsAbove 4 (some .int) 0 0 0 [.ref (v_B G + (so j + 1)), .int x1] (lay G S) (QI r (lay G S)) := by
  refine v_entry (by decide) (Nat.le_of_ble_eq_true rfl) ?_
  unfold f_X3_rowsAbove at hh
  show V l G yX3_rowsAbove cX3_rowsAbove 4 (some .int) (v_rm 0 0 0) (QI r (lay G S)) 0 0 0 [(0, .ref (v_B G + (so j + 1))), (1, .int x1)] [] (lay G S)
  refine v_iconst dX3_rowsAbove_0 (by decide : _ = (0 : Int32)) ?_
  refine v_istore_n dX3_rowsAbove_1 rfl (by decide) rfl ?_
  refine v_iconst dX3_rowsAbove_2 (by decide : _ = (0 : Int32)) ?_
  refine v_istore_n dX3_rowsAbove_3 rfl (by decide) rfl ?_
  exact v_sub [2, 3, 1, 0] rfl (tb_X3_rowsAbove_4 hj N _ _ _ _ rfl hh)
def f_X3_cellsAbove_b4 (N : Nat) (j : Nat) : Nat → Int32 → Int32 → Int32 → St → Option (Int32)
  | 0, _, _, _, _ => none
  | n + 1, x1, x2, x3, S =>
  if (12 : Int32) ≤ x3 then
  (some x2)
  else
  (chk (inb x3 12) (
  if (gI S 400 j x3.toNatClampNeg) ≤ x1 then
  (lt (x3 + (1 : Int32)) fun v2 =>
  f_X3_cellsAbove_b4 N j n x1 x2 v2 S)
  else
  (lt (x2 + (1 : Int32)) fun v3 =>
  lt (x3 + (1 : Int32)) fun v4 =>
  f_X3_cellsAbove_b4 N j n x1 v3 v4 S)))
set_option maxRecDepth 100000 in
set_option maxHeartbeats 4000000 in
theorem tb_X3_cellsAbove_4 {l : Launch} {G : v_G} {N : Nat} {j : Nat} (hj : j < 66)  {r : Int32} {S0 : St}   : ∀ (n : Nat) (x1 : Int32) (x2 : Int32) (x3 : Int32) (S : St),  S = S0 → f_X3_cellsAbove_b4 N j n x1 x2 x3 S = some r → V l G yX3_cellsAbove cX3_cellsAbove 4 (some .int) (v_rm 0 0 0) (QI r (lay G S0)) 0 0 4 [(0, .ref (v_B G + (so j + 1))), (1, .int x1), (2, .int x2), (3, .int x3)] [] (lay G S) := by
  intro n
  induction n with
  | zero =>
    intro x1 x2 x3 S  hS0 hh
    rw [f_X3_cellsAbove_b4] at hh
    cases hh
  | succ n ih =>
    intro x1 x2 x3 S  hS0 hh
    rw [f_X3_cellsAbove_b4] at hh
    refine v_iload_n 3 dX3_cellsAbove_4 rfl rfl ?_
    refine v_bipush dX3_cellsAbove_5 (by decide : _ = (12 : Int32)) ?_
    refine v_icmp_ge (tgt := 26) dX3_cellsAbove_7 (by decide) (fun c => ?_) (fun c => ?_)
    · replace hh := (if_pos c).symm.trans hh
      refine v_iload_n 2 dX3_cellsAbove_26 rfl rfl ?_
      obtain rfl := Option.some.inj hh
      exact v_iret dX3_cellsAbove_27 rfl (Nat.zero_le _) (Nat.zero_le _) ⟨rfl, by rw [hS0]⟩
    · replace hh := (if_neg c).symm.trans hh
      refine v_aload_n 0 dX3_cellsAbove_10 rfl rfl ?_
      refine v_iload_n 3 dX3_cellsAbove_11 rfl rfl ?_
      obtain ⟨g1, hh⟩ := chk_some hh
      replace g1 := inb_in g1
      refine ld_cells hj dX3_cellsAbove_12 g1 ?_
      refine v_iload_n 1 dX3_cellsAbove_13 rfl rfl ?_
      refine v_icmp_le (tgt := 20) dX3_cellsAbove_14 (by decide) (fun c => ?_) (fun c => ?_)
      · replace hh := (if_pos c).symm.trans hh
        refine v_iinc (v := _ + (1 : Int32)) 3 dX3_cellsAbove_20 rfl rfl (by decide) rfl ?_
        replace hh := lt_of hh
        refine v_goto (tgt := 4) dX3_cellsAbove_23 (by decide) ?_
        exact v_sub [1, 2, 3, 0] rfl (ih _ _ _ _ hS0 hh)
      · replace hh := (if_neg c).symm.trans hh
        refine v_iinc (v := _ + (1 : Int32)) 2 dX3_cellsAbove_17 rfl rfl (by decide) rfl ?_
        replace hh := lt_of hh
        refine v_iinc (v := _ + (1 : Int32)) 3 dX3_cellsAbove_20 rfl rfl (by decide) rfl ?_
        replace hh := lt_of hh
        refine v_goto (tgt := 4) dX3_cellsAbove_23 (by decide) ?_
        exact v_sub [2, 3, 1, 0] rfl (ih _ _ _ _ hS0 hh)
def f_X3_cellsAbove (N : Nat) (j : Nat) (S : St) (x1 : Int32) : Option (Int32) :=
  f_X3_cellsAbove_b4 N j N x1 (0 : Int32) (0 : Int32) S
set_option maxRecDepth 100000 in
set_option maxHeartbeats 4000000 in
theorem t_X3_cellsAbove {l : Launch} {G : v_G} {N : Nat} {S : St} {j : Nat} (hj : j < 66) {x1 : Int32} {r : Int32} (hh : f_X3_cellsAbove N j S x1 = some r) : v_M l G yX3_cellsAbove cX3_cellsAbove 4 (some .int) 0 0 0 [.ref (v_B G + (so j + 1)), .int x1] (lay G S) (QI r (lay G S)) := by
  refine v_entry (by decide) (Nat.le_of_ble_eq_true rfl) ?_
  unfold f_X3_cellsAbove at hh
  show V l G yX3_cellsAbove cX3_cellsAbove 4 (some .int) (v_rm 0 0 0) (QI r (lay G S)) 0 0 0 [(0, .ref (v_B G + (so j + 1))), (1, .int x1)] [] (lay G S)
  refine v_iconst dX3_cellsAbove_0 (by decide : _ = (0 : Int32)) ?_
  refine v_istore_n dX3_cellsAbove_1 rfl (by decide) rfl ?_
  refine v_iconst dX3_cellsAbove_2 (by decide : _ = (0 : Int32)) ?_
  refine v_istore_n dX3_cellsAbove_3 rfl (by decide) rfl ?_
  exact v_sub [2, 3, 1, 0] rfl (tb_X3_cellsAbove_4 hj N _ _ _ _ rfl hh)
