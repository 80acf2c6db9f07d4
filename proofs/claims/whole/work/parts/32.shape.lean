def f_X3_sum_b9 (N : Nat) (j : Nat) : Nat → Int32 → Int32 → Int32 → St → Option (Int32)
  | 0, _, _, _, _ => none
  | n + 1, x2, x3, x4, S =>
  if x2 ≤ x4 then
  (some x3)
  else
  (if (12 : Int32) ≤ x4 then
  (some x3)
  else
  (chk (inb x4 12) (
  lt (x3 + (gI S 400 j x4.toNatClampNeg)) fun v3 =>
  lt (x4 + (1 : Int32)) fun v4 =>
  f_X3_sum_b9 N j n x2 v3 v4 S)))
set_option maxRecDepth 100000 in
set_option maxHeartbeats 4000000 in
theorem tb_X3_sum_9 {l : Launch} {G : v_G} {N : Nat}  {j : Nat} (hj : j < 66)  {r : Int32} {S0 : St}   : ∀ (n : Nat) (x2 : Int32) (x3 : Int32) (x4 : Int32) (S : St),  S = S0 → f_X3_sum_b9 N j n x2 x3 x4 S = some r → V l G yX3_sum cX3_sum 5 (some .int) (v_rm 1 0 0) (QI r (lay G S0)) 0 0 9 [(0, .ref (v_B G + (so j + 1))), (2, .int x2), (3, .int x3), (4, .int x4)] [] (lay G S) := by
  intro n
  induction n with
  | zero =>
    intro x2 x3 x4 S  hS0 hh
    rw [f_X3_sum_b9] at hh
    cases hh
  | succ n ih =>
    intro x2 x3 x4 S  hS0 hh
    rw [f_X3_sum_b9] at hh
    refine v_iload 3 dX3_sum_9 rfl ?_
    refine v_iload_n 1 dX3_sum_11 rfl rfl ?_
    refine v_icmp_ge (tgt := 35) dX3_sum_12 (by decide) (fun c => ?_) (fun c => ?_)
    · replace hh := (if_pos c).symm.trans hh
      refine v_iload_n 2 dX3_sum_35 rfl rfl ?_
      obtain rfl := Option.some.inj hh
      exact v_iret dX3_sum_36 rfl (Nat.zero_le _) (Nat.zero_le _) ⟨rfl, by rw [hS0]⟩
    · replace hh := (if_neg c).symm.trans hh
      refine v_iload 3 dX3_sum_15 rfl ?_
      refine v_aload_n 0 dX3_sum_17 rfl rfl ?_
      refine ln_cells hj dX3_sum_18 ?_
      refine v_icmp_ge (tgt := 35) dX3_sum_19 (by decide) (fun c => ?_) (fun c => ?_)
      · replace hh := (if_pos c).symm.trans hh
        refine v_iload_n 2 dX3_sum_35 rfl rfl ?_
        obtain rfl := Option.some.inj hh
        exact v_iret dX3_sum_36 rfl (Nat.zero_le _) (Nat.zero_le _) ⟨rfl, by rw [hS0]⟩
      · replace hh := (if_neg c).symm.trans hh
        refine v_iload_n 2 dX3_sum_22 rfl rfl ?_
        refine v_aload_n 0 dX3_sum_23 rfl rfl ?_
        refine v_iload 3 dX3_sum_24 rfl ?_
        obtain ⟨g2, hh⟩ := chk_some hh
        replace g2 := inb_in g2
        refine ld_cells hj dX3_sum_26 g2 ?_
        refine v_iadd dX3_sum_27 ?_
        refine v_istore_n dX3_sum_28 rfl (by decide) rfl ?_
        replace hh := lt_of hh
        refine v_iinc (v := _ + (1 : Int32)) 3 dX3_sum_29 rfl rfl (by decide) rfl ?_
        replace hh := lt_of hh
        refine v_goto (tgt := 9) dX3_sum_32 (by decide) ?_
        exact v_sub [2, 3, 1, 0] rfl (ih _ _ _ _ hS0 hh)
def f_X3_sum (N : Nat) (j : Nat) (S : St) (x1 : Int32) (x2 : Int32) : Option (Int32) :=
  lt (if (0 : Int32) < x1 then x1 else (0 : Int32)) fun v1 =>
  f_X3_sum_b9 N j N x2 (0 : Int32) v1 S
set_option maxRecDepth 100000 in
set_option maxHeartbeats 4000000 in
theorem t_X3_sum {l : Launch} {G : v_G} {N : Nat} {S : St}  {j : Nat} (hj : j < 66) {x1 : Int32} {x2 : Int32} {r : Int32} (hh : f_X3_sum N j S x1 x2 = some r) : v_M l G yX3_sum cX3_sum 5 (some .int) 1 0 0 [.ref (v_B G + (so j + 1)), .int x1, .int x2] (lay G S) (QI r (lay G S)) := by
  refine v_entry (by decide) (Nat.le_of_ble_eq_true rfl) ?_
  unfold f_X3_sum at hh
  show V l G yX3_sum cX3_sum 5 (some .int) (v_rm 1 0 0) (QI r (lay G S)) 0 0 0 [(0, .ref (v_B G + (so j + 1))), (1, .int x1), (2, .int x2)] [] (lay G S)
  refine v_iconst dX3_sum_0 (by decide : _ = (0 : Int32)) ?_
  refine v_istore_n dX3_sum_1 rfl (by decide) rfl ?_
  refine v_iconst dX3_sum_2 (by decide : _ = (0 : Int32)) ?_
  refine v_iload_n 2 dX3_sum_3 rfl rfl ?_
  refine v_mmax dX3_sum_4 ml_X3_18 y_J9_max_7cf53.2 y_J9_max_7cf53.1.2.1 y_J9_max_7cf53.1.1 (Nat.le_of_ble_eq_true rfl) (Nat.le_of_ble_eq_true rfl) (Nat.zero_le _) (Nat.zero_le _) ?_
  replace hh := lt_of hh
  refine v_istore dX3_sum_7 (by decide) rfl ?_
  exact v_sub [2, 4, 1, 0] rfl (tb_X3_sum_9 hj N _ _ _ _ rfl hh)
def f_X3_water_b40 (rec4 : (Int32 → Int32 → St → Option (Int32))) (rec18 : (Int32 → Int32 → Int32 → Int32 → Int32 → St → Option (Int32))) (N : Nat) (j : Nat) (x1 : Int32) (x2 : Int32) (x3 : Int32) (x4 : Int32) (x5 : Int32) (S : St) : Option (Int32) :=
  if x5 < x2 then
  (lt (x5 + (1 : Int32)) fun v5 =>
  rec18 x1 x2 x3 x4 v5 S)
  else
  (chk (inb x5 12) (
  lt (if x4 < (gI S 400 j x5.toNatClampNeg) then (gI S 400 j x5.toNatClampNeg) else x4) fun v7 =>
  lt (x5 + (1 : Int32)) fun v8 =>
  rec18 x1 x2 x3 v7 v8 S))
set_option maxRecDepth 100000 in
set_option maxHeartbeats 4000000 in
theorem tb_X3_water_40 {l : Launch} {G : v_G} {N : Nat}  {j : Nat} (hj : j < 66)  {r : Int32} {S0 : St} {rec4 : (Int32 → Int32 → St → Option (Int32))} {rec18 : (Int32 → Int32 → Int32 → Int32 → Int32 → St → Option (Int32))} (hrec4 : ∀ (x1 : Int32) (x2 : Int32) (S : St),  S = S0 → rec4 x1 x2 S = some r → V l G yX3_water cX3_water 6 (some .int) (v_rm 1 0 0) (QI r (lay G S0)) 0 0 4 [(0, .ref (v_B G + (so j + 1))), (1, .int x1), (2, .int x2)] [] (lay G S)) (hrec18 : ∀ (x1 : Int32) (x2 : Int32) (x3 : Int32) (x4 : Int32) (x5 : Int32) (S : St),  S = S0 → rec18 x1 x2 x3 x4 x5 S = some r → V l G yX3_water cX3_water 6 (some .int) (v_rm 1 0 0) (QI r (lay G S0)) 0 0 18 [(0, .ref (v_B G + (so j + 1))), (1, .int x1), (2, .int x2), (3, .int x3), (4, .int x4), (5, .int x5)] [] (lay G S)) : ∀ (x1 : Int32) (x2 : Int32) (x3 : Int32) (x4 : Int32) (x5 : Int32) (S : St),  S = S0 → f_X3_water_b40 rec4 rec18 N j x1 x2 x3 x4 x5 S = some r → V l G yX3_water cX3_water 6 (some .int) (v_rm 1 0 0) (QI r (lay G S0)) 0 0 40 [(0, .ref (v_B G + (so j + 1))), (1, .int x1), (2, .int x2), (3, .int x3), (4, .int x4), (5, .int x5)] [] (lay G S) := by
  intro x1 x2 x3 x4 x5 S  hS0 hh
  unfold f_X3_water_b40 at hh
  refine v_iload 5 dX3_water_40 rfl ?_
  refine v_iload_n 2 dX3_water_42 rfl rfl ?_
  refine v_icmp_lt (tgt := 57) dX3_water_43 (by decide) (fun c => ?_) (fun c => ?_)
  · replace hh := (if_pos c).symm.trans hh
    refine v_iinc (v := _ + (1 : Int32)) 5 dX3_water_57 rfl rfl (by decide) rfl ?_
    replace hh := lt_of hh
    refine v_goto (tgt := 18) dX3_water_60 (by decide) ?_
    exact v_sub [1, 2, 3, 4, 5, 0] rfl (hrec18 _ _ _ _ _ _ hS0 hh)
  · replace hh := (if_neg c).symm.trans hh
    refine v_iload 4 dX3_water_46 rfl ?_
    refine v_aload_n 0 dX3_water_48 rfl rfl ?_
    refine v_iload 5 dX3_water_49 rfl ?_
    obtain ⟨g6, hh⟩ := chk_some hh
    replace g6 := inb_in g6
    refine ld_cells hj dX3_water_51 g6 ?_
    refine v_mmax dX3_water_52 ml_X3_18 y_J9_max_7cf53.2 y_J9_max_7cf53.1.2.1 y_J9_max_7cf53.1.1 (Nat.le_of_ble_eq_true rfl) (Nat.le_of_ble_eq_true rfl) (Nat.zero_le _) (Nat.zero_le _) ?_
    replace hh := lt_of hh
    refine v_istore dX3_water_55 (by decide) rfl ?_
    refine v_iinc (v := _ + (1 : Int32)) 5 dX3_water_57 rfl rfl (by decide) rfl ?_
    replace hh := lt_of hh
    refine v_goto (tgt := 18) dX3_water_60 (by decide) ?_
    exact v_sub [2, 3, 4, 5, 1, 0] rfl (hrec18 _ _ _ _ _ _ hS0 hh)
def f_X3_water_b18 (rec4 : (Int32 → Int32 → St → Option (Int32))) (N : Nat) (j : Nat) : Nat → Int32 → Int32 → Int32 → Int32 → Int32 → St → Option (Int32)
  | 0, _, _, _, _, _, _ => none
  | n + 1, x1, x2, x3, x4, x5, S =>
  if (12 : Int32) ≤ x5 then
  (lt (if x4 < x3 then x4 else x3) fun v1 =>
  chk (inb x2 12) (
  lt (x1 + (v1 - (gI S 400 j x2.toNatClampNeg))) fun v3 =>
  lt (x2 + (1 : Int32)) fun v4 =>
  rec4 v3 v4 S))
  else
  (if x2 < x5 then
  (f_X3_water_b40 rec4 (f_X3_water_b18 rec4 N j n) N j x1 x2 x3 x4 x5 S)
  else
  (chk (inb x5 12) (
  lt (if x3 < (gI S 400 j x5.toNatClampNeg) then (gI S 400 j x5.toNatClampNeg) else x3) fun v10 =>
  f_X3_water_b40 rec4 (f_X3_water_b18 rec4 N j n) N j x1 x2 v10 x4 x5 S)))
set_option maxRecDepth 100000 in
set_option maxHeartbeats 4000000 in
theorem tb_X3_water_18 {l : Launch} {G : v_G} {N : Nat}  {j : Nat} (hj : j < 66)  {r : Int32} {S0 : St} {rec4 : (Int32 → Int32 → St → Option (Int32))} (hrec4 : ∀ (x1 : Int32) (x2 : Int32) (S : St),  S = S0 → rec4 x1 x2 S = some r → V l G yX3_water cX3_water 6 (some .int) (v_rm 1 0 0) (QI r (lay G S0)) 0 0 4 [(0, .ref (v_B G + (so j + 1))), (1, .int x1), (2, .int x2)] [] (lay G S)) : ∀ (n : Nat) (x1 : Int32) (x2 : Int32) (x3 : Int32) (x4 : Int32) (x5 : Int32) (S : St),  S = S0 → f_X3_water_b18 rec4 N j n x1 x2 x3 x4 x5 S = some r → V l G yX3_water cX3_water 6 (some .int) (v_rm 1 0 0) (QI r (lay G S0)) 0 0 18 [(0, .ref (v_B G + (so j + 1))), (1, .int x1), (2, .int x2), (3, .int x3), (4, .int x4), (5, .int x5)] [] (lay G S) := by
  intro n
  induction n with
  | zero =>
    intro x1 x2 x3 x4 x5 S  hS0 hh
    rw [f_X3_water_b18] at hh
    cases hh
  | succ n ih =>
    intro x1 x2 x3 x4 x5 S  hS0 hh
    rw [f_X3_water_b18] at hh
    refine v_iload 5 dX3_water_18 rfl ?_
    refine v_bipush dX3_water_20 (by decide : _ = (12 : Int32)) ?_
    refine v_icmp_ge (tgt := 63) dX3_water_22 (by decide) (fun c => ?_) (fun c => ?_)
    · replace hh := (if_pos c).symm.trans hh
      refine v_iload_n 1 dX3_water_63 rfl rfl ?_
      refine v_iload_n 3 dX3_water_64 rfl rfl ?_
      refine v_iload 4 dX3_water_65 rfl ?_
      refine v_mmin dX3_water_67 ml_X3_24 y_J9_min_7cf53.2 y_J9_min_7cf53.1.2.1 y_J9_min_7cf53.1.1 (Nat.le_of_ble_eq_true rfl) (Nat.le_of_ble_eq_true rfl) (Nat.zero_le _) (Nat.zero_le _) ?_
      replace hh := lt_of hh
      refine v_aload_n 0 dX3_water_70 rfl rfl ?_
      refine v_iload_n 2 dX3_water_71 rfl rfl ?_
      obtain ⟨g2, hh⟩ := chk_some hh
      replace g2 := inb_in g2
      refine ld_cells hj dX3_water_72 g2 ?_
      refine v_isub dX3_water_73 ?_
      refine v_iadd dX3_water_74 ?_
      refine v_istore_n dX3_water_75 rfl (by decide) rfl ?_
      replace hh := lt_of hh
      refine v_iinc (v := _ + (1 : Int32)) 2 dX3_water_76 rfl rfl (by decide) rfl ?_
      replace hh := lt_of hh
      refine v_goto (tgt := 4) dX3_water_79 (by decide) ?_
      exact v_sub [2, 1, 0] rfl (hrec4 _ _ _ hS0 hh)
    · replace hh := (if_neg c).symm.trans hh
      refine v_iload 5 dX3_water_25 rfl ?_
      refine v_iload_n 2 dX3_water_27 rfl rfl ?_
      refine v_icmp_gt (tgt := 40) dX3_water_28 (by decide) (fun c => ?_) (fun c => ?_)
      · replace hh := (if_pos c).symm.trans hh
        exact v_sub [0, 1, 2, 3, 4, 5] rfl (tb_X3_water_40 hj hrec4 (fun _ _ _ _ _ _ hS hh => ih _ _ _ _ _ _ hS hh) _ _ _ _ _ _ hS0 hh)
      · replace hh := (if_neg c).symm.trans hh
        refine v_iload_n 3 dX3_water_31 rfl rfl ?_
        refine v_aload_n 0 dX3_water_32 rfl rfl ?_
        refine v_iload 5 dX3_water_33 rfl ?_
        obtain ⟨g9, hh⟩ := chk_some hh
        replace g9 := inb_in g9
        refine ld_cells hj dX3_water_35 g9 ?_
        refine v_mmax dX3_water_36 ml_X3_18 y_J9_max_7cf53.2 y_J9_max_7cf53.1.2.1 y_J9_max_7cf53.1.1 (Nat.le_of_ble_eq_true rfl) (Nat.le_of_ble_eq_true rfl) (Nat.zero_le _) (Nat.zero_le _) ?_
        replace hh := lt_of hh
        refine v_istore_n dX3_water_39 rfl (by decide) rfl ?_
        exact v_sub [1, 2, 3, 0, 4, 5] rfl (tb_X3_water_40 hj hrec4 (fun _ _ _ _ _ _ hS hh => ih _ _ _ _ _ _ hS hh) _ _ _ _ _ _ hS0 hh)
def f_X3_water_b4 (N : Nat) (j : Nat) : Nat → Int32 → Int32 → St → Option (Int32)
  | 0, _, _, _ => none
  | n + 1, x1, x2, S =>
  if (12 : Int32) ≤ x2 then
  (some x1)
  else
  (f_X3_water_b18 (f_X3_water_b4 N j n) N j N x1 x2 (0 : Int32) (0 : Int32) (0 : Int32) S)
set_option maxRecDepth 100000 in
set_option maxHeartbeats 4000000 in
theorem tb_X3_water_4 {l : Launch} {G : v_G} {N : Nat}  {j : Nat} (hj : j < 66)  {r : Int32} {S0 : St}   : ∀ (n : Nat) (x1 : Int32) (x2 : Int32) (S : St),  S = S0 → f_X3_water_b4 N j n x1 x2 S = some r → V l G yX3_water cX3_water 6 (some .int) (v_rm 1 0 0) (QI r (lay G S0)) 0 0 4 [(0, .ref (v_B G + (so j + 1))), (1, .int x1), (2, .int x2)] [] (lay G S) := by
  intro n
  induction n with
  | zero =>
    intro x1 x2 S  hS0 hh
    rw [f_X3_water_b4] at hh
    cases hh
  | succ n ih =>
    intro x1 x2 S  hS0 hh
    rw [f_X3_water_b4] at hh
    refine v_iload_n 2 dX3_water_4 rfl rfl ?_
    refine v_bipush dX3_water_5 (by decide : _ = (12 : Int32)) ?_
    refine v_icmp_ge (tgt := 82) dX3_water_7 (by decide) (fun c => ?_) (fun c => ?_)
    · replace hh := (if_pos c).symm.trans hh
      refine v_iload_n 1 dX3_water_82 rfl rfl ?_
      obtain rfl := Option.some.inj hh
      exact v_iret dX3_water_83 rfl (Nat.zero_le _) (Nat.zero_le _) ⟨rfl, by rw [hS0]⟩
    · replace hh := (if_neg c).symm.trans hh
      refine v_iconst dX3_water_10 (by decide : _ = (0 : Int32)) ?_
      refine v_istore_n dX3_water_11 rfl (by decide) rfl ?_
      refine v_iconst dX3_water_12 (by decide : _ = (0 : Int32)) ?_
      refine v_istore dX3_water_13 (by decide) rfl ?_
      refine v_iconst dX3_water_15 (by decide : _ = (0 : Int32)) ?_
      refine v_istore dX3_water_16 (by decide) rfl ?_
      exact v_sub [3, 4, 5, 2, 1, 0] rfl (tb_X3_water_18 hj (fun _ _ _ hS hh => ih _ _ _ hS hh) N _ _ _ _ _ _ hS0 hh)
def f_X3_water (N : Nat) (j : Nat) (S : St)  : Option (Int32) :=
  f_X3_water_b4 N j N (0 : Int32) (0 : Int32) S
set_option maxRecDepth 100000 in
set_option maxHeartbeats 4000000 in
theorem t_X3_water {l : Launch} {G : v_G} {N : Nat} {S : St}  {j : Nat} (hj : j < 66)  {r : Int32} (hh : f_X3_water N j S  = some r) : v_M l G yX3_water cX3_water 6 (some .int) 1 0 0 [.ref (v_B G + (so j + 1))] (lay G S) (QI r (lay G S)) := by
  refine v_entry (by decide) (Nat.le_of_ble_eq_true rfl) ?_
  unfold f_X3_water at hh
  show V l G yX3_water cX3_water 6 (some .int) (v_rm 1 0 0) (QI r (lay G S)) 0 0 0 [(0, .ref (v_B G + (so j + 1)))] [] (lay G S)
  refine v_iconst dX3_water_0 (by decide : _ = (0 : Int32)) ?_
  refine v_istore_n dX3_water_1 rfl (by decide) rfl ?_
  refine v_iconst dX3_water_2 (by decide : _ = (0 : Int32)) ?_
  refine v_istore_n dX3_water_3 rfl (by decide) rfl ?_
  exact v_sub [2, 1, 0] rfl (tb_X3_water_4 hj N _ _ _ rfl hh)
def f_X3_glazed_b27 (rec10 : (Int32 → Int32 → Int32 → Int32 → Int32 → St → Option (Int32))) (N : Nat) (j : Nat) : Nat → Int32 → Int32 → Int32 → Int32 → Int32 → Int32 → Int32 → St → Option (Int32)
  | 0, _, _, _, _, _, _, _, _ => none
  | n + 1, x1, x2, x3, x4, x5, x6, x7, S =>
  if (12 : Int32) ≤ x7 then
  (lt (x5 + (1 : Int32)) fun v3 =>
  rec10 x1 x2 x3 x4 v3 S)
  else
  (chk (inb x7 12) (
  lt (if (gI S 400 j x7.toNatClampNeg) < x6 then (gI S 400 j x7.toNatClampNeg) else x6) fun v5 =>
  lt (v5 * ((x7 - x5) + (1 : Int32))) fun v6 =>
  if v6 ≤ x2 then
  (lt (x7 + (1 : Int32)) fun v7 =>
  f_X3_glazed_b27 rec10 N j n x1 x2 x3 x4 x5 v5 v7 S)
  else
  (lt ((x7 - x5) + (1 : Int32)) fun v8 =>
  lt (x7 + (1 : Int32)) fun v9 =>
  f_X3_glazed_b27 rec10 N j n x1 v6 x5 v8 x5 v5 v9 S)))
set_option maxRecDepth 100000 in
set_option maxHeartbeats 4000000 in
theorem tb_X3_glazed_27 {l : Launch} {G : v_G} {N : Nat}  {j : Nat} (hj : j < 66)  {r : Int32} {S0 : St} {rec10 : (Int32 → Int32 → Int32 → Int32 → Int32 → St → Option (Int32))} (hrec10 : ∀ (x1 : Int32) (x2 : Int32) (x3 : Int32) (x4 : Int32) (x5 : Int32) (S : St),  S = S0 → rec10 x1 x2 x3 x4 x5 S = some r → V l G yX3_glazed cX3_glazed 9 (some .int) (v_rm 1 0 0) (QI r (lay G S0)) 0 0 10 [(0, .ref (v_B G + (so j + 1))), (1, .int x1), (2, .int x2), (3, .int x3), (4, .int x4), (5, .int x5)] [] (lay G S)) : ∀ (n : Nat) (x1 : Int32) (x2 : Int32) (x3 : Int32) (x4 : Int32) (x5 : Int32) (x6 : Int32) (x7 : Int32) (S : St),  S = S0 → f_X3_glazed_b27 rec10 N j n x1 x2 x3 x4 x5 x6 x7 S = some r → V l G yX3_glazed cX3_glazed 9 (some .int) (v_rm 1 0 0) (QI r (lay G S0)) 0 0 27 [(0, .ref (v_B G + (so j + 1))), (1, .int x1), (2, .int x2), (3, .int x3), (4, .int x4), (5, .int x5), (6, .int x6), (7, .int x7)] [] (lay G S) := by
  intro n
  induction n with
  | zero =>
    intro x1 x2 x3 x4 x5 x6 x7 S  hS0 hh
    rw [f_X3_glazed_b27] at hh
    cases hh
  | succ n ih =>
    intro x1 x2 x3 x4 x5 x6 x7 S  hS0 hh
    rw [f_X3_glazed_b27] at hh
    refine v_iload 7 dX3_glazed_27 rfl ?_
    refine v_bipush dX3_glazed_29 (by decide : _ = (12 : Int32)) ?_
    refine v_icmp_ge (tgt := 84) dX3_glazed_31 (by decide) (fun c => ?_) (fun c => ?_)
    · replace hh := (if_pos c).symm.trans hh
      refine v_iinc (v := _ + (1 : Int32)) 5 dX3_glazed_84 rfl rfl (by decide) rfl ?_
      replace hh := lt_of hh
      refine v_goto (tgt := 10) dX3_glazed_87 (by decide) ?_
      exact v_sub [1, 2, 3, 4, 5, 0] rfl (hrec10 _ _ _ _ _ _ hS0 hh)
    · replace hh := (if_neg c).symm.trans hh
      refine v_iload 6 dX3_glazed_34 rfl ?_
      refine v_aload_n 0 dX3_glazed_36 rfl rfl ?_
      refine v_iload 7 dX3_glazed_37 rfl ?_
      obtain ⟨g4, hh⟩ := chk_some hh
      replace g4 := inb_in g4
      refine ld_cells hj dX3_glazed_39 g4 ?_
      refine v_mmin dX3_glazed_40 ml_X3_24 y_J9_min_7cf53.2 y_J9_min_7cf53.1.2.1 y_J9_min_7cf53.1.1 (Nat.le_of_ble_eq_true rfl) (Nat.le_of_ble_eq_true rfl) (Nat.zero_le _) (Nat.zero_le _) ?_
      replace hh := lt_of hh
      refine v_istore dX3_glazed_43 (by decide) rfl ?_
      refine v_iload 0 dX3_glazed_45 rfl ?_
      refine v_iload 7 dX3_glazed_47 rfl ?_
      refine v_iload 6 dX3_glazed_49 rfl ?_
      refine v_isub dX3_glazed_51 ?_
      refine v_iconst dX3_glazed_52 (by decide : _ = (1 : Int32)) ?_
      refine v_iadd dX3_glazed_53 ?_
      refine v_imul dX3_glazed_54 ?_
      refine v_istore dX3_glazed_55 (by decide) rfl ?_
      replace hh := lt_of hh
      refine v_iload 0 dX3_glazed_57 rfl ?_
      refine v_iload_n 4 dX3_glazed_59 rfl rfl ?_
      refine v_icmp_le (tgt := 78) dX3_glazed_60 (by decide) (fun c => ?_) (fun c => ?_)
      · replace hh := (if_pos c).symm.trans hh
        refine v_iinc (v := _ + (1 : Int32)) 8 dX3_glazed_78 rfl rfl (by decide) rfl ?_
        replace hh := lt_of hh
        refine v_goto (tgt := 27) dX3_glazed_81 (by decide) ?_
        exact v_sub [3, 4, 5, 6, 7, 8, 2, 0] rfl (ih _ _ _ _ _ _ _ _ hS0 hh)
      · replace hh := (if_neg c).symm.trans hh
        refine v_iload 0 dX3_glazed_63 rfl ?_
        refine v_istore_n dX3_glazed_65 rfl (by decide) rfl ?_
        refine v_iload 7 dX3_glazed_66 rfl ?_
        refine v_istore_n dX3_glazed_68 rfl (by decide) rfl ?_
        refine v_iload 8 dX3_glazed_69 rfl ?_
        refine v_iload 7 dX3_glazed_71 rfl ?_
        refine v_isub dX3_glazed_73 ?_
        refine v_iconst dX3_glazed_74 (by decide : _ = (1 : Int32)) ?_
        refine v_iadd dX3_glazed_75 ?_
        refine v_istore dX3_glazed_76 (by decide) rfl ?_
        replace hh := lt_of hh
        refine v_iinc (v := _ + (1 : Int32)) 8 dX3_glazed_78 rfl rfl (by decide) rfl ?_
        replace hh := lt_of hh
        refine v_goto (tgt := 27) dX3_glazed_81 (by decide) ?_
        exact v_sub [6, 7, 3, 2, 1, 8, 5, 0] rfl (ih _ _ _ _ _ _ _ _ hS0 hh)
def f_X3_glazed_b10 (N : Nat) (j : Nat) : Nat → Int32 → Int32 → Int32 → Int32 → Int32 → St → Option (Int32)
  | 0, _, _, _, _, _, _ => none
  | n + 1, x1, x2, x3, x4, x5, S =>
  if (12 : Int32) ≤ x5 then
  (if x1 = (0 : Int32) then
  (some x2)
  else
  (if x1 = (1 : Int32) then
  (some x3)
  else
  (some x4)))
  else
  (chk (inb x5 12) (
  lt (gI S 400 j x5.toNatClampNeg) fun v2 =>
  f_X3_glazed_b27 (f_X3_glazed_b10 N j n) N j N x1 x2 x3 x4 x5 v2 x5 S))
set_option maxRecDepth 100000 in
set_option maxHeartbeats 4000000 in
theorem tb_X3_glazed_10 {l : Launch} {G : v_G} {N : Nat}  {j : Nat} (hj : j < 66)  {r : Int32} {S0 : St}   : ∀ (n : Nat) (x1 : Int32) (x2 : Int32) (x3 : Int32) (x4 : Int32) (x5 : Int32) (S : St),  S = S0 → f_X3_glazed_b10 N j n x1 x2 x3 x4 x5 S = some r → V l G yX3_glazed cX3_glazed 9 (some .int) (v_rm 1 0 0) (QI r (lay G S0)) 0 0 10 [(0, .ref (v_B G + (so j + 1))), (1, .int x1), (2, .int x2), (3, .int x3), (4, .int x4), (5, .int x5)] [] (lay G S) := by
  intro n
  induction n with
  | zero =>
    intro x1 x2 x3 x4 x5 S  hS0 hh
    rw [f_X3_glazed_b10] at hh
    cases hh
  | succ n ih =>
    intro x1 x2 x3 x4 x5 S  hS0 hh
    rw [f_X3_glazed_b10] at hh
    refine v_iload 5 dX3_glazed_10 rfl ?_
    refine v_bipush dX3_glazed_12 (by decide : _ = (12 : Int32)) ?_
    refine v_icmp_ge (tgt := 90) dX3_glazed_14 (by decide) (fun c => ?_) (fun c => ?_)
    · replace hh := (if_pos c).symm.trans hh
      refine v_iload_n 1 dX3_glazed_90 rfl rfl ?_
      refine v_if_ne (tgt := 98) dX3_glazed_91 (by decide) (fun c => ?_) (fun c => ?_)
      · replace hh := (if_neg c).symm.trans hh
        refine v_iload_n 1 dX3_glazed_98 rfl rfl ?_
        refine v_iconst dX3_glazed_99 (by decide : _ = (1 : Int32)) ?_
        refine v_icmp_ne (tgt := 107) dX3_glazed_100 (by decide) (fun c => ?_) (fun c => ?_)
        · replace hh := (if_neg c).symm.trans hh
          refine v_iload 4 dX3_glazed_107 rfl ?_
          obtain rfl := Option.some.inj hh
          exact v_iret dX3_glazed_109 rfl (Nat.zero_le _) (Nat.zero_le _) ⟨rfl, by rw [hS0]⟩
        · replace hh := (if_pos c).symm.trans hh
          refine v_iload_n 3 dX3_glazed_103 rfl rfl ?_
          refine v_goto (tgt := 109) dX3_glazed_104 (by decide) ?_
          obtain rfl := Option.some.inj hh
          exact v_iret dX3_glazed_109 rfl (Nat.zero_le _) (Nat.zero_le _) ⟨rfl, by rw [hS0]⟩
      · replace hh := (if_pos c).symm.trans hh
        refine v_iload_n 2 dX3_glazed_94 rfl rfl ?_
        refine v_goto (tgt := 109) dX3_glazed_95 (by decide) ?_
        obtain rfl := Option.some.inj hh
        exact v_iret dX3_glazed_109 rfl (Nat.zero_le _) (Nat.zero_le _) ⟨rfl, by rw [hS0]⟩
    · replace hh := (if_neg c).symm.trans hh
      refine v_aload_n 0 dX3_glazed_17 rfl rfl ?_
      refine v_iload 5 dX3_glazed_18 rfl ?_
      obtain ⟨g1, hh⟩ := chk_some hh
      replace g1 := inb_in g1
      refine ld_cells hj dX3_glazed_20 g1 ?_
      refine v_istore dX3_glazed_21 (by decide) rfl ?_
      replace hh := lt_of hh
      refine v_iload 6 dX3_glazed_23 rfl ?_
      refine v_istore dX3_glazed_25 (by decide) rfl ?_
      exact v_sub [2, 3, 4, 5, 6, 7, 1, 0] rfl (tb_X3_glazed_27 hj (fun _ _ _ _ _ _ hS hh => ih _ _ _ _ _ _ hS hh) N _ _ _ _ _ _ _ _ hS0 hh)
def f_X3_glazed (N : Nat) (j : Nat) (S : St) (x1 : Int32) : Option (Int32) :=
  f_X3_glazed_b10 N j N x1 (-1 : Int32) (0 : Int32) (0 : Int32) (0 : Int32) S
set_option maxRecDepth 100000 in
set_option maxHeartbeats 4000000 in
theorem t_X3_glazed {l : Launch} {G : v_G} {N : Nat} {S : St}  {j : Nat} (hj : j < 66) {x1 : Int32} {r : Int32} (hh : f_X3_glazed N j S x1 = some r) : v_M l G yX3_glazed cX3_glazed 9 (some .int) 1 0 0 [.ref (v_B G + (so j + 1)), .int x1] (lay G S) (QI r (lay G S)) := by
  refine v_entry (by decide) (Nat.le_of_ble_eq_true rfl) ?_
  unfold f_X3_glazed at hh
  show V l G yX3_glazed cX3_glazed 9 (some .int) (v_rm 1 0 0) (QI r (lay G S)) 0 0 0 [(0, .ref (v_B G + (so j + 1))), (1, .int x1)] [] (lay G S)
  refine v_iconst dX3_glazed_0 (by decide : _ = (-1 : Int32)) ?_
  refine v_istore_n dX3_glazed_1 rfl (by decide) rfl ?_
  refine v_iconst dX3_glazed_2 (by decide : _ = (0 : Int32)) ?_
  refine v_istore_n dX3_glazed_3 rfl (by decide) rfl ?_
  refine v_iconst dX3_glazed_4 (by decide : _ = (0 : Int32)) ?_
  refine v_istore dX3_glazed_5 (by decide) rfl ?_
  refine v_iconst dX3_glazed_7 (by decide : _ = (0 : Int32)) ?_
  refine v_istore dX3_glazed_8 (by decide) rfl ?_
  exact v_sub [4, 5, 3, 2, 1, 0] rfl (tb_X3_glazed_10 hj N _ _ _ _ _ _ rfl hh)
def f_X3_climbed_b9 (N : Nat) (j : Nat) : Nat → Int32 → Int32 → Int32 → Int32 → Int32 → St → Option (Int32)
  | 0, _, _, _, _, _, _ => none
  | n + 1, x2, x3, x4, x5, x6, S =>
  if (12 : Int32) ≤ x6 then
  (some (-2 : Int32))
  else
  (chk (inb x6 13) (
  if (gI S 300 0 x6.toNatClampNeg) = x5 then
  (chk (inb x6 12) (
  if (gI S 400 j x6.toNatClampNeg) ≤ x4 then
  (lt (x6 + (1 : Int32)) fun v4 =>
  f_X3_climbed_b9 N j n x2 x3 x4 x5 v4 S)
  else
  (if (x2 - x5) = x3 then
  (some x6)
  else
  (chk (inb x6 12) (
  lt (gI S 400 j x6.toNatClampNeg) fun v6 =>
  lt (x5 + (-1 : Int32)) fun v7 =>
  lt (x6 + (1 : Int32)) fun v8 =>
  f_X3_climbed_b9 N j n x2 x3 v6 v7 v8 S)))))
  else
  (lt (x6 + (1 : Int32)) fun v2 =>
  f_X3_climbed_b9 N j n x2 x3 x4 x5 v2 S)))
set_option maxRecDepth 100000 in
set_option maxHeartbeats 4000000 in
theorem tb_X3_climbed_9 {l : Launch} {G : v_G} {N : Nat}  {j : Nat} (hj : j < 66)  {r : Int32} {S0 : St}   : ∀ (n : Nat) (x2 : Int32) (x3 : Int32) (x4 : Int32) (x5 : Int32) (x6 : Int32) (S : St),  S = S0 → f_X3_climbed_b9 N j n x2 x3 x4 x5 x6 S = some r → V l G yX3_climbed cX3_climbed 7 (some .int) (v_rm 0 0 0) (QI r (lay G S0)) 0 0 9 [(0, .ref (v_B G + 280)), (1, .ref (v_B G + (so j + 1))), (2, .int x2), (3, .int x3), (4, .int x4), (5, .int x5), (6, .int x6)] [] (lay G S) := by
  intro n
  induction n with
  | zero =>
    intro x2 x3 x4 x5 x6 S  hS0 hh
    rw [f_X3_climbed_b9] at hh
    cases hh
  | succ n ih =>
    intro x2 x3 x4 x5 x6 S  hS0 hh
    rw [f_X3_climbed_b9] at hh
    refine v_iload 6 dX3_climbed_9 rfl ?_
    refine v_bipush dX3_climbed_11 (by decide : _ = (12 : Int32)) ?_
    refine v_icmp_ge (tgt := 63) dX3_climbed_13 (by decide) (fun c => ?_) (fun c => ?_)
    · replace hh := (if_pos c).symm.trans hh
      refine v_bipush dX3_climbed_63 (by decide : _ = (-2 : Int32)) ?_
      obtain rfl := Option.some.inj hh
      exact v_iret dX3_climbed_65 rfl (Nat.zero_le _) (Nat.zero_le _) ⟨rfl, by rw [hS0]⟩
    · replace hh := (if_neg c).symm.trans hh
      refine v_aload_n 0 dX3_climbed_16 rfl rfl ?_
      refine r_Shape_row dX3_climbed_17 fl_X3_11 ?_
      refine v_iload 6 dX3_climbed_20 rfl ?_
      obtain ⟨g1, hh⟩ := chk_some hh
      replace g1 := inb_in g1
      refine ld_row dX3_climbed_22 g1 ?_
      refine v_iload 5 dX3_climbed_23 rfl ?_
      refine v_icmp_ne (tgt := 57) dX3_climbed_25 (by decide) (fun c => ?_) (fun c => ?_)
      · replace hh := (if_neg c).symm.trans hh
        refine v_iinc (v := _ + (1 : Int32)) 6 dX3_climbed_57 rfl rfl (by decide) rfl ?_
        replace hh := lt_of hh
        refine v_goto (tgt := 9) dX3_climbed_60 (by decide) ?_
        exact v_sub [1, 2, 3, 4, 5, 6, 0] rfl (ih _ _ _ _ _ _ hS0 hh)
      · replace hh := (if_pos c).symm.trans hh
        refine v_aload_n 1 dX3_climbed_28 rfl rfl ?_
        refine v_iload 6 dX3_climbed_29 rfl ?_
        obtain ⟨g3, hh⟩ := chk_some hh
        replace g3 := inb_in g3
        refine ld_cells hj dX3_climbed_31 g3 ?_
        refine v_iload 4 dX3_climbed_32 rfl ?_
        refine v_icmp_le (tgt := 57) dX3_climbed_34 (by decide) (fun c => ?_) (fun c => ?_)
        · replace hh := (if_pos c).symm.trans hh
          refine v_iinc (v := _ + (1 : Int32)) 6 dX3_climbed_57 rfl rfl (by decide) rfl ?_
          replace hh := lt_of hh
          refine v_goto (tgt := 9) dX3_climbed_60 (by decide) ?_
          exact v_sub [1, 2, 3, 4, 5, 6, 0] rfl (ih _ _ _ _ _ _ hS0 hh)
        · replace hh := (if_neg c).symm.trans hh
          refine v_iload_n 2 dX3_climbed_37 rfl rfl ?_
          refine v_iload 5 dX3_climbed_38 rfl ?_
          refine v_isub dX3_climbed_40 ?_
          refine v_iload_n 3 dX3_climbed_41 rfl rfl ?_
          refine v_icmp_ne (tgt := 48) dX3_climbed_42 (by decide) (fun c => ?_) (fun c => ?_)
          · replace hh := (if_neg c).symm.trans hh
            refine v_aload_n 1 dX3_climbed_48 rfl rfl ?_
            refine v_iload 6 dX3_climbed_49 rfl ?_
            obtain ⟨g5, hh⟩ := chk_some hh
            replace g5 := inb_in g5
            refine ld_cells hj dX3_climbed_51 g5 ?_
            refine v_istore dX3_climbed_52 (by decide) rfl ?_
            replace hh := lt_of hh
            refine v_iinc (v := _ + (-1 : Int32)) 5 dX3_climbed_54 rfl rfl (by decide) rfl ?_
            replace hh := lt_of hh
            refine v_iinc (v := _ + (1 : Int32)) 6 dX3_climbed_57 rfl rfl (by decide) rfl ?_
            replace hh := lt_of hh
            refine v_goto (tgt := 9) dX3_climbed_60 (by decide) ?_
            exact v_sub [3, 4, 5, 6, 2, 1, 0] rfl (ih _ _ _ _ _ _ hS0 hh)
          · replace hh := (if_pos c).symm.trans hh
            refine v_iload 6 dX3_climbed_45 rfl ?_
            obtain rfl := Option.some.inj hh
            exact v_iret dX3_climbed_47 rfl (Nat.zero_le _) (Nat.zero_le _) ⟨rfl, by rw [hS0]⟩
def f_X3_climbed (N : Nat) (j : Nat) (S : St) (x2 : Int32) (x3 : Int32) : Option (Int32) :=
  f_X3_climbed_b9 N j N x2 x3 (-1 : Int32) x2 (0 : Int32) S
set_option maxRecDepth 100000 in
set_option maxHeartbeats 4000000 in
theorem t_X3_climbed {l : Launch} {G : v_G} {N : Nat} {S : St}  {j : Nat} (hj : j < 66) {x2 : Int32} {x3 : Int32} {r : Int32} (hh : f_X3_climbed N j S x2 x3 = some r) : v_M l G yX3_climbed cX3_climbed 7 (some .int) 0 0 0 [.ref (v_B G + 280), .ref (v_B G + (so j + 1)), .int x2, .int x3] (lay G S) (QI r (lay G S)) := by
  refine v_entry (by decide) (Nat.le_of_ble_eq_true rfl) ?_
  unfold f_X3_climbed at hh
  show V l G yX3_climbed cX3_climbed 7 (some .int) (v_rm 0 0 0) (QI r (lay G S)) 0 0 0 [(0, .ref (v_B G + 280)), (1, .ref (v_B G + (so j + 1))), (2, .int x2), (3, .int x3)] [] (lay G S)
  refine v_iconst dX3_climbed_0 (by decide : _ = (-1 : Int32)) ?_
  refine v_istore dX3_climbed_1 (by decide) rfl ?_
  refine v_iload_n 3 dX3_climbed_3 rfl rfl ?_
  refine v_istore dX3_climbed_4 (by decide) rfl ?_
  refine v_iconst dX3_climbed_6 (by decide : _ = (0 : Int32)) ?_
  refine v_istore dX3_climbed_7 (by decide) rfl ?_
  exact v_sub [3, 4, 5, 6, 2, 1, 0] rfl (tb_X3_climbed_9 hj N _ _ _ _ _ _ rfl hh)
def f_X3_climb_b25 (rec6 : (Int32 → Int32 → Int32 → St → Option (Int32 × St))) (N : Nat) (j : Nat) : Nat → Int32 → Int32 → Int32 → Int32 → St → Option (Int32 × St)
  | 0, _, _, _, _, _ => none
  | n + 1, x2, x3, x4, x5, S =>
  if (12 : Int32) ≤ x5 then
  (chk (inb x4 13) (
  lt (if x3 < (gI S 300 0 x4.toNatClampNeg) then (gI S 300 0 x4.toNatClampNeg) else x3) fun v6 =>
  lt (x4 + (-1 : Int32)) fun v7 =>
  rec6 x2 v6 v7 S))
  else
  (chk (inb x5 12) (
  chk (inb x4 12) (
  if (gI S 400 j x5.toNatClampNeg) ≤ (gI S 400 j x4.toNatClampNeg) then
  (lt (x5 + (1 : Int32)) fun v10 =>
  f_X3_climb_b25 rec6 N j n x2 x3 x4 v10 S)
  else
  (chk (inb x4 13) (
  chk (inb x5 13) (
  lt (if (gI S 300 0 x4.toNatClampNeg) < ((gI S 300 0 x5.toNatClampNeg) + (1 : Int32)) then ((gI S 300 0 x5.toNatClampNeg) + (1 : Int32)) else (gI S 300 0 x4.toNatClampNeg)) fun v13 =>
  chk (inb x4 13) (
  lt (sI S 300 0 x4.toNatClampNeg v13) fun S15 =>
  lt (x5 + (1 : Int32)) fun v16 =>
  f_X3_climb_b25 rec6 N j n x2 x3 x4 v16 S15)))))))
set_option maxRecDepth 100000 in
set_option maxHeartbeats 4000000 in
theorem tb_X3_climb_25 {l : Launch} {G : v_G} {N : Nat}  {j : Nat} (hj : j < 66)  {r : Int32 × St} {rec6 : (Int32 → Int32 → Int32 → St → Option (Int32 × St))} (hrec6 : ∀ (x2 : Int32) (x3 : Int32) (x4 : Int32) (S : St),  rec6 x2 x3 x4 S = some r → V l G yX3_climb cX3_climb 6 (some .int) (v_rm 1 0 0) (QI r.1 (lay G r.2)) 0 0 6 [(0, .ref (v_B G + 280)), (1, .ref (v_B G + (so j + 1))), (2, .int x2), (3, .int x3), (4, .int x4)] [] (lay G S)) : ∀ (n : Nat) (x2 : Int32) (x3 : Int32) (x4 : Int32) (x5 : Int32) (S : St),  f_X3_climb_b25 rec6 N j n x2 x3 x4 x5 S = some r → V l G yX3_climb cX3_climb 6 (some .int) (v_rm 1 0 0) (QI r.1 (lay G r.2)) 0 0 25 [(0, .ref (v_B G + 280)), (1, .ref (v_B G + (so j + 1))), (2, .int x2), (3, .int x3), (4, .int x4), (5, .int x5)] [] (lay G S) := by
  intro n
  induction n with
  | zero =>
    intro x2 x3 x4 x5 S  hh
    rw [f_X3_climb_b25] at hh
    cases hh
  | succ n ih =>
    intro x2 x3 x4 x5 S  hh
    rw [f_X3_climb_b25] at hh
    refine v_iload 5 dX3_climb_25 rfl ?_
    refine v_bipush dX3_climb_27 (by decide : _ = (12 : Int32)) ?_
    refine v_icmp_ge (tgt := 75) dX3_climb_29 (by decide) (fun c => ?_) (fun c => ?_)
    · replace hh := (if_pos c).symm.trans hh
      refine v_iload_n 3 dX3_climb_75 rfl rfl ?_
      refine v_aload_n 0 dX3_climb_76 rfl rfl ?_
      refine r_Shape_row dX3_climb_77 fl_X3_11 ?_
      refine v_iload 4 dX3_climb_80 rfl ?_
      obtain ⟨g5, hh⟩ := chk_some hh
      replace g5 := inb_in g5
      refine ld_row dX3_climb_82 g5 ?_
      refine v_mmax dX3_climb_83 ml_X3_18 y_J9_max_7cf53.2 y_J9_max_7cf53.1.2.1 y_J9_max_7cf53.1.1 (Nat.le_of_ble_eq_true rfl) (Nat.le_of_ble_eq_true rfl) (Nat.zero_le _) (Nat.zero_le _) ?_
      replace hh := lt_of hh
      refine v_istore_n dX3_climb_86 rfl (by decide) rfl ?_
      refine v_iinc (v := _ + (-1 : Int32)) 4 dX3_climb_87 rfl rfl (by decide) rfl ?_
      replace hh := lt_of hh
      refine v_goto (tgt := 6) dX3_climb_90 (by decide) ?_
      exact v_sub [2, 3, 4, 1, 0] rfl (hrec6 _ _ _ _ hh)
    · replace hh := (if_neg c).symm.trans hh
      refine v_aload_n 1 dX3_climb_32 rfl rfl ?_
      refine v_iload 5 dX3_climb_33 rfl ?_
      obtain ⟨g8, hh⟩ := chk_some hh
      replace g8 := inb_in g8
      refine ld_cells hj dX3_climb_35 g8 ?_
      refine v_aload_n 1 dX3_climb_36 rfl rfl ?_
      refine v_iload 4 dX3_climb_37 rfl ?_
      obtain ⟨g9, hh⟩ := chk_some hh
      replace g9 := inb_in g9
      refine ld_cells hj dX3_climb_39 g9 ?_
      refine v_icmp_le (tgt := 69) dX3_climb_40 (by decide) (fun c => ?_) (fun c => ?_)
      · replace hh := (if_pos c).symm.trans hh
        refine v_iinc (v := _ + (1 : Int32)) 5 dX3_climb_69 rfl rfl (by decide) rfl ?_
        replace hh := lt_of hh
        refine v_goto (tgt := 25) dX3_climb_72 (by decide) ?_
        exact v_sub [1, 2, 3, 4, 5, 0] rfl (ih _ _ _ _ _ hh)
      · replace hh := (if_neg c).symm.trans hh
        refine v_aload_n 0 dX3_climb_43 rfl rfl ?_
        refine r_Shape_row dX3_climb_44 fl_X3_11 ?_
        refine v_iload 4 dX3_climb_47 rfl ?_
        refine v_aload_n 0 dX3_climb_49 rfl rfl ?_
        refine r_Shape_row dX3_climb_50 fl_X3_11 ?_
        refine v_iload 4 dX3_climb_53 rfl ?_
        obtain ⟨g11, hh⟩ := chk_some hh
        replace g11 := inb_in g11
        refine ld_row dX3_climb_55 g11 ?_
        refine v_aload_n 0 dX3_climb_56 rfl rfl ?_
        refine r_Shape_row dX3_climb_57 fl_X3_11 ?_
        refine v_iload 5 dX3_climb_60 rfl ?_
        obtain ⟨g12, hh⟩ := chk_some hh
        replace g12 := inb_in g12
        refine ld_row dX3_climb_62 g12 ?_
        refine v_iconst dX3_climb_63 (by decide : _ = (1 : Int32)) ?_
        refine v_iadd dX3_climb_64 ?_
        refine v_mmax dX3_climb_65 ml_X3_18 y_J9_max_7cf53.2 y_J9_max_7cf53.1.2.1 y_J9_max_7cf53.1.1 (Nat.le_of_ble_eq_true rfl) (Nat.le_of_ble_eq_true rfl) (Nat.zero_le _) (Nat.zero_le _) ?_
        replace hh := lt_of hh
        obtain ⟨g14, hh⟩ := chk_some hh
        replace g14 := inb_in g14
        refine st_row dX3_climb_68 g14 ?_
        replace hh := lt_of hh
        refine v_iinc (v := _ + (1 : Int32)) 5 dX3_climb_69 rfl rfl (by decide) rfl ?_
        replace hh := lt_of hh
        refine v_goto (tgt := 25) dX3_climb_72 (by decide) ?_
        exact v_sub [1, 2, 3, 4, 5, 0] rfl (ih _ _ _ _ _ hh)
def f_X3_climb_b6 (N : Nat) (j : Nat) : Nat → Int32 → Int32 → Int32 → St → Option (Int32 × St)
  | 0, _, _, _, _ => none
  | n + 1, x2, x3, x4, S =>
  if x4 < (0 : Int32) then
  (if x2 = (-1 : Int32) then
  (some (x3, S))
  else
  (if x2 < (0 : Int32) then
  (some ((-2 : Int32), S))
  else
  (if x2 < x3 then
  (bnd (f_X3_climbed N j S x3 x2) fun q1 =>
 some (q1, S))
  else
  (some ((-2 : Int32), S)))))
  else
  (chk (inb x4 13) (
  lt (sI S 300 0 x4.toNatClampNeg (1 : Int32)) fun S3 =>
  lt (x4 + (1 : Int32)) fun v4 =>
  f_X3_climb_b25 (f_X3_climb_b6 N j n) N j N x2 x3 x4 v4 S3))
set_option maxRecDepth 100000 in
set_option maxHeartbeats 4000000 in
theorem tb_X3_climb_6 {l : Launch} {G : v_G} {N : Nat}  {j : Nat} (hj : j < 66)  {r : Int32 × St}   : ∀ (n : Nat) (x2 : Int32) (x3 : Int32) (x4 : Int32) (S : St),  f_X3_climb_b6 N j n x2 x3 x4 S = some r → V l G yX3_climb cX3_climb 6 (some .int) (v_rm 1 0 0) (QI r.1 (lay G r.2)) 0 0 6 [(0, .ref (v_B G + 280)), (1, .ref (v_B G + (so j + 1))), (2, .int x2), (3, .int x3), (4, .int x4)] [] (lay G S) := by
  intro n
  induction n with
  | zero =>
    intro x2 x3 x4 S  hh
    rw [f_X3_climb_b6] at hh
    cases hh
  | succ n ih =>
    intro x2 x3 x4 S  hh
    rw [f_X3_climb_b6] at hh
    refine v_iload 4 dX3_climb_6 rfl ?_
    refine v_if_lt (tgt := 93) dX3_climb_8 (by decide) (fun c => ?_) (fun c => ?_)
    · replace hh := (if_pos c).symm.trans hh
      refine v_iload_n 2 dX3_climb_93 rfl rfl ?_
      refine v_iconst dX3_climb_94 (by decide : _ = (-1 : Int32)) ?_
      refine v_icmp_ne (tgt := 100) dX3_climb_95 (by decide) (fun c => ?_) (fun c => ?_)
      · replace hh := (if_neg c).symm.trans hh
        refine v_iload_n 2 dX3_climb_100 rfl rfl ?_
        refine v_if_lt (tgt := 109) dX3_climb_101 (by decide) (fun c => ?_) (fun c => ?_)
        · replace hh := (if_pos c).symm.trans hh
          refine v_bipush dX3_climb_109 (by decide : _ = (-2 : Int32)) ?_
          obtain rfl := Option.some.inj hh
          exact v_iret dX3_climb_111 rfl (Nat.zero_le _) (Nat.zero_le _) ⟨rfl, rfl⟩
        · replace hh := (if_neg c).symm.trans hh
          refine v_iload_n 2 dX3_climb_104 rfl rfl ?_
          refine v_iload_n 3 dX3_climb_105 rfl rfl ?_
          refine v_icmp_lt (tgt := 112) dX3_climb_106 (by decide) (fun c => ?_) (fun c => ?_)
          · replace hh := (if_pos c).symm.trans hh
            refine v_aload_n 0 dX3_climb_112 rfl rfl ?_
            refine v_aload_n 1 dX3_climb_113 rfl rfl ?_
            refine v_iload_n 3 dX3_climb_114 rfl rfl ?_
            refine v_iload_n 2 dX3_climb_115 rfl rfl ?_
            obtain ⟨q1, eq1, hh⟩ := bnd_some hh
            refine v_callVi (t_X3_climbed hj eq1) dX3_climb_116 y_X3_climbed ml_X3_27 (ci := 2) rfl rfl (e_Shape) rfl rfl (Nat.le_of_ble_eq_true rfl) ⟨(Nat.le_of_ble_eq_true rfl), (Nat.le_of_ble_eq_true rfl)⟩ ⟨Nat.zero_le _, Nat.zero_le _⟩ ?_
            obtain rfl := Option.some.inj hh
            exact v_iret dX3_climb_119 rfl (Nat.zero_le _) (Nat.zero_le _) ⟨rfl, rfl⟩
          · replace hh := (if_neg c).symm.trans hh
            refine v_bipush dX3_climb_109 (by decide : _ = (-2 : Int32)) ?_
            obtain rfl := Option.some.inj hh
            exact v_iret dX3_climb_111 rfl (Nat.zero_le _) (Nat.zero_le _) ⟨rfl, rfl⟩
      · replace hh := (if_pos c).symm.trans hh
        refine v_iload_n 3 dX3_climb_98 rfl rfl ?_
        obtain rfl := Option.some.inj hh
        exact v_iret dX3_climb_99 rfl (Nat.zero_le _) (Nat.zero_le _) ⟨rfl, rfl⟩
    · replace hh := (if_neg c).symm.trans hh
      refine v_aload_n 0 dX3_climb_11 rfl rfl ?_
      refine r_Shape_row dX3_climb_12 fl_X3_11 ?_
      refine v_iload 4 dX3_climb_15 rfl ?_
      refine v_iconst dX3_climb_17 (by decide : _ = (1 : Int32)) ?_
      obtain ⟨g2, hh⟩ := chk_some hh
      replace g2 := inb_in g2
      refine st_row dX3_climb_18 g2 ?_
      replace hh := lt_of hh
      refine v_iload 4 dX3_climb_19 rfl ?_
      refine v_iconst dX3_climb_21 (by decide : _ = (1 : Int32)) ?_
      refine v_iadd dX3_climb_22 ?_
      refine v_istore dX3_climb_23 (by decide) rfl ?_
      replace hh := lt_of hh
      exact v_sub [1, 2, 3, 4, 5, 0] rfl (tb_X3_climb_25 hj (fun _ _ _ _ hh => ih _ _ _ _ hh) N _ _ _ _ _ hh)
def f_X3_climb (N : Nat) (j : Nat) (S : St) (x2 : Int32) : Option (Int32 × St) :=
  f_X3_climb_b6 N j N x2 (0 : Int32) (11 : Int32) S
set_option maxRecDepth 100000 in
set_option maxHeartbeats 4000000 in
theorem t_X3_climb {l : Launch} {G : v_G} {N : Nat} {S : St}  {j : Nat} (hj : j < 66) {x2 : Int32} {r : Int32 × St} (hh : f_X3_climb N j S x2 = some r) : v_M l G yX3_climb cX3_climb 6 (some .int) 1 0 0 [.ref (v_B G + 280), .ref (v_B G + (so j + 1)), .int x2] (lay G S) (QI r.1 (lay G r.2)) := by
  refine v_entry (by decide) (Nat.le_of_ble_eq_true rfl) ?_
  unfold f_X3_climb at hh
  show V l G yX3_climb cX3_climb 6 (some .int) (v_rm 1 0 0) (QI r.1 (lay G r.2)) 0 0 0 [(0, .ref (v_B G + 280)), (1, .ref (v_B G + (so j + 1))), (2, .int x2)] [] (lay G S)
  refine v_iconst dX3_climb_0 (by decide : _ = (0 : Int32)) ?_
  refine v_istore_n dX3_climb_1 rfl (by decide) rfl ?_
  refine v_bipush dX3_climb_2 (by decide : _ = (11 : Int32)) ?_
  refine v_istore dX3_climb_4 (by decide) rfl ?_
  exact v_sub [2, 3, 4, 1, 0] rfl (tb_X3_climb_6 hj N _ _ _ _ hh)
def f_X3_falls_b14 (rec4 : (Int32 → Int32 → St → Option (Int32))) (N : Nat) (j : Nat) : Nat → Int32 → Int32 → Int32 → St → Option (Int32)
  | 0, _, _, _, _ => none
  | n + 1, x1, x2, x3, S =>
  if (12 : Int32) ≤ x3 then
  (lt (x2 + (1 : Int32)) fun v2 =>
  rec4 x1 v2 S)
  else
  (chk (inb x2 12) (
  chk (inb x3 12) (
  if (gI S 400 j x2.toNatClampNeg) ≤ (gI S 400 j x3.toNatClampNeg) then
  (lt (x3 + (1 : Int32)) fun v5 =>
  f_X3_falls_b14 rec4 N j n x1 x2 v5 S)
  else
  (lt (x1 + (1 : Int32)) fun v6 =>
  lt (x3 + (1 : Int32)) fun v7 =>
  f_X3_falls_b14 rec4 N j n v6 x2 v7 S))))
set_option maxRecDepth 100000 in
set_option maxHeartbeats 4000000 in
theorem tb_X3_falls_14 {l : Launch} {G : v_G} {N : Nat}  {j : Nat} (hj : j < 66)  {r : Int32} {S0 : St} {rec4 : (Int32 → Int32 → St → Option (Int32))} (hrec4 : ∀ (x1 : Int32) (x2 : Int32) (S : St),  S = S0 → rec4 x1 x2 S = some r → V l G yX3_falls cX3_falls 4 (some .int) (v_rm 0 0 0) (QI r (lay G S0)) 0 0 4 [(0, .ref (v_B G + (so j + 1))), (1, .int x1), (2, .int x2)] [] (lay G S)) : ∀ (n : Nat) (x1 : Int32) (x2 : Int32) (x3 : Int32) (S : St),  S = S0 → f_X3_falls_b14 rec4 N j n x1 x2 x3 S = some r → V l G yX3_falls cX3_falls 4 (some .int) (v_rm 0 0 0) (QI r (lay G S0)) 0 0 14 [(0, .ref (v_B G + (so j + 1))), (1, .int x1), (2, .int x2), (3, .int x3)] [] (lay G S) := by
  intro n
  induction n with
  | zero =>
    intro x1 x2 x3 S  hS0 hh
    rw [f_X3_falls_b14] at hh
    cases hh
  | succ n ih =>
    intro x1 x2 x3 S  hS0 hh
    rw [f_X3_falls_b14] at hh
    refine v_iload_n 3 dX3_falls_14 rfl rfl ?_
    refine v_bipush dX3_falls_15 (by decide : _ = (12 : Int32)) ?_
    refine v_icmp_ge (tgt := 38) dX3_falls_17 (by decide) (fun c => ?_) (fun c => ?_)
    · replace hh := (if_pos c).symm.trans hh
      refine v_iinc (v := _ + (1 : Int32)) 2 dX3_falls_38 rfl rfl (by decide) rfl ?_
      replace hh := lt_of hh
      refine v_goto (tgt := 4) dX3_falls_41 (by decide) ?_
      exact v_sub [1, 2, 0] rfl (hrec4 _ _ _ hS0 hh)
    · replace hh := (if_neg c).symm.trans hh
      refine v_aload_n 0 dX3_falls_20 rfl rfl ?_
      refine v_iload_n 2 dX3_falls_21 rfl rfl ?_
      obtain ⟨g3, hh⟩ := chk_some hh
      replace g3 := inb_in g3
      refine ld_cells hj dX3_falls_22 g3 ?_
      refine v_aload_n 0 dX3_falls_23 rfl rfl ?_
      refine v_iload_n 3 dX3_falls_24 rfl rfl ?_
      obtain ⟨g4, hh⟩ := chk_some hh
      replace g4 := inb_in g4
      refine ld_cells hj dX3_falls_25 g4 ?_
      refine v_icmp_le (tgt := 32) dX3_falls_26 (by decide) (fun c => ?_) (fun c => ?_)
      · replace hh := (if_pos c).symm.trans hh
        refine v_iinc (v := _ + (1 : Int32)) 3 dX3_falls_32 rfl rfl (by decide) rfl ?_
        replace hh := lt_of hh
        refine v_goto (tgt := 14) dX3_falls_35 (by decide) ?_
        exact v_sub [1, 2, 3, 0] rfl (ih _ _ _ _ hS0 hh)
      · replace hh := (if_neg c).symm.trans hh
        refine v_iinc (v := _ + (1 : Int32)) 1 dX3_falls_29 rfl rfl (by decide) rfl ?_
        replace hh := lt_of hh
        refine v_iinc (v := _ + (1 : Int32)) 3 dX3_falls_32 rfl rfl (by decide) rfl ?_
        replace hh := lt_of hh
        refine v_goto (tgt := 14) dX3_falls_35 (by decide) ?_
        exact v_sub [2, 1, 3, 0] rfl (ih _ _ _ _ hS0 hh)
def f_X3_falls_b4 (N : Nat) (j : Nat) : Nat → Int32 → Int32 → St → Option (Int32)
  | 0, _, _, _ => none
  | n + 1, x1, x2, S =>
  if (12 : Int32) ≤ x2 then
  (some x1)
  else
  (lt (x2 + (1 : Int32)) fun v1 =>
  f_X3_falls_b14 (f_X3_falls_b4 N j n) N j N x1 x2 v1 S)
set_option maxRecDepth 100000 in
set_option maxHeartbeats 4000000 in
theorem tb_X3_falls_4 {l : Launch} {G : v_G} {N : Nat}  {j : Nat} (hj : j < 66)  {r : Int32} {S0 : St}   : ∀ (n : Nat) (x1 : Int32) (x2 : Int32) (S : St),  S = S0 → f_X3_falls_b4 N j n x1 x2 S = some r → V l G yX3_falls cX3_falls 4 (some .int) (v_rm 0 0 0) (QI r (lay G S0)) 0 0 4 [(0, .ref (v_B G + (so j + 1))), (1, .int x1), (2, .int x2)] [] (lay G S) := by
  intro n
  induction n with
  | zero =>
    intro x1 x2 S  hS0 hh
    rw [f_X3_falls_b4] at hh
    cases hh
  | succ n ih =>
    intro x1 x2 S  hS0 hh
    rw [f_X3_falls_b4] at hh
    refine v_iload_n 2 dX3_falls_4 rfl rfl ?_
    refine v_bipush dX3_falls_5 (by decide : _ = (12 : Int32)) ?_
    refine v_icmp_ge (tgt := 44) dX3_falls_7 (by decide) (fun c => ?_) (fun c => ?_)
    · replace hh := (if_pos c).symm.trans hh
      refine v_iload_n 1 dX3_falls_44 rfl rfl ?_
      obtain rfl := Option.some.inj hh
      exact v_iret dX3_falls_45 rfl (Nat.zero_le _) (Nat.zero_le _) ⟨rfl, by rw [hS0]⟩
    · replace hh := (if_neg c).symm.trans hh
      refine v_iload_n 2 dX3_falls_10 rfl rfl ?_
      refine v_iconst dX3_falls_11 (by decide : _ = (1 : Int32)) ?_
      refine v_iadd dX3_falls_12 ?_
      refine v_istore_n dX3_falls_13 rfl (by decide) rfl ?_
      replace hh := lt_of hh
      exact v_sub [1, 2, 3, 0] rfl (tb_X3_falls_14 hj (fun _ _ _ hS hh => ih _ _ _ hS hh) N _ _ _ _ hS0 hh)
def f_X3_falls (N : Nat) (j : Nat) (S : St)  : Option (Int32) :=
  f_X3_falls_b4 N j N (0 : Int32) (0 : Int32) S
set_option maxRecDepth 100000 in
set_option maxHeartbeats 4000000 in
theorem t_X3_falls {l : Launch} {G : v_G} {N : Nat} {S : St}  {j : Nat} (hj : j < 66)  {r : Int32} (hh : f_X3_falls N j S  = some r) : v_M l G yX3_falls cX3_falls 4 (some .int) 0 0 0 [.ref (v_B G + (so j + 1))] (lay G S) (QI r (lay G S)) := by
  refine v_entry (by decide) (Nat.le_of_ble_eq_true rfl) ?_
  unfold f_X3_falls at hh
  show V l G yX3_falls cX3_falls 4 (some .int) (v_rm 0 0 0) (QI r (lay G S)) 0 0 0 [(0, .ref (v_B G + (so j + 1)))] [] (lay G S)
  refine v_iconst dX3_falls_0 (by decide : _ = (0 : Int32)) ?_
  refine v_istore_n dX3_falls_1 rfl (by decide) rfl ?_
  refine v_iconst dX3_falls_2 (by decide : _ = (0 : Int32)) ?_
  refine v_istore_n dX3_falls_3 rfl (by decide) rfl ?_
  exact v_sub [2, 1, 0] rfl (tb_X3_falls_4 hj N _ _ _ rfl hh)
def f_X3_tops_b53 (rec4 : (Int32 → Int32 → St → Option (Int32))) (N : Nat) (j : Nat) (x1 : Int32) (x2 : Int32) (x3 : Int32) (s0 : Int32) (S : St) : Option (Int32) :=
  if x3 = (0 : Int32) then
  (lt (x2 + (1 : Int32)) fun v1 =>
  rec4 x1 v1 S)
  else
  (if s0 = (0 : Int32) then
  (lt (x2 + (1 : Int32)) fun v2 =>
  rec4 x1 v2 S)
  else
  (lt (x1 ||| ((1 : Int32) <<< (x2 &&& 31))) fun v3 =>
  lt (x2 + (1 : Int32)) fun v4 =>
  rec4 v3 v4 S))
set_option maxRecDepth 100000 in
set_option maxHeartbeats 4000000 in
theorem tb_X3_tops_53 {l : Launch} {G : v_G} {N : Nat}  {j : Nat} (hj : j < 66)  {r : Int32} {S0 : St} {rec4 : (Int32 → Int32 → St → Option (Int32))} (hrec4 : ∀ (x1 : Int32) (x2 : Int32) (S : St),  S = S0 → rec4 x1 x2 S = some r → V l G yX3_tops cX3_tops 5 (some .int) (v_rm 0 0 0) (QI r (lay G S0)) 0 0 4 [(0, .ref (v_B G + (so j + 1))), (1, .int x1), (2, .int x2)] [] (lay G S)) : ∀ (x1 : Int32) (x2 : Int32) (x3 : Int32) (s0 : Int32) (S : St),  S = S0 → f_X3_tops_b53 rec4 N j x1 x2 x3 s0 S = some r → V l G yX3_tops cX3_tops 5 (some .int) (v_rm 0 0 0) (QI r (lay G S0)) 0 0 53 [(0, .ref (v_B G + (so j + 1))), (1, .int x1), (2, .int x2), (3, .int x3)] [.int s0] (lay G S) := by
  intro x1 x2 x3 s0 S  hS0 hh
  unfold f_X3_tops_b53 at hh
  refine v_istore dX3_tops_53 (by decide) rfl ?_
  refine v_iload_n 4 dX3_tops_55 rfl rfl ?_
  refine v_if_eq (tgt := 70) dX3_tops_56 (by decide) (fun c => ?_) (fun c => ?_)
  · replace hh := (if_pos c).symm.trans hh
    refine v_iinc (v := _ + (1 : Int32)) 3 dX3_tops_70 rfl rfl (by decide) rfl ?_
    replace hh := lt_of hh
    refine v_goto (tgt := 4) dX3_tops_73 (by decide) ?_
    exact v_sub [2, 3, 0] rfl (hrec4 _ _ _ hS0 hh)
  · replace hh := (if_neg c).symm.trans hh
    refine v_iload 0 dX3_tops_59 rfl ?_
    refine v_if_eq (tgt := 70) dX3_tops_61 (by decide) (fun c => ?_) (fun c => ?_)
    · replace hh := (if_pos c).symm.trans hh
      refine v_iinc (v := _ + (1 : Int32)) 3 dX3_tops_70 rfl rfl (by decide) rfl ?_
      replace hh := lt_of hh
      refine v_goto (tgt := 4) dX3_tops_73 (by decide) ?_
      exact v_sub [2, 3, 0] rfl (hrec4 _ _ _ hS0 hh)
    · replace hh := (if_neg c).symm.trans hh
      refine v_iload_n 2 dX3_tops_64 rfl rfl ?_
      refine v_iconst dX3_tops_65 (by decide : _ = (1 : Int32)) ?_
      refine v_iload_n 3 dX3_tops_66 rfl rfl ?_
      refine v_ishl dX3_tops_67 ?_
      refine v_ior dX3_tops_68 ?_
      refine v_istore_n dX3_tops_69 rfl (by decide) rfl ?_
      replace hh := lt_of hh
      refine v_iinc (v := _ + (1 : Int32)) 3 dX3_tops_70 rfl rfl (by decide) rfl ?_
      replace hh := lt_of hh
      refine v_goto (tgt := 4) dX3_tops_73 (by decide) ?_
      exact v_sub [3, 1, 0] rfl (hrec4 _ _ _ hS0 hh)
def f_X3_tops_b48 (rec4 : (Int32 → Int32 → St → Option (Int32))) (N : Nat) (j : Nat) (x1 : Int32) (x2 : Int32) (x3 : Int32) (S : St) : Option (Int32) :=
  f_X3_tops_b53 rec4 N j x1 x2 x3 (1 : Int32) S
set_option maxRecDepth 100000 in
set_option maxHeartbeats 4000000 in
theorem tb_X3_tops_48 {l : Launch} {G : v_G} {N : Nat}  {j : Nat} (hj : j < 66)  {r : Int32} {S0 : St} {rec4 : (Int32 → Int32 → St → Option (Int32))} (hrec4 : ∀ (x1 : Int32) (x2 : Int32) (S : St),  S = S0 → rec4 x1 x2 S = some r → V l G yX3_tops cX3_tops 5 (some .int) (v_rm 0 0 0) (QI r (lay G S0)) 0 0 4 [(0, .ref (v_B G + (so j + 1))), (1, .int x1), (2, .int x2)] [] (lay G S)) : ∀ (x1 : Int32) (x2 : Int32) (x3 : Int32) (S : St),  S = S0 → f_X3_tops_b48 rec4 N j x1 x2 x3 S = some r → V l G yX3_tops cX3_tops 5 (some .int) (v_rm 0 0 0) (QI r (lay G S0)) 0 0 48 [(0, .ref (v_B G + (so j + 1))), (1, .int x1), (2, .int x2), (3, .int x3)] [] (lay G S) := by
  intro x1 x2 x3 S  hS0 hh
  unfold f_X3_tops_b48 at hh
  refine v_iconst dX3_tops_48 (by decide : _ = (1 : Int32)) ?_
  refine v_goto (tgt := 53) dX3_tops_49 (by decide) ?_
  exact v_sub [0, 1, 2, 3] rfl (tb_X3_tops_53 hj hrec4 _ _ _ _ _ hS0 hh)
def f_X3_tops_b30 (rec4 : (Int32 → Int32 → St → Option (Int32))) (N : Nat) (j : Nat) (x1 : Int32) (x2 : Int32) (s0 : Int32) (S : St) : Option (Int32) :=
  if x2 = (11 : Int32) then
  (f_X3_tops_b48 rec4 N j x1 x2 s0 S)
  else
  (chk (inb x2 12) (
  chk (inb (x2 + (1 : Int32)) 12) (
  if (gI S 400 j x2.toNatClampNeg) ≤ (gI S 400 j (x2 + (1 : Int32)).toNatClampNeg) then
  (f_X3_tops_b53 rec4 N j x1 x2 s0 (0 : Int32) S)
  else
  (f_X3_tops_b48 rec4 N j x1 x2 s0 S))))
set_option maxRecDepth 100000 in
set_option maxHeartbeats 4000000 in
theorem tb_X3_tops_30 {l : Launch} {G : v_G} {N : Nat}  {j : Nat} (hj : j < 66)  {r : Int32} {S0 : St} {rec4 : (Int32 → Int32 → St → Option (Int32))} (hrec4 : ∀ (x1 : Int32) (x2 : Int32) (S : St),  S = S0 → rec4 x1 x2 S = some r → V l G yX3_tops cX3_tops 5 (some .int) (v_rm 0 0 0) (QI r (lay G S0)) 0 0 4 [(0, .ref (v_B G + (so j + 1))), (1, .int x1), (2, .int x2)] [] (lay G S)) : ∀ (x1 : Int32) (x2 : Int32) (s0 : Int32) (S : St),  S = S0 → f_X3_tops_b30 rec4 N j x1 x2 s0 S = some r → V l G yX3_tops cX3_tops 5 (some .int) (v_rm 0 0 0) (QI r (lay G S0)) 0 0 30 [(0, .ref (v_B G + (so j + 1))), (1, .int x1), (2, .int x2)] [.int s0] (lay G S) := by
  intro x1 x2 s0 S  hS0 hh
  unfold f_X3_tops_b30 at hh
  refine v_istore_n dX3_tops_30 rfl (by decide) rfl ?_
  refine v_iload_n 3 dX3_tops_31 rfl rfl ?_
  refine v_bipush dX3_tops_32 (by decide : _ = (11 : Int32)) ?_
  refine v_icmp_eq (tgt := 48) dX3_tops_34 (by decide) (fun c => ?_) (fun c => ?_)
  · replace hh := (if_pos c).symm.trans hh
    exact v_sub [1, 2, 3, 0] rfl (tb_X3_tops_48 hj hrec4 _ _ _ _ hS0 hh)
  · replace hh := (if_neg c).symm.trans hh
    refine v_aload_n 1 dX3_tops_37 rfl rfl ?_
    refine v_iload_n 3 dX3_tops_38 rfl rfl ?_
    obtain ⟨g5, hh⟩ := chk_some hh
    replace g5 := inb_in g5
    refine ld_cells hj dX3_tops_39 g5 ?_
    refine v_aload_n 1 dX3_tops_40 rfl rfl ?_
    refine v_iload_n 3 dX3_tops_41 rfl rfl ?_
    refine v_iconst dX3_tops_42 (by decide : _ = (1 : Int32)) ?_
    refine v_iadd dX3_tops_43 ?_
    obtain ⟨g6, hh⟩ := chk_some hh
    replace g6 := inb_in g6
    refine ld_cells hj dX3_tops_44 g6 ?_
    refine v_icmp_le (tgt := 52) dX3_tops_45 (by decide) (fun c => ?_) (fun c => ?_)
    · replace hh := (if_pos c).symm.trans hh
      refine v_iconst dX3_tops_52 (by decide : _ = (0 : Int32)) ?_
      exact v_sub [1, 2, 3, 0] rfl (tb_X3_tops_53 hj hrec4 _ _ _ _ _ hS0 hh)
    · replace hh := (if_neg c).symm.trans hh
      exact v_sub [1, 2, 3, 0] rfl (tb_X3_tops_48 hj hrec4 _ _ _ _ hS0 hh)
def f_X3_tops_b25 (rec4 : (Int32 → Int32 → St → Option (Int32))) (N : Nat) (j : Nat) (x1 : Int32) (x2 : Int32) (S : St) : Option (Int32) :=
  f_X3_tops_b30 rec4 N j x1 x2 (1 : Int32) S
set_option maxRecDepth 100000 in
set_option maxHeartbeats 4000000 in
theorem tb_X3_tops_25 {l : Launch} {G : v_G} {N : Nat}  {j : Nat} (hj : j < 66)  {r : Int32} {S0 : St} {rec4 : (Int32 → Int32 → St → Option (Int32))} (hrec4 : ∀ (x1 : Int32) (x2 : Int32) (S : St),  S = S0 → rec4 x1 x2 S = some r → V l G yX3_tops cX3_tops 5 (some .int) (v_rm 0 0 0) (QI r (lay G S0)) 0 0 4 [(0, .ref (v_B G + (so j + 1))), (1, .int x1), (2, .int x2)] [] (lay G S)) : ∀ (x1 : Int32) (x2 : Int32) (S : St),  S = S0 → f_X3_tops_b25 rec4 N j x1 x2 S = some r → V l G yX3_tops cX3_tops 5 (some .int) (v_rm 0 0 0) (QI r (lay G S0)) 0 0 25 [(0, .ref (v_B G + (so j + 1))), (1, .int x1), (2, .int x2)] [] (lay G S) := by
  intro x1 x2 S  hS0 hh
  unfold f_X3_tops_b25 at hh
  refine v_iconst dX3_tops_25 (by decide : _ = (1 : Int32)) ?_
  refine v_goto (tgt := 30) dX3_tops_26 (by decide) ?_
  exact v_sub [0, 1, 2] rfl (tb_X3_tops_30 hj hrec4 _ _ _ _ hS0 hh)
def f_X3_tops_b4 (N : Nat) (j : Nat) : Nat → Int32 → Int32 → St → Option (Int32)
  | 0, _, _, _ => none
  | n + 1, x1, x2, S =>
  if (12 : Int32) ≤ x2 then
  (some x1)
  else
  (if x2 = (0 : Int32) then
  (f_X3_tops_b25 (f_X3_tops_b4 N j n) N j x1 x2 S)
  else
  (chk (inb x2 12) (
  chk (inb (x2 - (1 : Int32)) 12) (
  if (gI S 400 j x2.toNatClampNeg) ≤ (gI S 400 j (x2 - (1 : Int32)).toNatClampNeg) then
  (f_X3_tops_b30 (f_X3_tops_b4 N j n) N j x1 x2 (0 : Int32) S)
  else
  (f_X3_tops_b25 (f_X3_tops_b4 N j n) N j x1 x2 S)))))
set_option maxRecDepth 100000 in
set_option maxHeartbeats 4000000 in
theorem tb_X3_tops_4 {l : Launch} {G : v_G} {N : Nat}  {j : Nat} (hj : j < 66)  {r : Int32} {S0 : St}   : ∀ (n : Nat) (x1 : Int32) (x2 : Int32) (S : St),  S = S0 → f_X3_tops_b4 N j n x1 x2 S = some r → V l G yX3_tops cX3_tops 5 (some .int) (v_rm 0 0 0) (QI r (lay G S0)) 0 0 4 [(0, .ref (v_B G + (so j + 1))), (1, .int x1), (2, .int x2)] [] (lay G S) := by
  intro n
  induction n with
  | zero =>
    intro x1 x2 S  hS0 hh
    rw [f_X3_tops_b4] at hh
    cases hh
  | succ n ih =>
    intro x1 x2 S  hS0 hh
    rw [f_X3_tops_b4] at hh
    refine v_iload_n 2 dX3_tops_4 rfl rfl ?_
    refine v_bipush dX3_tops_5 (by decide : _ = (12 : Int32)) ?_
    refine v_icmp_ge (tgt := 76) dX3_tops_7 (by decide) (fun c => ?_) (fun c => ?_)
    · replace hh := (if_pos c).symm.trans hh
      refine v_iload_n 1 dX3_tops_76 rfl rfl ?_
      obtain rfl := Option.some.inj hh
      exact v_iret dX3_tops_77 rfl (Nat.zero_le _) (Nat.zero_le _) ⟨rfl, by rw [hS0]⟩
    · replace hh := (if_neg c).symm.trans hh
      refine v_iload_n 2 dX3_tops_10 rfl rfl ?_
      refine v_if_eq (tgt := 25) dX3_tops_11 (by decide) (fun c => ?_) (fun c => ?_)
      · replace hh := (if_pos c).symm.trans hh
        exact v_sub [0, 1, 2] rfl (tb_X3_tops_25 hj (fun _ _ _ hS hh => ih _ _ _ hS hh) _ _ _ hS0 hh)
      · replace hh := (if_neg c).symm.trans hh
        refine v_aload_n 0 dX3_tops_14 rfl rfl ?_
        refine v_iload_n 2 dX3_tops_15 rfl rfl ?_
        obtain ⟨g7, hh⟩ := chk_some hh
        replace g7 := inb_in g7
        refine ld_cells hj dX3_tops_16 g7 ?_
        refine v_aload_n 0 dX3_tops_17 rfl rfl ?_
        refine v_iload_n 2 dX3_tops_18 rfl rfl ?_
        refine v_iconst dX3_tops_19 (by decide : _ = (1 : Int32)) ?_
        refine v_isub dX3_tops_20 ?_
        obtain ⟨g8, hh⟩ := chk_some hh
        replace g8 := inb_in g8
        refine ld_cells hj dX3_tops_21 g8 ?_
        refine v_icmp_le (tgt := 29) dX3_tops_22 (by decide) (fun c => ?_) (fun c => ?_)
        · replace hh := (if_pos c).symm.trans hh
          refine v_iconst dX3_tops_29 (by decide : _ = (0 : Int32)) ?_
          exact v_sub [0, 1, 2] rfl (tb_X3_tops_30 hj (fun _ _ _ hS hh => ih _ _ _ hS hh) _ _ _ _ hS0 hh)
        · replace hh := (if_neg c).symm.trans hh
          exact v_sub [0, 1, 2] rfl (tb_X3_tops_25 hj (fun _ _ _ hS hh => ih _ _ _ hS hh) _ _ _ hS0 hh)
def f_X3_tops (N : Nat) (j : Nat) (S : St)  : Option (Int32) :=
  f_X3_tops_b4 N j N (0 : Int32) (0 : Int32) S
set_option maxRecDepth 100000 in
set_option maxHeartbeats 4000000 in
theorem t_X3_tops {l : Launch} {G : v_G} {N : Nat} {S : St}  {j : Nat} (hj : j < 66)  {r : Int32} (hh : f_X3_tops N j S  = some r) : v_M l G yX3_tops cX3_tops 5 (some .int) 0 0 0 [.ref (v_B G + (so j + 1))] (lay G S) (QI r (lay G S)) := by
  refine v_entry (by decide) (Nat.le_of_ble_eq_true rfl) ?_
  unfold f_X3_tops at hh
  show V l G yX3_tops cX3_tops 5 (some .int) (v_rm 0 0 0) (QI r (lay G S)) 0 0 0 [(0, .ref (v_B G + (so j + 1)))] [] (lay G S)
  refine v_iconst dX3_tops_0 (by decide : _ = (0 : Int32)) ?_
  refine v_istore_n dX3_tops_1 rfl (by decide) rfl ?_
  refine v_iconst dX3_tops_2 (by decide : _ = (0 : Int32)) ?_
  refine v_istore_n dX3_tops_3 rfl (by decide) rfl ?_
  exact v_sub [2, 1, 0] rfl (tb_X3_tops_4 hj N _ _ _ rfl hh)
def f_X3_fullest_b7 (N : Nat) (j : Nat) : Nat → Int32 → Int32 → Int32 → Int32 → St → Option (Int32)
  | 0, _, _, _, _, _ => none
  | n + 1, x1, x2, x3, x4, S =>
  if (12 : Int32) < (x4 + x1) then
  (some x2)
  else
  (bnd (f_X3_sum N j S x4 (x4 + x1)) fun q1 =>
 if q1 ≤ x3 then
  (lt (x4 + (1 : Int32)) fun v2 =>
  f_X3_fullest_b7 N j n x1 x2 x3 v2 S)
  else
  (lt (x4 + (1 : Int32)) fun v3 =>
  f_X3_fullest_b7 N j n x1 x4 q1 v3 S))
set_option maxRecDepth 100000 in
set_option maxHeartbeats 4000000 in
theorem tb_X3_fullest_7 {l : Launch} {G : v_G} {N : Nat}  {j : Nat} (hj : j < 66)  {r : Int32} {S0 : St}   : ∀ (n : Nat) (x1 : Int32) (x2 : Int32) (x3 : Int32) (x4 : Int32) (S : St),  S = S0 → f_X3_fullest_b7 N j n x1 x2 x3 x4 S = some r → V l G yX3_fullest cX3_fullest 6 (some .int) (v_rm 2 0 0) (QI r (lay G S0)) 0 0 7 [(0, .ref (v_B G + (so j + 1))), (1, .int x1), (2, .int x2), (3, .int x3), (4, .int x4)] [] (lay G S) := by
  intro n
  induction n with
  | zero =>
    intro x1 x2 x3 x4 S  hS0 hh
    rw [f_X3_fullest_b7] at hh
    cases hh
  | succ n ih =>
    intro x1 x2 x3 x4 S  hS0 hh
    rw [f_X3_fullest_b7] at hh
    refine v_iload 4 dX3_fullest_7 rfl ?_
    refine v_iload_n 1 dX3_fullest_9 rfl rfl ?_
    refine v_iadd dX3_fullest_10 ?_
    refine v_bipush dX3_fullest_11 (by decide : _ = (12 : Int32)) ?_
    refine v_icmp_gt (tgt := 46) dX3_fullest_13 (by decide) (fun c => ?_) (fun c => ?_)
    · replace hh := (if_pos c).symm.trans hh
      refine v_iload_n 2 dX3_fullest_46 rfl rfl ?_
      obtain rfl := Option.some.inj hh
      exact v_iret dX3_fullest_47 rfl (Nat.zero_le _) (Nat.zero_le _) ⟨rfl, by rw [hS0]⟩
    · replace hh := (if_neg c).symm.trans hh
      refine v_aload_n 0 dX3_fullest_16 rfl rfl ?_
      refine v_iload 4 dX3_fullest_17 rfl ?_
      refine v_iload 4 dX3_fullest_19 rfl ?_
      refine v_iload_n 1 dX3_fullest_21 rfl rfl ?_
      refine v_iadd dX3_fullest_22 ?_
      obtain ⟨q1, eq1, hh⟩ := bnd_some hh
      refine v_callSi (t_X3_sum hj eq1) dX3_fullest_23 y_X3_sum ml_X3_31 rfl rfl (Nat.le_of_ble_eq_true rfl) ⟨(Nat.le_of_ble_eq_true rfl), (Nat.le_of_ble_eq_true rfl)⟩ ⟨Nat.zero_le _, Nat.zero_le _⟩ ?_
      refine v_istore dX3_fullest_26 (by decide) rfl ?_
      refine v_iload 0 dX3_fullest_28 rfl ?_
      refine v_iload_n 4 dX3_fullest_30 rfl rfl ?_
      refine v_icmp_le (tgt := 40) dX3_fullest_31 (by decide) (fun c => ?_) (fun c => ?_)
      · replace hh := (if_pos c).symm.trans hh
        refine v_iinc (v := _ + (1 : Int32)) 5 dX3_fullest_40 rfl rfl (by decide) rfl ?_
        replace hh := lt_of hh
        refine v_goto (tgt := 7) dX3_fullest_43 (by decide) ?_
        exact v_sub [2, 3, 4, 5, 0] rfl (ih _ _ _ _ _ hS0 hh)
      · replace hh := (if_neg c).symm.trans hh
        refine v_iload 0 dX3_fullest_34 rfl ?_
        refine v_istore_n dX3_fullest_36 rfl (by decide) rfl ?_
        refine v_iload 5 dX3_fullest_37 rfl ?_
        refine v_istore_n dX3_fullest_39 rfl (by decide) rfl ?_
        refine v_iinc (v := _ + (1 : Int32)) 5 dX3_fullest_40 rfl rfl (by decide) rfl ?_
        replace hh := lt_of hh
        refine v_goto (tgt := 7) dX3_fullest_43 (by decide) ?_
        exact v_sub [4, 5, 1, 2, 0] rfl (ih _ _ _ _ _ hS0 hh)
def f_X3_fullest (N : Nat) (j : Nat) (S : St) (x1 : Int32) : Option (Int32) :=
  f_X3_fullest_b7 N j N x1 (0 : Int32) (-1 : Int32) (0 : Int32) S
set_option maxRecDepth 100000 in
set_option maxHeartbeats 4000000 in
theorem t_X3_fullest {l : Launch} {G : v_G} {N : Nat} {S : St}  {j : Nat} (hj : j < 66) {x1 : Int32} {r : Int32} (hh : f_X3_fullest N j S x1 = some r) : v_M l G yX3_fullest cX3_fullest 6 (some .int) 2 0 0 [.ref (v_B G + (so j + 1)), .int x1] (lay G S) (QI r (lay G S)) := by
  refine v_entry (by decide) (Nat.le_of_ble_eq_true rfl) ?_
  unfold f_X3_fullest at hh
  show V l G yX3_fullest cX3_fullest 6 (some .int) (v_rm 2 0 0) (QI r (lay G S)) 0 0 0 [(0, .ref (v_B G + (so j + 1))), (1, .int x1)] [] (lay G S)
  refine v_iconst dX3_fullest_0 (by decide : _ = (0 : Int32)) ?_
  refine v_istore_n dX3_fullest_1 rfl (by decide) rfl ?_
  refine v_iconst dX3_fullest_2 (by decide : _ = (-1 : Int32)) ?_
  refine v_istore_n dX3_fullest_3 rfl (by decide) rfl ?_
  refine v_iconst dX3_fullest_4 (by decide : _ = (0 : Int32)) ?_
  refine v_istore dX3_fullest_5 (by decide) rfl ?_
  exact v_sub [3, 4, 2, 1, 0] rfl (tb_X3_fullest_7 hj N _ _ _ _ _ rfl hh)
def f_X3_leastCell_b4 (N : Nat) (j : Nat) : Nat → Int32 → Int32 → St → Option (Int32)
  | 0, _, _, _ => none
  | n + 1, x1, x2, S =>
  if (12 : Int32) ≤ x2 then
  (some x1)
  else
  (chk (inb x2 12) (
  chk (inb x1 12) (
  if (gI S 400 j x1.toNatClampNeg) ≤ (gI S 400 j x2.toNatClampNeg) then
  (lt (x2 + (1 : Int32)) fun v3 =>
  f_X3_leastCell_b4 N j n x1 v3 S)
  else
  (lt (x2 + (1 : Int32)) fun v4 =>
  f_X3_leastCell_b4 N j n x2 v4 S))))
set_option maxRecDepth 100000 in
set_option maxHeartbeats 4000000 in
theorem tb_X3_leastCell_4 {l : Launch} {G : v_G} {N : Nat}  {j : Nat} (hj : j < 66)  {r : Int32} {S0 : St}   : ∀ (n : Nat) (x1 : Int32) (x2 : Int32) (S : St),  S = S0 → f_X3_leastCell_b4 N j n x1 x2 S = some r → V l G yX3_leastCell cX3_leastCell 3 (some .int) (v_rm 0 0 0) (QI r (lay G S0)) 0 0 4 [(0, .ref (v_B G + (so j + 1))), (1, .int x1), (2, .int x2)] [] (lay G S) := by
  intro n
  induction n with
  | zero =>
    intro x1 x2 S  hS0 hh
    rw [f_X3_leastCell_b4] at hh
    cases hh
  | succ n ih =>
    intro x1 x2 S  hS0 hh
    rw [f_X3_leastCell_b4] at hh
    refine v_iload_n 2 dX3_leastCell_4 rfl rfl ?_
    refine v_bipush dX3_leastCell_5 (by decide : _ = (12 : Int32)) ?_
    refine v_icmp_ge (tgt := 27) dX3_leastCell_7 (by decide) (fun c => ?_) (fun c => ?_)
    · replace hh := (if_pos c).symm.trans hh
      refine v_iload_n 1 dX3_leastCell_27 rfl rfl ?_
      obtain rfl := Option.some.inj hh
      exact v_iret dX3_leastCell_28 rfl (Nat.zero_le _) (Nat.zero_le _) ⟨rfl, by rw [hS0]⟩
    · replace hh := (if_neg c).symm.trans hh
      refine v_aload_n 0 dX3_leastCell_10 rfl rfl ?_
      refine v_iload_n 2 dX3_leastCell_11 rfl rfl ?_
      obtain ⟨g1, hh⟩ := chk_some hh
      replace g1 := inb_in g1
      refine ld_cells hj dX3_leastCell_12 g1 ?_
      refine v_aload_n 0 dX3_leastCell_13 rfl rfl ?_
      refine v_iload_n 1 dX3_leastCell_14 rfl rfl ?_
      obtain ⟨g2, hh⟩ := chk_some hh
      replace g2 := inb_in g2
      refine ld_cells hj dX3_leastCell_15 g2 ?_
      refine v_icmp_ge (tgt := 21) dX3_leastCell_16 (by decide) (fun c => ?_) (fun c => ?_)
      · replace hh := (if_pos c).symm.trans hh
        refine v_iinc (v := _ + (1 : Int32)) 2 dX3_leastCell_21 rfl rfl (by decide) rfl ?_
        replace hh := lt_of hh
        refine v_goto (tgt := 4) dX3_leastCell_24 (by decide) ?_
        exact v_sub [1, 2, 0] rfl (ih _ _ _ hS0 hh)
      · replace hh := (if_neg c).symm.trans hh
        refine v_iload_n 2 dX3_leastCell_19 rfl rfl ?_
        refine v_istore_n dX3_leastCell_20 rfl (by decide) rfl ?_
        refine v_iinc (v := _ + (1 : Int32)) 2 dX3_leastCell_21 rfl rfl (by decide) rfl ?_
        replace hh := lt_of hh
        refine v_goto (tgt := 4) dX3_leastCell_24 (by decide) ?_
        exact v_sub [2, 1, 0] rfl (ih _ _ _ hS0 hh)
def f_X3_leastCell (N : Nat) (j : Nat) (S : St)  : Option (Int32) :=
  f_X3_leastCell_b4 N j N (0 : Int32) (1 : Int32) S
set_option maxRecDepth 100000 in
set_option maxHeartbeats 4000000 in
theorem t_X3_leastCell {l : Launch} {G : v_G} {N : Nat} {S : St}  {j : Nat} (hj : j < 66)  {r : Int32} (hh : f_X3_leastCell N j S  = some r) : v_M l G yX3_leastCell cX3_leastCell 3 (some .int) 0 0 0 [.ref (v_B G + (so j + 1))] (lay G S) (QI r (lay G S)) := by
  refine v_entry (by decide) (Nat.le_of_ble_eq_true rfl) ?_
  unfold f_X3_leastCell at hh
  show V l G yX3_leastCell cX3_leastCell 3 (some .int) (v_rm 0 0 0) (QI r (lay G S)) 0 0 0 [(0, .ref (v_B G + (so j + 1)))] [] (lay G S)
  refine v_iconst dX3_leastCell_0 (by decide : _ = (0 : Int32)) ?_
  refine v_istore_n dX3_leastCell_1 rfl (by decide) rfl ?_
  refine v_iconst dX3_leastCell_2 (by decide : _ = (1 : Int32)) ?_
  refine v_istore_n dX3_leastCell_3 rfl (by decide) rfl ?_
  exact v_sub [2, 1, 0] rfl (tb_X3_leastCell_4 hj N _ _ _ rfl hh)
def f_X3_mostCell_b4 (N : Nat) (j : Nat) : Nat → Int32 → Int32 → St → Option (Int32)
  | 0, _, _, _ => none
  | n + 1, x1, x2, S =>
  if (12 : Int32) ≤ x2 then
  (some x1)
  else
  (chk (inb x2 12) (
  chk (inb x1 12) (
  if (gI S 400 j x2.toNatClampNeg) ≤ (gI S 400 j x1.toNatClampNeg) then
  (lt (x2 + (1 : Int32)) fun v3 =>
  f_X3_mostCell_b4 N j n x1 v3 S)
  else
  (lt (x2 + (1 : Int32)) fun v4 =>
  f_X3_mostCell_b4 N j n x2 v4 S))))
set_option maxRecDepth 100000 in
set_option maxHeartbeats 4000000 in
theorem tb_X3_mostCell_4 {l : Launch} {G : v_G} {N : Nat}  {j : Nat} (hj : j < 66)  {r : Int32} {S0 : St}   : ∀ (n : Nat) (x1 : Int32) (x2 : Int32) (S : St),  S = S0 → f_X3_mostCell_b4 N j n x1 x2 S = some r → V l G yX3_mostCell cX3_mostCell 3 (some .int) (v_rm 0 0 0) (QI r (lay G S0)) 0 0 4 [(0, .ref (v_B G + (so j + 1))), (1, .int x1), (2, .int x2)] [] (lay G S) := by
  intro n
  induction n with
  | zero =>
    intro x1 x2 S  hS0 hh
    rw [f_X3_mostCell_b4] at hh
    cases hh
  | succ n ih =>
    intro x1 x2 S  hS0 hh
    rw [f_X3_mostCell_b4] at hh
    refine v_iload_n 2 dX3_mostCell_4 rfl rfl ?_
    refine v_bipush dX3_mostCell_5 (by decide : _ = (12 : Int32)) ?_
    refine v_icmp_ge (tgt := 27) dX3_mostCell_7 (by decide) (fun c => ?_) (fun c => ?_)
    · replace hh := (if_pos c).symm.trans hh
      refine v_iload_n 1 dX3_mostCell_27 rfl rfl ?_
      obtain rfl := Option.some.inj hh
      exact v_iret dX3_mostCell_28 rfl (Nat.zero_le _) (Nat.zero_le _) ⟨rfl, by rw [hS0]⟩
    · replace hh := (if_neg c).symm.trans hh
      refine v_aload_n 0 dX3_mostCell_10 rfl rfl ?_
      refine v_iload_n 2 dX3_mostCell_11 rfl rfl ?_
      obtain ⟨g1, hh⟩ := chk_some hh
      replace g1 := inb_in g1
      refine ld_cells hj dX3_mostCell_12 g1 ?_
      refine v_aload_n 0 dX3_mostCell_13 rfl rfl ?_
      refine v_iload_n 1 dX3_mostCell_14 rfl rfl ?_
      obtain ⟨g2, hh⟩ := chk_some hh
      replace g2 := inb_in g2
      refine ld_cells hj dX3_mostCell_15 g2 ?_
      refine v_icmp_le (tgt := 21) dX3_mostCell_16 (by decide) (fun c => ?_) (fun c => ?_)
      · replace hh := (if_pos c).symm.trans hh
        refine v_iinc (v := _ + (1 : Int32)) 2 dX3_mostCell_21 rfl rfl (by decide) rfl ?_
        replace hh := lt_of hh
        refine v_goto (tgt := 4) dX3_mostCell_24 (by decide) ?_
        exact v_sub [1, 2, 0] rfl (ih _ _ _ hS0 hh)
      · replace hh := (if_neg c).symm.trans hh
        refine v_iload_n 2 dX3_mostCell_19 rfl rfl ?_
        refine v_istore_n dX3_mostCell_20 rfl (by decide) rfl ?_
        refine v_iinc (v := _ + (1 : Int32)) 2 dX3_mostCell_21 rfl rfl (by decide) rfl ?_
        replace hh := lt_of hh
        refine v_goto (tgt := 4) dX3_mostCell_24 (by decide) ?_
        exact v_sub [2, 1, 0] rfl (ih _ _ _ hS0 hh)
def f_X3_mostCell (N : Nat) (j : Nat) (S : St)  : Option (Int32) :=
  f_X3_mostCell_b4 N j N (0 : Int32) (1 : Int32) S
set_option maxRecDepth 100000 in
set_option maxHeartbeats 4000000 in
theorem t_X3_mostCell {l : Launch} {G : v_G} {N : Nat} {S : St}  {j : Nat} (hj : j < 66)  {r : Int32} (hh : f_X3_mostCell N j S  = some r) : v_M l G yX3_mostCell cX3_mostCell 3 (some .int) 0 0 0 [.ref (v_B G + (so j + 1))] (lay G S) (QI r (lay G S)) := by
  refine v_entry (by decide) (Nat.le_of_ble_eq_true rfl) ?_
  unfold f_X3_mostCell at hh
  show V l G yX3_mostCell cX3_mostCell 3 (some .int) (v_rm 0 0 0) (QI r (lay G S)) 0 0 0 [(0, .ref (v_B G + (so j + 1)))] [] (lay G S)
  refine v_iconst dX3_mostCell_0 (by decide : _ = (0 : Int32)) ?_
  refine v_istore_n dX3_mostCell_1 rfl (by decide) rfl ?_
  refine v_iconst dX3_mostCell_2 (by decide : _ = (1 : Int32)) ?_
  refine v_istore_n dX3_mostCell_3 rfl (by decide) rfl ?_
  exact v_sub [2, 1, 0] rfl (tb_X3_mostCell_4 hj N _ _ _ rfl hh)
def f_X3_rowsAbove_b4 (N : Nat) (j : Nat) : Nat → Int32 → Int32 → Int32 → St → Option (Int32)
  | 0, _, _, _, _ => none
  | n + 1, x1, x2, x3, S =>
  if (12 : Int32) ≤ x3 then
  (some x2)
  else
  (chk (inb x3 12) (
  if (gI S 400 j x3.toNatClampNeg) ≤ x1 then
  (lt (x3 + (1 : Int32)) fun v2 =>
  f_X3_rowsAbove_b4 N j n x1 x2 v2 S)
  else
  (if x3 = (0 : Int32) then
  (lt (x2 + (1 : Int32)) fun v3 =>
  lt (x3 + (1 : Int32)) fun v4 =>
  f_X3_rowsAbove_b4 N j n x1 v3 v4 S)
  else
  (chk (inb (x3 - (1 : Int32)) 12) (
  if x1 < (gI S 400 j (x3 - (1 : Int32)).toNatClampNeg) then
  (lt (x3 + (1 : Int32)) fun v6 =>
  f_X3_rowsAbove_b4 N j n x1 x2 v6 S)
  else
  (lt (x2 + (1 : Int32)) fun v7 =>
  lt (x3 + (1 : Int32)) fun v8 =>
  f_X3_rowsAbove_b4 N j n x1 v7 v8 S))))))
set_option maxRecDepth 100000 in
set_option maxHeartbeats 4000000 in
theorem tb_X3_rowsAbove_4 {l : Launch} {G : v_G} {N : Nat}  {j : Nat} (hj : j < 66)  {r : Int32} {S0 : St}   : ∀ (n : Nat) (x1 : Int32) (x2 : Int32) (x3 : Int32) (S : St),  S = S0 → f_X3_rowsAbove_b4 N j n x1 x2 x3 S = some r → V l G yX3_rowsAbove cX3_rowsAbove 4 (some .int) (v_rm 0 0 0) (QI r (lay G S0)) 0 0 4 [(0, .ref (v_B G + (so j + 1))), (1, .int x1), (2, .int x2), (3, .int x3)] [] (lay G S) := by
  intro n
  induction n with
  | zero =>
    intro x1 x2 x3 S  hS0 hh
    rw [f_X3_rowsAbove_b4] at hh
    cases hh
  | succ n ih =>
    intro x1 x2 x3 S  hS0 hh
    rw [f_X3_rowsAbove_b4] at hh
    refine v_iload_n 3 dX3_rowsAbove_4 rfl rfl ?_
    refine v_bipush dX3_rowsAbove_5 (by decide : _ = (12 : Int32)) ?_
    refine v_icmp_ge (tgt := 39) dX3_rowsAbove_7 (by decide) (fun c => ?_) (fun c => ?_)
    · replace hh := (if_pos c).symm.trans hh
      refine v_iload_n 2 dX3_rowsAbove_39 rfl rfl ?_
      obtain rfl := Option.some.inj hh
      exact v_iret dX3_rowsAbove_40 rfl (Nat.zero_le _) (Nat.zero_le _) ⟨rfl, by rw [hS0]⟩
    · replace hh := (if_neg c).symm.trans hh
      refine v_aload_n 0 dX3_rowsAbove_10 rfl rfl ?_
      refine v_iload_n 3 dX3_rowsAbove_11 rfl rfl ?_
      obtain ⟨g1, hh⟩ := chk_some hh
      replace g1 := inb_in g1
      refine ld_cells hj dX3_rowsAbove_12 g1 ?_
      refine v_iload_n 1 dX3_rowsAbove_13 rfl rfl ?_
      refine v_icmp_le (tgt := 33) dX3_rowsAbove_14 (by decide) (fun c => ?_) (fun c => ?_)
      · replace hh := (if_pos c).symm.trans hh
        refine v_iinc (v := _ + (1 : Int32)) 3 dX3_rowsAbove_33 rfl rfl (by decide) rfl ?_
        replace hh := lt_of hh
        refine v_goto (tgt := 4) dX3_rowsAbove_36 (by decide) ?_
        exact v_sub [1, 2, 3, 0] rfl (ih _ _ _ _ hS0 hh)
      · replace hh := (if_neg c).symm.trans hh
        refine v_iload_n 3 dX3_rowsAbove_17 rfl rfl ?_
        refine v_if_eq (tgt := 30) dX3_rowsAbove_18 (by decide) (fun c => ?_) (fun c => ?_)
        · replace hh := (if_pos c).symm.trans hh
          refine v_iinc (v := _ + (1 : Int32)) 2 dX3_rowsAbove_30 rfl rfl (by decide) rfl ?_
          replace hh := lt_of hh
          refine v_iinc (v := _ + (1 : Int32)) 3 dX3_rowsAbove_33 rfl rfl (by decide) rfl ?_
          replace hh := lt_of hh
          refine v_goto (tgt := 4) dX3_rowsAbove_36 (by decide) ?_
          exact v_sub [2, 3, 1, 0] rfl (ih _ _ _ _ hS0 hh)
        · replace hh := (if_neg c).symm.trans hh
          refine v_aload_n 0 dX3_rowsAbove_21 rfl rfl ?_
          refine v_iload_n 3 dX3_rowsAbove_22 rfl rfl ?_
          refine v_iconst dX3_rowsAbove_23 (by decide : _ = (1 : Int32)) ?_
          refine v_isub dX3_rowsAbove_24 ?_
          obtain ⟨g5, hh⟩ := chk_some hh
          replace g5 := inb_in g5
          refine ld_cells hj dX3_rowsAbove_25 g5 ?_
          refine v_iload_n 1 dX3_rowsAbove_26 rfl rfl ?_
          refine v_icmp_gt (tgt := 33) dX3_rowsAbove_27 (by decide) (fun c => ?_) (fun c => ?_)
          · replace hh := (if_pos c).symm.trans hh
            refine v_iinc (v := _ + (1 : Int32)) 3 dX3_rowsAbove_33 rfl rfl (by decide) rfl ?_
            replace hh := lt_of hh
            refine v_goto (tgt := 4) dX3_rowsAbove_36 (by decide) ?_
            exact v_sub [1, 2, 3, 0] rfl (ih _ _ _ _ hS0 hh)
          · replace hh := (if_neg c).symm.trans hh
            refine v_iinc (v := _ + (1 : Int32)) 2 dX3_rowsAbove_30 rfl rfl (by decide) rfl ?_
            replace hh := lt_of hh
            refine v_iinc (v := _ + (1 : Int32)) 3 dX3_rowsAbove_33 rfl rfl (by decide) rfl ?_
            replace hh := lt_of hh
            refine v_goto (tgt := 4) dX3_rowsAbove_36 (by decide) ?_
            exact v_sub [2, 3, 1, 0] rfl (ih _ _ _ _ hS0 hh)
def f_X3_rowsAbove (N : Nat) (j : Nat) (S : St) (x1 : Int32) : Option (Int32) :=
  f_X3_rowsAbove_b4 N j N x1 (0 : Int32) (0 : Int32) S
set_option maxRecDepth 100000 in
set_option maxHeartbeats 4000000 in
theorem t_X3_rowsAbove {l : Launch} {G : v_G} {N : Nat} {S : St}  {j : Nat} (hj : j < 66) {x1 : Int32} {r : Int32} (hh : f_X3_rowsAbove N j S x1 = some r) : v_M l G yX3_rowsAbove cX3_rowsAbove 4 (some .int) 0 0 0 [.ref (v_B G + (so j + 1)), .int x1] (lay G S) (QI r (lay G S)) := by
  refine v_entry (by decide) (Nat.le_of_ble_eq_true rfl) ?_
  unfold f_X3_rowsAbove at hh
  show V l G yX3_rowsAbove cX3_rowsAbove 4 (some .int) (v_rm 0 0 0) (QI r (lay G S)) 0 0 0 [(0, .ref (v_B G + (so j + 1))), (1, .int x1)] [] (lay G S)
  refine v_iconst dX3_rowsAbove_0 (by decide : _ = (0 : Int32)) ?_
  refine v_istore_n dX3_rowsAbove_1 rfl (by decide) rfl ?_
  refine v_iconst dX3_rowsAbove_2 (by decide : _ = (0 : Int32)) ?_
  refine v_istore_n dX3_rowsAbove_3 rfl (by decide) rfl ?_
  exact v_sub [2, 3, 1, 0] rfl (tb_X3_rowsAbove_4 hj N _ _ _ _ rfl hh)
def f_X3_cellsAbove_b4 (N : Nat) (j : Nat) : Nat → Int32 → Int32 → Int32 → St → Option (Int32)
  | 0, _, _, _, _ => none
  | n + 1, x1, x2, x3, S =>
  if (12 : Int32) ≤ x3 then
  (some x2)
  else
  (chk (inb x3 12) (
  if (gI S 400 j x3.toNatClampNeg) ≤ x1 then
  (lt (x3 + (1 : Int32)) fun v2 =>
  f_X3_cellsAbove_b4 N j n x1 x2 v2 S)
  else
  (lt (x2 + (1 : Int32)) fun v3 =>
  lt (x3 + (1 : Int32)) fun v4 =>
  f_X3_cellsAbove_b4 N j n x1 v3 v4 S)))
set_option maxRecDepth 100000 in
set_option maxHeartbeats 4000000 in
theorem tb_X3_cellsAbove_4 {l : Launch} {G : v_G} {N : Nat}  {j : Nat} (hj : j < 66)  {r : Int32} {S0 : St}   : ∀ (n : Nat) (x1 : Int32) (x2 : Int32) (x3 : Int32) (S : St),  S = S0 → f_X3_cellsAbove_b4 N j n x1 x2 x3 S = some r → V l G yX3_cellsAbove cX3_cellsAbove 4 (some .int) (v_rm 0 0 0) (QI r (lay G S0)) 0 0 4 [(0, .ref (v_B G + (so j + 1))), (1, .int x1), (2, .int x2), (3, .int x3)] [] (lay G S) := by
  intro n
  induction n with
  | zero =>
    intro x1 x2 x3 S  hS0 hh
    rw [f_X3_cellsAbove_b4] at hh
    cases hh
  | succ n ih =>
    intro x1 x2 x3 S  hS0 hh
    rw [f_X3_cellsAbove_b4] at hh
    refine v_iload_n 3 dX3_cellsAbove_4 rfl rfl ?_
    refine v_bipush dX3_cellsAbove_5 (by decide : _ = (12 : Int32)) ?_
    refine v_icmp_ge (tgt := 26) dX3_cellsAbove_7 (by decide) (fun c => ?_) (fun c => ?_)
    · replace hh := (if_pos c).symm.trans hh
      refine v_iload_n 2 dX3_cellsAbove_26 rfl rfl ?_
      obtain rfl := Option.some.inj hh
      exact v_iret dX3_cellsAbove_27 rfl (Nat.zero_le _) (Nat.zero_le _) ⟨rfl, by rw [hS0]⟩
    · replace hh := (if_neg c).symm.trans hh
      refine v_aload_n 0 dX3_cellsAbove_10 rfl rfl ?_
      refine v_iload_n 3 dX3_cellsAbove_11 rfl rfl ?_
      obtain ⟨g1, hh⟩ := chk_some hh
      replace g1 := inb_in g1
      refine ld_cells hj dX3_cellsAbove_12 g1 ?_
      refine v_iload_n 1 dX3_cellsAbove_13 rfl rfl ?_
      refine v_icmp_le (tgt := 20) dX3_cellsAbove_14 (by decide) (fun c => ?_) (fun c => ?_)
      · replace hh := (if_pos c).symm.trans hh
        refine v_iinc (v := _ + (1 : Int32)) 3 dX3_cellsAbove_20 rfl rfl (by decide) rfl ?_
        replace hh := lt_of hh
        refine v_goto (tgt := 4) dX3_cellsAbove_23 (by decide) ?_
        exact v_sub [1, 2, 3, 0] rfl (ih _ _ _ _ hS0 hh)
      · replace hh := (if_neg c).symm.trans hh
        refine v_iinc (v := _ + (1 : Int32)) 2 dX3_cellsAbove_17 rfl rfl (by decide) rfl ?_
        replace hh := lt_of hh
        refine v_iinc (v := _ + (1 : Int32)) 3 dX3_cellsAbove_20 rfl rfl (by decide) rfl ?_
        replace hh := lt_of hh
        refine v_goto (tgt := 4) dX3_cellsAbove_23 (by decide) ?_
        exact v_sub [2, 3, 1, 0] rfl (ih _ _ _ _ hS0 hh)
def f_X3_cellsAbove (N : Nat) (j : Nat) (S : St) (x1 : Int32) : Option (Int32) :=
  f_X3_cellsAbove_b4 N j N x1 (0 : Int32) (0 : Int32) S
set_option maxRecDepth 100000 in
set_option maxHeartbeats 4000000 in
theorem t_X3_cellsAbove {l : Launch} {G : v_G} {N : Nat} {S : St}  {j : Nat} (hj : j < 66) {x1 : Int32} {r : Int32} (hh : f_X3_cellsAbove N j S x1 = some r) : v_M l G yX3_cellsAbove cX3_cellsAbove 4 (some .int) 0 0 0 [.ref (v_B G + (so j + 1)), .int x1] (lay G S) (QI r (lay G S)) := by
  refine v_entry (by decide) (Nat.le_of_ble_eq_true rfl) ?_
  unfold f_X3_cellsAbove at hh
  show V l G yX3_cellsAbove cX3_cellsAbove 4 (some .int) (v_rm 0 0 0) (QI r (lay G S)) 0 0 0 [(0, .ref (v_B G + (so j + 1))), (1, .int x1)] [] (lay G S)
  refine v_iconst dX3_cellsAbove_0 (by decide : _ = (0 : Int32)) ?_
  refine v_istore_n dX3_cellsAbove_1 rfl (by decide) rfl ?_
  refine v_iconst dX3_cellsAbove_2 (by decide : _ = (0 : Int32)) ?_
  refine v_istore_n dX3_cellsAbove_3 rfl (by decide) rfl ?_
  exact v_sub [2, 3, 1, 0] rfl (tb_X3_cellsAbove_4 hj N _ _ _ _ rfl hh)
def f_X3_firstHigher_b21 (rec2 : (Int32 → Int32 → Int32 → St → Option (Int32))) (N : Nat) (j : Nat) (x1 : Int32) (x2 : Int32) (x3 : Int32) (s0 : Int32) (S : St) : Option (Int32) :=
  if s0 < (0 : Int32) then
  (lt (x3 + (1 : Int32)) fun v1 =>
  rec2 x1 x2 v1 S)
  else
  (if (12 : Int32) ≤ s0 then
  (lt (x3 + (1 : Int32)) fun v2 =>
  rec2 x1 x2 v2 S)
  else
  (chk (inb s0 12) (
  chk (inb x1 12) (
  if (gI S 400 j s0.toNatClampNeg) ≤ (gI S 400 j x1.toNatClampNeg) then
  (lt (x3 + (1 : Int32)) fun v5 =>
  rec2 x1 x2 v5 S)
  else
  (some s0)))))
set_option maxRecDepth 100000 in
set_option maxHeartbeats 4000000 in
theorem tb_X3_firstHigher_21 {l : Launch} {G : v_G} {N : Nat}  {j : Nat} (hj : j < 66)  {r : Int32} {S0 : St} {rec2 : (Int32 → Int32 → Int32 → St → Option (Int32))} (hrec2 : ∀ (x1 : Int32) (x2 : Int32) (x3 : Int32) (S : St),  S = S0 → rec2 x1 x2 x3 S = some r → V l G yX3_firstHigher cX3_firstHigher 5 (some .int) (v_rm 0 0 0) (QI r (lay G S0)) 0 0 2 [(0, .ref (v_B G + (so j + 1))), (1, .int x1), (2, .int x2), (3, .int x3)] [] (lay G S)) : ∀ (x1 : Int32) (x2 : Int32) (x3 : Int32) (s0 : Int32) (S : St),  S = S0 → f_X3_firstHigher_b21 rec2 N j x1 x2 x3 s0 S = some r → V l G yX3_firstHigher cX3_firstHigher 5 (some .int) (v_rm 0 0 0) (QI r (lay G S0)) 0 0 21 [(0, .ref (v_B G + (so j + 1))), (1, .int x1), (2, .int x2), (3, .int x3)] [.int s0] (lay G S) := by
  intro x1 x2 x3 s0 S  hS0 hh
  unfold f_X3_firstHigher_b21 at hh
  refine v_istore dX3_firstHigher_21 (by decide) rfl ?_
  refine v_iload 0 dX3_firstHigher_23 rfl ?_
  refine v_if_lt (tgt := 48) dX3_firstHigher_25 (by decide) (fun c => ?_) (fun c => ?_)
  · replace hh := (if_pos c).symm.trans hh
    refine v_iinc (v := _ + (1 : Int32)) 4 dX3_firstHigher_48 rfl rfl (by decide) rfl ?_
    replace hh := lt_of hh
    refine v_goto (tgt := 2) dX3_firstHigher_51 (by decide) ?_
    exact v_sub [2, 3, 4, 0] rfl (hrec2 _ _ _ _ hS0 hh)
  · replace hh := (if_neg c).symm.trans hh
    refine v_iload 0 dX3_firstHigher_28 rfl ?_
    refine v_bipush dX3_firstHigher_30 (by decide : _ = (12 : Int32)) ?_
    refine v_icmp_ge (tgt := 48) dX3_firstHigher_32 (by decide) (fun c => ?_) (fun c => ?_)
    · replace hh := (if_pos c).symm.trans hh
      refine v_iinc (v := _ + (1 : Int32)) 4 dX3_firstHigher_48 rfl rfl (by decide) rfl ?_
      replace hh := lt_of hh
      refine v_goto (tgt := 2) dX3_firstHigher_51 (by decide) ?_
      exact v_sub [2, 3, 4, 0] rfl (hrec2 _ _ _ _ hS0 hh)
    · replace hh := (if_neg c).symm.trans hh
      refine v_aload_n 1 dX3_firstHigher_35 rfl rfl ?_
      refine v_iload 0 dX3_firstHigher_36 rfl ?_
      obtain ⟨g3, hh⟩ := chk_some hh
      replace g3 := inb_in g3
      refine ld_cells hj dX3_firstHigher_38 g3 ?_
      refine v_aload_n 1 dX3_firstHigher_39 rfl rfl ?_
      refine v_iload_n 2 dX3_firstHigher_40 rfl rfl ?_
      obtain ⟨g4, hh⟩ := chk_some hh
      replace g4 := inb_in g4
      refine ld_cells hj dX3_firstHigher_41 g4 ?_
      refine v_icmp_le (tgt := 48) dX3_firstHigher_42 (by decide) (fun c => ?_) (fun c => ?_)
      · replace hh := (if_pos c).symm.trans hh
        refine v_iinc (v := _ + (1 : Int32)) 4 dX3_firstHigher_48 rfl rfl (by decide) rfl ?_
        replace hh := lt_of hh
        refine v_goto (tgt := 2) dX3_firstHigher_51 (by decide) ?_
        exact v_sub [2, 3, 4, 0] rfl (hrec2 _ _ _ _ hS0 hh)
      · replace hh := (if_neg c).symm.trans hh
        refine v_iload 0 dX3_firstHigher_45 rfl ?_
        obtain rfl := Option.some.inj hh
        exact v_iret dX3_firstHigher_47 rfl (Nat.zero_le _) (Nat.zero_le _) ⟨rfl, by rw [hS0]⟩
def f_X3_firstHigher_b2 (N : Nat) (j : Nat) : Nat → Int32 → Int32 → Int32 → St → Option (Int32)
  | 0, _, _, _, _ => none
  | n + 1, x1, x2, x3, S =>
  if (12 : Int32) ≤ x3 then
  (some (-1 : Int32))
  else
  (if x2 = (0 : Int32) then
  (f_X3_firstHigher_b21 (f_X3_firstHigher_b2 N j n) N j x1 x2 x3 (x1 - x3) S)
  else
  (f_X3_firstHigher_b21 (f_X3_firstHigher_b2 N j n) N j x1 x2 x3 (x1 + x3) S))
set_option maxRecDepth 100000 in
set_option maxHeartbeats 4000000 in
theorem tb_X3_firstHigher_2 {l : Launch} {G : v_G} {N : Nat}  {j : Nat} (hj : j < 66)  {r : Int32} {S0 : St}   : ∀ (n : Nat) (x1 : Int32) (x2 : Int32) (x3 : Int32) (S : St),  S = S0 → f_X3_firstHigher_b2 N j n x1 x2 x3 S = some r → V l G yX3_firstHigher cX3_firstHigher 5 (some .int) (v_rm 0 0 0) (QI r (lay G S0)) 0 0 2 [(0, .ref (v_B G + (so j + 1))), (1, .int x1), (2, .int x2), (3, .int x3)] [] (lay G S) := by
  intro n
  induction n with
  | zero =>
    intro x1 x2 x3 S  hS0 hh
    rw [f_X3_firstHigher_b2] at hh
    cases hh
  | succ n ih =>
    intro x1 x2 x3 S  hS0 hh
    rw [f_X3_firstHigher_b2] at hh
    refine v_iload_n 3 dX3_firstHigher_2 rfl rfl ?_
    refine v_bipush dX3_firstHigher_3 (by decide : _ = (12 : Int32)) ?_
    refine v_icmp_ge (tgt := 54) dX3_firstHigher_5 (by decide) (fun c => ?_) (fun c => ?_)
    · replace hh := (if_pos c).symm.trans hh
      refine v_iconst dX3_firstHigher_54 (by decide : _ = (-1 : Int32)) ?_
      obtain rfl := Option.some.inj hh
      exact v_iret dX3_firstHigher_55 rfl (Nat.zero_le _) (Nat.zero_le _) ⟨rfl, by rw [hS0]⟩
    · replace hh := (if_neg c).symm.trans hh
      refine v_iload_n 2 dX3_firstHigher_8 rfl rfl ?_
      refine v_if_eq (tgt := 18) dX3_firstHigher_9 (by decide) (fun c => ?_) (fun c => ?_)
      · replace hh := (if_pos c).symm.trans hh
        refine v_iload_n 1 dX3_firstHigher_18 rfl rfl ?_
        refine v_iload_n 3 dX3_firstHigher_19 rfl rfl ?_
        refine v_isub dX3_firstHigher_20 ?_
        exact v_sub [0, 1, 2, 3] rfl (tb_X3_firstHigher_21 hj (fun _ _ _ _ hS hh => ih _ _ _ _ hS hh) _ _ _ _ _ hS0 hh)
      · replace hh := (if_neg c).symm.trans hh
        refine v_iload_n 1 dX3_firstHigher_12 rfl rfl ?_
        refine v_iload_n 3 dX3_firstHigher_13 rfl rfl ?_
        refine v_iadd dX3_firstHigher_14 ?_
        refine v_goto (tgt := 21) dX3_firstHigher_15 (by decide) ?_
        exact v_sub [0, 1, 2, 3] rfl (tb_X3_firstHigher_21 hj (fun _ _ _ _ hS hh => ih _ _ _ _ hS hh) _ _ _ _ _ hS0 hh)
def f_X3_firstHigher (N : Nat) (j : Nat) (S : St) (x1 : Int32) (x2 : Int32) : Option (Int32) :=
  f_X3_firstHigher_b2 N j N x1 x2 (1 : Int32) S
set_option maxRecDepth 100000 in
set_option maxHeartbeats 4000000 in
theorem t_X3_firstHigher {l : Launch} {G : v_G} {N : Nat} {S : St}  {j : Nat} (hj : j < 66) {x1 : Int32} {x2 : Int32} {r : Int32} (hh : f_X3_firstHigher N j S x1 x2 = some r) : v_M l G yX3_firstHigher cX3_firstHigher 5 (some .int) 0 0 0 [.ref (v_B G + (so j + 1)), .int x1, .int x2] (lay G S) (QI r (lay G S)) := by
  refine v_entry (by decide) (Nat.le_of_ble_eq_true rfl) ?_
  unfold f_X3_firstHigher at hh
  show V l G yX3_firstHigher cX3_firstHigher 5 (some .int) (v_rm 0 0 0) (QI r (lay G S)) 0 0 0 [(0, .ref (v_B G + (so j + 1))), (1, .int x1), (2, .int x2)] [] (lay G S)
  refine v_iconst dX3_firstHigher_0 (by decide : _ = (1 : Int32)) ?_
  refine v_istore_n dX3_firstHigher_1 rfl (by decide) rfl ?_
  exact v_sub [1, 2, 3, 0] rfl (tb_X3_firstHigher_2 hj N _ _ _ _ rfl hh)
def f_X3_leastButOthers_b2 (N : Nat) (j : Nat) : Nat → Int32 → Int32 → St → Option (Int32)
  | 0, _, _, _ => none
  | n + 1, x1, x2, S =>
  if (12 : Int32) ≤ x2 then
  (some (-1 : Int32))
  else
  (chk (inb x2 12) (
  bnd (f_X3_cellsAbove N j S ((gI S 400 j x2.toNatClampNeg) - (1 : Int32))) fun q2 =>
 lt ((12 : Int32) - q2) fun v3 =>
  chk (inb x2 12) (
  bnd (f_X3_cellsAbove N j S (gI S 400 j x2.toNatClampNeg)) fun q5 =>
 lt ((12 : Int32) - q5) fun v6 =>
  if x1 ≤ v3 then
  (lt (x2 + (1 : Int32)) fun v7 =>
  f_X3_leastButOthers_b2 N j n x1 v7 S)
  else
  (if v6 < x1 then
  (lt (x2 + (1 : Int32)) fun v8 =>
  f_X3_leastButOthers_b2 N j n x1 v8 S)
  else
  (chk (inb x2 12) (
  some (gI S 400 j x2.toNatClampNeg)))))))
set_option maxRecDepth 100000 in
set_option maxHeartbeats 4000000 in
theorem tb_X3_leastButOthers_2 {l : Launch} {G : v_G} {N : Nat}  {j : Nat} (hj : j < 66)  {r : Int32} {S0 : St}   : ∀ (n : Nat) (x1 : Int32) (x2 : Int32) (S : St),  S = S0 → f_X3_leastButOthers_b2 N j n x1 x2 S = some r → V l G yX3_leastButOthers cX3_leastButOthers 5 (some .int) (v_rm 1 0 0) (QI r (lay G S0)) 0 0 2 [(0, .ref (v_B G + (so j + 1))), (1, .int x1), (2, .int x2)] [] (lay G S) := by
  intro n
  induction n with
  | zero =>
    intro x1 x2 S  hS0 hh
    rw [f_X3_leastButOthers_b2] at hh
    cases hh
  | succ n ih =>
    intro x1 x2 S  hS0 hh
    rw [f_X3_leastButOthers_b2] at hh
    refine v_iload_n 2 dX3_leastButOthers_2 rfl rfl ?_
    refine v_bipush dX3_leastButOthers_3 (by decide : _ = (12 : Int32)) ?_
    refine v_icmp_ge (tgt := 54) dX3_leastButOthers_5 (by decide) (fun c => ?_) (fun c => ?_)
    · replace hh := (if_pos c).symm.trans hh
      refine v_iconst dX3_leastButOthers_54 (by decide : _ = (-1 : Int32)) ?_
      obtain rfl := Option.some.inj hh
      exact v_iret dX3_leastButOthers_55 rfl (Nat.zero_le _) (Nat.zero_le _) ⟨rfl, by rw [hS0]⟩
    · replace hh := (if_neg c).symm.trans hh
      refine v_bipush dX3_leastButOthers_8 (by decide : _ = (12 : Int32)) ?_
      refine v_aload_n 0 dX3_leastButOthers_10 rfl rfl ?_
      refine v_aload_n 0 dX3_leastButOthers_11 rfl rfl ?_
      refine v_iload_n 2 dX3_leastButOthers_12 rfl rfl ?_
      obtain ⟨g1, hh⟩ := chk_some hh
      replace g1 := inb_in g1
      refine ld_cells hj dX3_leastButOthers_13 g1 ?_
      refine v_iconst dX3_leastButOthers_14 (by decide : _ = (1 : Int32)) ?_
      refine v_isub dX3_leastButOthers_15 ?_
      obtain ⟨q2, eq2, hh⟩ := bnd_some hh
      refine v_callSi (t_X3_cellsAbove hj eq2) dX3_leastButOthers_16 y_X3_cellsAbove ml_X3_34 rfl rfl (Nat.le_of_ble_eq_true rfl) ⟨(Nat.le_of_ble_eq_true rfl), (Nat.le_of_ble_eq_true rfl)⟩ ⟨Nat.zero_le _, Nat.zero_le _⟩ ?_
      refine v_isub dX3_leastButOthers_19 ?_
      refine v_istore_n dX3_leastButOthers_20 rfl (by decide) rfl ?_
      replace hh := lt_of hh
      refine v_bipush dX3_leastButOthers_21 (by decide : _ = (12 : Int32)) ?_
      refine v_aload_n 1 dX3_leastButOthers_23 rfl rfl ?_
      refine v_aload_n 1 dX3_leastButOthers_24 rfl rfl ?_
      refine v_iload_n 3 dX3_leastButOthers_25 rfl rfl ?_
      obtain ⟨g4, hh⟩ := chk_some hh
      replace g4 := inb_in g4
      refine ld_cells hj dX3_leastButOthers_26 g4 ?_
      obtain ⟨q5, eq5, hh⟩ := bnd_some hh
      refine v_callSi (t_X3_cellsAbove hj eq5) dX3_leastButOthers_27 y_X3_cellsAbove ml_X3_34 rfl rfl (Nat.le_of_ble_eq_true rfl) ⟨(Nat.le_of_ble_eq_true rfl), (Nat.le_of_ble_eq_true rfl)⟩ ⟨Nat.zero_le _, Nat.zero_le _⟩ ?_
      refine v_isub dX3_leastButOthers_30 ?_
      refine v_istore dX3_leastButOthers_31 (by decide) rfl ?_
      replace hh := lt_of hh
      refine v_iload_n 1 dX3_leastButOthers_33 rfl rfl ?_
      refine v_iload_n 3 dX3_leastButOthers_34 rfl rfl ?_
      refine v_icmp_ge (tgt := 48) dX3_leastButOthers_35 (by decide) (fun c => ?_) (fun c => ?_)
      · replace hh := (if_pos c).symm.trans hh
        refine v_iinc (v := _ + (1 : Int32)) 4 dX3_leastButOthers_48 rfl rfl (by decide) rfl ?_
        replace hh := lt_of hh
        refine v_goto (tgt := 2) dX3_leastButOthers_51 (by decide) ?_
        exact v_sub [3, 4, 0] rfl (ih _ _ _ hS0 hh)
      · replace hh := (if_neg c).symm.trans hh
        refine v_iload_n 3 dX3_leastButOthers_38 rfl rfl ?_
        refine v_iload 0 dX3_leastButOthers_39 rfl ?_
        refine v_icmp_gt (tgt := 48) dX3_leastButOthers_41 (by decide) (fun c => ?_) (fun c => ?_)
        · replace hh := (if_pos c).symm.trans hh
          refine v_iinc (v := _ + (1 : Int32)) 4 dX3_leastButOthers_48 rfl rfl (by decide) rfl ?_
          replace hh := lt_of hh
          refine v_goto (tgt := 2) dX3_leastButOthers_51 (by decide) ?_
          exact v_sub [3, 4, 0] rfl (ih _ _ _ hS0 hh)
        · replace hh := (if_neg c).symm.trans hh
          refine v_aload_n 2 dX3_leastButOthers_44 rfl rfl ?_
          refine v_iload_n 4 dX3_leastButOthers_45 rfl rfl ?_
          obtain ⟨g9, hh⟩ := chk_some hh
          replace g9 := inb_in g9
          refine ld_cells hj dX3_leastButOthers_46 g9 ?_
          obtain rfl := Option.some.inj hh
          exact v_iret dX3_leastButOthers_47 rfl (Nat.zero_le _) (Nat.zero_le _) ⟨rfl, by rw [hS0]⟩
def f_X3_leastButOthers (N : Nat) (j : Nat) (S : St) (x1 : Int32) : Option (Int32) :=
  f_X3_leastButOthers_b2 N j N x1 (0 : Int32) S
set_option maxRecDepth 100000 in
set_option maxHeartbeats 4000000 in
theorem t_X3_leastButOthers {l : Launch} {G : v_G} {N : Nat} {S : St}  {j : Nat} (hj : j < 66) {x1 : Int32} {r : Int32} (hh : f_X3_leastButOthers N j S x1 = some r) : v_M l G yX3_leastButOthers cX3_leastButOthers 5 (some .int) 1 0 0 [.ref (v_B G + (so j + 1)), .int x1] (lay G S) (QI r (lay G S)) := by
  refine v_entry (by decide) (Nat.le_of_ble_eq_true rfl) ?_
  unfold f_X3_leastButOthers at hh
  show V l G yX3_leastButOthers cX3_leastButOthers 5 (some .int) (v_rm 1 0 0) (QI r (lay G S)) 0 0 0 [(0, .ref (v_B G + (so j + 1))), (1, .int x1)] [] (lay G S)
  refine v_iconst dX3_leastButOthers_0 (by decide : _ = (0 : Int32)) ?_
  refine v_istore_n dX3_leastButOthers_1 rfl (by decide) rfl ?_
  exact v_sub [1, 2, 0] rfl (tb_X3_leastButOthers_2 hj N _ _ _ rfl hh)
def f_X3_way_cc_b7 (N : Nat) (j : Nat) (k : Nat) : Nat → Int32 → Int32 → Int32 → St → Option (Int32)
  | 0, _, _, _, _ => none
  | n + 1, x2, x3, x4, S =>
  if (12 : Int32) ≤ x4 then
  (some x2)
  else
  (chk (inb x4 12) (
  chk (inb x4 12) (
  lt (x3 + ((gI S 400 j x4.toNatClampNeg) - (gI S 400 k x4.toNatClampNeg))) fun v3 =>
  lt (if 0 ≤ v3 then v3 else 0 - v3) fun v4 =>
  lt (x2 + v4) fun v5 =>
  lt (x4 + (1 : Int32)) fun v6 =>
  f_X3_way_cc_b7 N j k n v5 v3 v6 S)))
set_option maxRecDepth 100000 in
set_option maxHeartbeats 4000000 in
theorem tb_X3_way_cc_7 {l : Launch} {G : v_G} {N : Nat}  {j : Nat} (hj : j < 66) {k : Nat} (hk : k < 66)  {r : Int32} {S0 : St}   : ∀ (n : Nat) (x2 : Int32) (x3 : Int32) (x4 : Int32) (S : St),  S = S0 → f_X3_way_cc_b7 N j k n x2 x3 x4 S = some r → V l G yX3_way cX3_way 5 (some .int) (v_rm 1 0 0) (QI r (lay G S0)) 0 0 7 [(0, .ref (v_B G + (so j + 1))), (1, .ref (v_B G + (so k + 1))), (2, .int x2), (3, .int x3), (4, .int x4)] [] (lay G S) := by
  intro n
  induction n with
  | zero =>
    intro x2 x3 x4 S  hS0 hh
    rw [f_X3_way_cc_b7] at hh
    cases hh
  | succ n ih =>
    intro x2 x3 x4 S  hS0 hh
    rw [f_X3_way_cc_b7] at hh
    refine v_iload 4 dX3_way_7 rfl ?_
    refine v_bipush dX3_way_9 (by decide : _ = (12 : Int32)) ?_
    refine v_icmp_ge (tgt := 39) dX3_way_11 (by decide) (fun c => ?_) (fun c => ?_)
    · replace hh := (if_pos c).symm.trans hh
      refine v_iload_n 2 dX3_way_39 rfl rfl ?_
      obtain rfl := Option.some.inj hh
      exact v_iret dX3_way_40 rfl (Nat.zero_le _) (Nat.zero_le _) ⟨rfl, by rw [hS0]⟩
    · replace hh := (if_neg c).symm.trans hh
      refine v_iload_n 3 dX3_way_14 rfl rfl ?_
      refine v_aload_n 0 dX3_way_15 rfl rfl ?_
      refine v_iload 4 dX3_way_16 rfl ?_
      obtain ⟨g1, hh⟩ := chk_some hh
      replace g1 := inb_in g1
      refine ld_cells hj dX3_way_18 g1 ?_
      refine v_aload_n 1 dX3_way_19 rfl rfl ?_
      refine v_iload 4 dX3_way_20 rfl ?_
      obtain ⟨g2, hh⟩ := chk_some hh
      replace g2 := inb_in g2
      refine ld_cells hk dX3_way_22 g2 ?_
      refine v_isub dX3_way_23 ?_
      refine v_iadd dX3_way_24 ?_
      refine v_istore_n dX3_way_25 rfl (by decide) rfl ?_
      replace hh := lt_of hh
      refine v_iload_n 3 dX3_way_26 rfl rfl ?_
      refine v_iload_n 0 dX3_way_27 rfl rfl ?_
      refine v_mabs dX3_way_28 ml_X3_38 y_J9_abs_0f7a4.2 y_J9_abs_0f7a4.1.2.1 y_J9_abs_0f7a4.1.1 (Nat.le_of_ble_eq_true rfl) (Nat.le_of_ble_eq_true rfl) (Nat.zero_le _) (Nat.zero_le _) ?_
      replace hh := lt_of hh
      refine v_iadd dX3_way_31 ?_
      refine v_istore_n dX3_way_32 rfl (by decide) rfl ?_
      replace hh := lt_of hh
      refine v_iinc (v := _ + (1 : Int32)) 4 dX3_way_33 rfl rfl (by decide) rfl ?_
      replace hh := lt_of hh
      refine v_goto (tgt := 7) dX3_way_36 (by decide) ?_
      exact v_sub [3, 4, 1, 2, 0] rfl (ih _ _ _ _ hS0 hh)
def f_X3_way_cc (N : Nat) (j : Nat) (k : Nat) (S : St)  : Option (Int32) :=
  f_X3_way_cc_b7 N j k N (0 : Int32) (0 : Int32) (0 : Int32) S
set_option maxRecDepth 100000 in
set_option maxHeartbeats 4000000 in
theorem t_X3_way_cc {l : Launch} {G : v_G} {N : Nat} {S : St}  {j : Nat} (hj : j < 66) {k : Nat} (hk : k < 66)  {r : Int32} (hh : f_X3_way_cc N j k S  = some r) : v_M l G yX3_way cX3_way 5 (some .int) 1 0 0 [.ref (v_B G + (so j + 1)), .ref (v_B G + (so k + 1))] (lay G S) (QI r (lay G S)) := by
  refine v_entry (by decide) (Nat.le_of_ble_eq_true rfl) ?_
  unfold f_X3_way_cc at hh
  show V l G yX3_way cX3_way 5 (some .int) (v_rm 1 0 0) (QI r (lay G S)) 0 0 0 [(0, .ref (v_B G + (so j + 1))), (1, .ref (v_B G + (so k + 1)))] [] (lay G S)
  refine v_iconst dX3_way_0 (by decide : _ = (0 : Int32)) ?_
  refine v_istore_n dX3_way_1 rfl (by decide) rfl ?_
  refine v_iconst dX3_way_2 (by decide : _ = (0 : Int32)) ?_
  refine v_istore_n dX3_way_3 rfl (by decide) rfl ?_
  refine v_iconst dX3_way_4 (by decide : _ = (0 : Int32)) ?_
  refine v_istore dX3_way_5 (by decide) rfl ?_
  exact v_sub [3, 4, 2, 1, 0] rfl (tb_X3_way_cc_7 hj hk N _ _ _ _ rfl hh)
def f_X3_way_cr_b7 (N : Nat) (j : Nat) : Nat → Int32 → Int32 → Int32 → St → Option (Int32)
  | 0, _, _, _, _ => none
  | n + 1, x2, x3, x4, S =>
  if (12 : Int32) ≤ x4 then
  (some x2)
  else
  (chk (inb x4 12) (
  chk (inb x4 13) (
  lt (x3 + ((gI S 400 j x4.toNatClampNeg) - (gI S 300 0 x4.toNatClampNeg))) fun v3 =>
  lt (if 0 ≤ v3 then v3 else 0 - v3) fun v4 =>
  lt (x2 + v4) fun v5 =>
  lt (x4 + (1 : Int32)) fun v6 =>
  f_X3_way_cr_b7 N j n v5 v3 v6 S)))
set_option maxRecDepth 100000 in
set_option maxHeartbeats 4000000 in
theorem tb_X3_way_cr_7 {l : Launch} {G : v_G} {N : Nat}  {j : Nat} (hj : j < 66)  {r : Int32} {S0 : St}   : ∀ (n : Nat) (x2 : Int32) (x3 : Int32) (x4 : Int32) (S : St),  S = S0 → f_X3_way_cr_b7 N j n x2 x3 x4 S = some r → V l G yX3_way cX3_way 5 (some .int) (v_rm 1 0 0) (QI r (lay G S0)) 0 0 7 [(0, .ref (v_B G + (so j + 1))), (1, .ref (v_B G + 281)), (2, .int x2), (3, .int x3), (4, .int x4)] [] (lay G S) := by
  intro n
  induction n with
  | zero =>
    intro x2 x3 x4 S  hS0 hh
    rw [f_X3_way_cr_b7] at hh
    cases hh
  | succ n ih =>
    intro x2 x3 x4 S  hS0 hh
    rw [f_X3_way_cr_b7] at hh
    refine v_iload 4 dX3_way_7 rfl ?_
    refine v_bipush dX3_way_9 (by decide : _ = (12 : Int32)) ?_
    refine v_icmp_ge (tgt := 39) dX3_way_11 (by decide) (fun c => ?_) (fun c => ?_)
    · replace hh := (if_pos c).symm.trans hh
      refine v_iload_n 2 dX3_way_39 rfl rfl ?_
      obtain rfl := Option.some.inj hh
      exact v_iret dX3_way_40 rfl (Nat.zero_le _) (Nat.zero_le _) ⟨rfl, by rw [hS0]⟩
    · replace hh := (if_neg c).symm.trans hh
      refine v_iload_n 3 dX3_way_14 rfl rfl ?_
      refine v_aload_n 0 dX3_way_15 rfl rfl ?_
      refine v_iload 4 dX3_way_16 rfl ?_
      obtain ⟨g1, hh⟩ := chk_some hh
      replace g1 := inb_in g1
      refine ld_cells hj dX3_way_18 g1 ?_
      refine v_aload_n 1 dX3_way_19 rfl rfl ?_
      refine v_iload 4 dX3_way_20 rfl ?_
      obtain ⟨g2, hh⟩ := chk_some hh
      replace g2 := inb_in g2
      refine ld_row dX3_way_22 g2 ?_
      refine v_isub dX3_way_23 ?_
      refine v_iadd dX3_way_24 ?_
      refine v_istore_n dX3_way_25 rfl (by decide) rfl ?_
      replace hh := lt_of hh
      refine v_iload_n 3 dX3_way_26 rfl rfl ?_
      refine v_iload_n 0 dX3_way_27 rfl rfl ?_
      refine v_mabs dX3_way_28 ml_X3_38 y_J9_abs_0f7a4.2 y_J9_abs_0f7a4.1.2.1 y_J9_abs_0f7a4.1.1 (Nat.le_of_ble_eq_true rfl) (Nat.le_of_ble_eq_true rfl) (Nat.zero_le _) (Nat.zero_le _) ?_
      replace hh := lt_of hh
      refine v_iadd dX3_way_31 ?_
      refine v_istore_n dX3_way_32 rfl (by decide) rfl ?_
      replace hh := lt_of hh
      refine v_iinc (v := _ + (1 : Int32)) 4 dX3_way_33 rfl rfl (by decide) rfl ?_
      replace hh := lt_of hh
      refine v_goto (tgt := 7) dX3_way_36 (by decide) ?_
      exact v_sub [3, 4, 1, 2, 0] rfl (ih _ _ _ _ hS0 hh)
def f_X3_way_cr (N : Nat) (j : Nat) (S : St)  : Option (Int32) :=
  f_X3_way_cr_b7 N j N (0 : Int32) (0 : Int32) (0 : Int32) S
set_option maxRecDepth 100000 in
set_option maxHeartbeats 4000000 in
theorem t_X3_way_cr {l : Launch} {G : v_G} {N : Nat} {S : St}  {j : Nat} (hj : j < 66)  {r : Int32} (hh : f_X3_way_cr N j S  = some r) : v_M l G yX3_way cX3_way 5 (some .int) 1 0 0 [.ref (v_B G + (so j + 1)), .ref (v_B G + 281)] (lay G S) (QI r (lay G S)) := by
  refine v_entry (by decide) (Nat.le_of_ble_eq_true rfl) ?_
  unfold f_X3_way_cr at hh
  show V l G yX3_way cX3_way 5 (some .int) (v_rm 1 0 0) (QI r (lay G S)) 0 0 0 [(0, .ref (v_B G + (so j + 1))), (1, .ref (v_B G + 281))] [] (lay G S)
  refine v_iconst dX3_way_0 (by decide : _ = (0 : Int32)) ?_
  refine v_istore_n dX3_way_1 rfl (by decide) rfl ?_
  refine v_iconst dX3_way_2 (by decide : _ = (0 : Int32)) ?_
  refine v_istore_n dX3_way_3 rfl (by decide) rfl ?_
  refine v_iconst dX3_way_4 (by decide : _ = (0 : Int32)) ?_
  refine v_istore dX3_way_5 (by decide) rfl ?_
  exact v_sub [3, 4, 2, 1, 0] rfl (tb_X3_way_cr_7 hj N _ _ _ _ rfl hh)
def f_X3_wayToLevel_b10 (N : Nat) (j : Nat) : Nat → Int32 → Int32 → St → Option (Int32 × St)
  | 0, _, _, _ => none
  | n + 1, x2, x3, S =>
  if (12 : Int32) ≤ x3 then
  (bnd (f_X3_way_cr N j S ) fun q2 =>
 some (q2, S))
  else
  (if (x2 - x2 / (12 : Int32) * (12 : Int32)) ≤ x3 then
  (chk (inb x3 13) (
  lt (sI S 300 0 x3.toNatClampNeg ((x2 / (12 : Int32)) + (0 : Int32))) fun S4 =>
  lt (x3 + (1 : Int32)) fun v5 =>
  f_X3_wayToLevel_b10 N j n x2 v5 S4))
  else
  (chk (inb x3 13) (
  lt (sI S 300 0 x3.toNatClampNeg ((x2 / (12 : Int32)) + (1 : Int32))) fun S7 =>
  lt (x3 + (1 : Int32)) fun v8 =>
  f_X3_wayToLevel_b10 N j n x2 v8 S7)))
set_option maxRecDepth 100000 in
set_option maxHeartbeats 4000000 in
theorem tb_X3_wayToLevel_10 {l : Launch} {G : v_G} {N : Nat}  {j : Nat} (hj : j < 66)  {r : Int32 × St}   : ∀ (n : Nat) (x2 : Int32) (x3 : Int32) (S : St),  f_X3_wayToLevel_b10 N j n x2 x3 S = some r → V l G yX3_wayToLevel cX3_wayToLevel 4 (some .int) (v_rm 2 0 0) (QI r.1 (lay G r.2)) 0 0 10 [(0, .ref (v_B G + 280)), (1, .ref (v_B G + (so j + 1))), (2, .int x2), (3, .int x3)] [] (lay G S) := by
  intro n
  induction n with
  | zero =>
    intro x2 x3 S  hh
    rw [f_X3_wayToLevel_b10] at hh
    cases hh
  | succ n ih =>
    intro x2 x3 S  hh
    rw [f_X3_wayToLevel_b10] at hh
    refine v_iload_n 3 dX3_wayToLevel_10 rfl rfl ?_
    refine v_bipush dX3_wayToLevel_11 (by decide : _ = (12 : Int32)) ?_
    refine v_icmp_ge (tgt := 46) dX3_wayToLevel_13 (by decide) (fun c => ?_) (fun c => ?_)
    · replace hh := (if_pos c).symm.trans hh
      refine v_aload_n 1 dX3_wayToLevel_46 rfl rfl ?_
      refine v_aload_n 0 dX3_wayToLevel_47 rfl rfl ?_
      refine r_Shape_row dX3_wayToLevel_48 fl_X3_11 ?_
      obtain ⟨q2, eq2, hh⟩ := bnd_some hh
      refine v_callSi (t_X3_way_cr hj eq2) dX3_wayToLevel_51 y_X3_way ml_X3_42 rfl rfl (Nat.le_of_ble_eq_true rfl) ⟨(Nat.le_of_ble_eq_true rfl), (Nat.le_of_ble_eq_true rfl)⟩ ⟨Nat.zero_le _, Nat.zero_le _⟩ ?_
      obtain rfl := Option.some.inj hh
      exact v_iret dX3_wayToLevel_54 rfl (Nat.zero_le _) (Nat.zero_le _) ⟨rfl, rfl⟩
    · replace hh := (if_neg c).symm.trans hh
      refine v_aload_n 0 dX3_wayToLevel_16 rfl rfl ?_
      refine r_Shape_row dX3_wayToLevel_17 fl_X3_11 ?_
      refine v_iload_n 3 dX3_wayToLevel_20 rfl rfl ?_
      refine v_iload_n 2 dX3_wayToLevel_21 rfl rfl ?_
      refine v_bipush dX3_wayToLevel_22 (by decide : _ = (12 : Int32)) ?_
      refine v_idiv dX3_wayToLevel_24 (by decide) ?_
      refine v_iload_n 3 dX3_wayToLevel_25 rfl rfl ?_
      refine v_iload_n 2 dX3_wayToLevel_26 rfl rfl ?_
      refine v_bipush dX3_wayToLevel_27 (by decide : _ = (12 : Int32)) ?_
      refine v_irem dX3_wayToLevel_29 (by decide) ?_
      refine v_icmp_ge (tgt := 37) dX3_wayToLevel_30 (by decide) (fun c => ?_) (fun c => ?_)
      · replace hh := (if_pos c).symm.trans hh
        refine v_iconst dX3_wayToLevel_37 (by decide : _ = (0 : Int32)) ?_
        refine v_iadd dX3_wayToLevel_38 ?_
        obtain ⟨g3, hh⟩ := chk_some hh
        replace g3 := inb_in g3
        refine st_row dX3_wayToLevel_39 g3 ?_
        replace hh := lt_of hh
        refine v_iinc (v := _ + (1 : Int32)) 3 dX3_wayToLevel_40 rfl rfl (by decide) rfl ?_
        replace hh := lt_of hh
        refine v_goto (tgt := 10) dX3_wayToLevel_43 (by decide) ?_
        exact v_sub [1, 2, 3, 0] rfl (ih _ _ _ hh)
      · replace hh := (if_neg c).symm.trans hh
        refine v_iconst dX3_wayToLevel_33 (by decide : _ = (1 : Int32)) ?_
        refine v_goto (tgt := 38) dX3_wayToLevel_34 (by decide) ?_
        refine v_iadd dX3_wayToLevel_38 ?_
        obtain ⟨g6, hh⟩ := chk_some hh
        replace g6 := inb_in g6
        refine st_row dX3_wayToLevel_39 g6 ?_
        replace hh := lt_of hh
        refine v_iinc (v := _ + (1 : Int32)) 3 dX3_wayToLevel_40 rfl rfl (by decide) rfl ?_
        replace hh := lt_of hh
        refine v_goto (tgt := 10) dX3_wayToLevel_43 (by decide) ?_
        exact v_sub [1, 2, 3, 0] rfl (ih _ _ _ hh)
def f_X3_wayToLevel (N : Nat) (j : Nat) (S : St)  : Option (Int32 × St) :=
  bnd (f_X3_sum N j S (0 : Int32) (12 : Int32)) fun q1 =>
 f_X3_wayToLevel_b10 N j N q1 (0 : Int32) S
set_option maxRecDepth 100000 in
set_option maxHeartbeats 4000000 in
theorem t_X3_wayToLevel {l : Launch} {G : v_G} {N : Nat} {S : St}  {j : Nat} (hj : j < 66)  {r : Int32 × St} (hh : f_X3_wayToLevel N j S  = some r) : v_M l G yX3_wayToLevel cX3_wayToLevel 4 (some .int) 2 0 0 [.ref (v_B G + 280), .ref (v_B G + (so j + 1))] (lay G S) (QI r.1 (lay G r.2)) := by
  refine v_entry (by decide) (Nat.le_of_ble_eq_true rfl) ?_
  unfold f_X3_wayToLevel at hh
  show V l G yX3_wayToLevel cX3_wayToLevel 4 (some .int) (v_rm 2 0 0) (QI r.1 (lay G r.2)) 0 0 0 [(0, .ref (v_B G + 280)), (1, .ref (v_B G + (so j + 1)))] [] (lay G S)
  refine v_aload_n 1 dX3_wayToLevel_0 rfl rfl ?_
  refine v_iconst dX3_wayToLevel_1 (by decide : _ = (0 : Int32)) ?_
  refine v_bipush dX3_wayToLevel_2 (by decide : _ = (12 : Int32)) ?_
  obtain ⟨q1, eq1, hh⟩ := bnd_some hh
  refine v_callSi (t_X3_sum hj eq1) dX3_wayToLevel_4 y_X3_sum ml_X3_31 rfl rfl (Nat.le_of_ble_eq_true rfl) ⟨(Nat.le_of_ble_eq_true rfl), (Nat.le_of_ble_eq_true rfl)⟩ ⟨Nat.zero_le _, Nat.zero_le _⟩ ?_
  refine v_istore_n dX3_wayToLevel_7 rfl (by decide) rfl ?_
  refine v_iconst dX3_wayToLevel_8 (by decide : _ = (0 : Int32)) ?_
  refine v_istore_n dX3_wayToLevel_9 rfl (by decide) rfl ?_
  exact v_sub [2, 3, 1, 0] rfl (tb_X3_wayToLevel_10 hj N _ _ _ hh)
def f_X3_fillParts_b67 (rec32 : (Int32 → Int32 → St → Option (St))) (rec40 : (Int32 → Int32 → Int32 → St → Option (St))) (N : Nat) (j : Nat) : Nat → Int32 → Int32 → Int32 → Int32 → Int32 → Int32 → St → Option (St)
  | 0, _, _, _, _, _, _, _ => none
  | n + 1, x2, x3, x4, x5, x6, x7, S =>
  if (12 : Int32) < ((x7 + x3) - (1 : Int32)) then
  (chk (inb ((x3 * (13 : Int32)) + x4) 91) (
  lt (sI S 301 0 (((x3 * (13 : Int32)) + x4).toNatClampNeg) x5) fun S6 =>
  lt (x4 + (1 : Int32)) fun v7 =>
  rec40 x2 x3 v7 S6))
  else
  (chk (inb (x7 - (1 : Int32)) 12) (
  lt (x6 + (gI S 400 j (x7 - (1 : Int32)).toNatClampNeg)) fun v9 =>
  chk (inb (((x3 - (1 : Int32)) * (13 : Int32)) + x7) 91) (
  lt (if v9 < (gI S 301 0 (((x3 - (1 : Int32)) * (13 : Int32)) + x7).toNatClampNeg) then (gI S 301 0 (((x3 - (1 : Int32)) * (13 : Int32)) + x7).toNatClampNeg) else v9) fun v11 =>
  lt (if v11 < x5 then v11 else x5) fun v12 =>
  lt (x7 + (1 : Int32)) fun v13 =>
  f_X3_fillParts_b67 rec32 rec40 N j n x2 x3 x4 v12 v9 v13 S)))
set_option maxRecDepth 100000 in
set_option maxHeartbeats 4000000 in
theorem tb_X3_fillParts_67 {l : Launch} {G : v_G} {N : Nat}  {j : Nat} (hj : j < 66)  {r : St} {rec32 : (Int32 → Int32 → St → Option (St))} {rec40 : (Int32 → Int32 → Int32 → St → Option (St))} (hrec32 : ∀ (x2 : Int32) (x3 : Int32) (S : St),  rec32 x2 x3 S = some r → V l G yX3_fillParts cX3_fillParts 8 (none) (v_rm 2 0 0) (QV (lay G r)) 0 0 32 [(0, .ref (v_B G + 280)), (1, .ref (v_B G + (so j + 1))), (2, .int x2), (3, .int x3)] [] (lay G S)) (hrec40 : ∀ (x2 : Int32) (x3 : Int32) (x4 : Int32) (S : St),  rec40 x2 x3 x4 S = some r → V l G yX3_fillParts cX3_fillParts 8 (none) (v_rm 2 0 0) (QV (lay G r)) 0 0 40 [(0, .ref (v_B G + 280)), (1, .ref (v_B G + (so j + 1))), (2, .int x2), (3, .int x3), (4, .int x4)] [] (lay G S)) : ∀ (n : Nat) (x2 : Int32) (x3 : Int32) (x4 : Int32) (x5 : Int32) (x6 : Int32) (x7 : Int32) (S : St),  f_X3_fillParts_b67 rec32 rec40 N j n x2 x3 x4 x5 x6 x7 S = some r → V l G yX3_fillParts cX3_fillParts 8 (none) (v_rm 2 0 0) (QV (lay G r)) 0 0 67 [(0, .ref (v_B G + 280)), (1, .ref (v_B G + (so j + 1))), (2, .int x2), (3, .int x3), (4, .int x4), (5, .int x5), (6, .int x6), (7, .int x7)] [] (lay G S) := by
  intro n
  induction n with
  | zero =>
    intro x2 x3 x4 x5 x6 x7 S  hh
    rw [f_X3_fillParts_b67] at hh
    cases hh
  | succ n ih =>
    intro x2 x3 x4 x5 x6 x7 S  hh
    rw [f_X3_fillParts_b67] at hh
    refine v_iload 7 dX3_fillParts_67 rfl ?_
    refine v_iload_n 3 dX3_fillParts_69 rfl rfl ?_
    refine v_iadd dX3_fillParts_70 ?_
    refine v_iconst dX3_fillParts_71 (by decide : _ = (1 : Int32)) ?_
    refine v_isub dX3_fillParts_72 ?_
    refine v_bipush dX3_fillParts_73 (by decide : _ = (12 : Int32)) ?_
    refine v_icmp_gt (tgt := 121) dX3_fillParts_75 (by decide) (fun c => ?_) (fun c => ?_)
    · replace hh := (if_pos c).symm.trans hh
      refine v_aload_n 0 dX3_fillParts_121 rfl rfl ?_
      refine r_Shape_table dX3_fillParts_122 fl_X3_15 ?_
      refine v_iload_n 3 dX3_fillParts_125 rfl rfl ?_
      refine v_bipush dX3_fillParts_126 (by decide : _ = (13 : Int32)) ?_
      refine v_imul dX3_fillParts_128 ?_
      refine v_iload 4 dX3_fillParts_129 rfl ?_
      refine v_iadd dX3_fillParts_131 ?_
      refine v_iload 5 dX3_fillParts_132 rfl ?_
      obtain ⟨g5, hh⟩ := chk_some hh
      replace g5 := inb_in g5
      refine st_table dX3_fillParts_134 g5 ?_
      replace hh := lt_of hh
      refine v_iinc (v := _ + (1 : Int32)) 4 dX3_fillParts_135 rfl rfl (by decide) rfl ?_
      replace hh := lt_of hh
      refine v_goto (tgt := 40) dX3_fillParts_138 (by decide) ?_
      exact v_sub [1, 2, 3, 4, 0] rfl (hrec40 _ _ _ _ hh)
    · replace hh := (if_neg c).symm.trans hh
      refine v_iload 6 dX3_fillParts_78 rfl ?_
      refine v_aload_n 1 dX3_fillParts_80 rfl rfl ?_
      refine v_iload 7 dX3_fillParts_81 rfl ?_
      refine v_iconst dX3_fillParts_83 (by decide : _ = (1 : Int32)) ?_
      refine v_isub dX3_fillParts_84 ?_
      obtain ⟨g8, hh⟩ := chk_some hh
      replace g8 := inb_in g8
      refine ld_cells hj dX3_fillParts_85 g8 ?_
      refine v_iadd dX3_fillParts_86 ?_
      refine v_istore dX3_fillParts_87 (by decide) rfl ?_
      replace hh := lt_of hh
      refine v_iload 6 dX3_fillParts_89 rfl ?_
      refine v_iload 0 dX3_fillParts_91 rfl ?_
      refine v_aload_n 1 dX3_fillParts_93 rfl rfl ?_
      refine r_Shape_table dX3_fillParts_94 fl_X3_15 ?_
      refine v_iload_n 4 dX3_fillParts_97 rfl rfl ?_
      refine v_iconst dX3_fillParts_98 (by decide : _ = (1 : Int32)) ?_
      refine v_isub dX3_fillParts_99 ?_
      refine v_bipush dX3_fillParts_100 (by decide : _ = (13 : Int32)) ?_
      refine v_imul dX3_fillParts_102 ?_
      refine v_iload 7 dX3_fillParts_103 rfl ?_
      refine v_iadd dX3_fillParts_105 ?_
      obtain ⟨g10, hh⟩ := chk_some hh
      replace g10 := inb_in g10
      refine ld_table dX3_fillParts_106 g10 ?_
      refine v_mmax dX3_fillParts_107 ml_X3_18 y_J9_max_7cf53.2 y_J9_max_7cf53.1.2.1 y_J9_max_7cf53.1.1 (Nat.le_of_ble_eq_true rfl) (Nat.le_of_ble_eq_true rfl) (Nat.zero_le _) (Nat.zero_le _) ?_
      replace hh := lt_of hh
      refine v_mmin dX3_fillParts_110 ml_X3_24 y_J9_min_7cf53.2 y_J9_min_7cf53.1.2.1 y_J9_min_7cf53.1.1 (Nat.le_of_ble_eq_true rfl) (Nat.le_of_ble_eq_true rfl) (Nat.zero_le _) (Nat.zero_le _) ?_
      replace hh := lt_of hh
      refine v_istore dX3_fillParts_113 (by decide) rfl ?_
      refine v_iinc (v := _ + (1 : Int32)) 7 dX3_fillParts_115 rfl rfl (by decide) rfl ?_
      replace hh := lt_of hh
      refine v_goto (tgt := 67) dX3_fillParts_118 (by decide) ?_
      exact v_sub [3, 4, 5, 6, 7, 1, 2, 0] rfl (ih _ _ _ _ _ _ _ hh)
def f_X3_fillParts_b40 (rec32 : (Int32 → Int32 → St → Option (St))) (N : Nat) (j : Nat) : Nat → Int32 → Int32 → Int32 → St → Option (St)
  | 0, _, _, _, _ => none
  | n + 1, x2, x3, x4, S =>
  if (12 : Int32) < (x4 + x3) then
  (lt (x3 + (1 : Int32)) fun v1 =>
  rec32 x2 v1 S)
  else
  (lt (gI S 301 0 13) fun v3 =>
  lt (x4 + (1 : Int32)) fun v4 =>
  f_X3_fillParts_b67 rec32 (f_X3_fillParts_b40 rec32 N j n) N j N x2 x3 x4 v3 (0 : Int32) v4 S)
set_option maxRecDepth 100000 in
set_option maxHeartbeats 4000000 in
theorem tb_X3_fillParts_40 {l : Launch} {G : v_G} {N : Nat}  {j : Nat} (hj : j < 66)  {r : St} {rec32 : (Int32 → Int32 → St → Option (St))} (hrec32 : ∀ (x2 : Int32) (x3 : Int32) (S : St),  rec32 x2 x3 S = some r → V l G yX3_fillParts cX3_fillParts 8 (none) (v_rm 2 0 0) (QV (lay G r)) 0 0 32 [(0, .ref (v_B G + 280)), (1, .ref (v_B G + (so j + 1))), (2, .int x2), (3, .int x3)] [] (lay G S)) : ∀ (n : Nat) (x2 : Int32) (x3 : Int32) (x4 : Int32) (S : St),  f_X3_fillParts_b40 rec32 N j n x2 x3 x4 S = some r → V l G yX3_fillParts cX3_fillParts 8 (none) (v_rm 2 0 0) (QV (lay G r)) 0 0 40 [(0, .ref (v_B G + 280)), (1, .ref (v_B G + (so j + 1))), (2, .int x2), (3, .int x3), (4, .int x4)] [] (lay G S) := by
  intro n
  induction n with
  | zero =>
    intro x2 x3 x4 S  hh
    rw [f_X3_fillParts_b40] at hh
    cases hh
  | succ n ih =>
    intro x2 x3 x4 S  hh
    rw [f_X3_fillParts_b40] at hh
    refine v_iload 4 dX3_fillParts_40 rfl ?_
    refine v_iload_n 3 dX3_fillParts_42 rfl rfl ?_
    refine v_iadd dX3_fillParts_43 ?_
    refine v_bipush dX3_fillParts_44 (by decide : _ = (12 : Int32)) ?_
    refine v_icmp_gt (tgt := 141) dX3_fillParts_46 (by decide) (fun c => ?_) (fun c => ?_)
    · replace hh := (if_pos c).symm.trans hh
      refine v_iinc (v := _ + (1 : Int32)) 3 dX3_fillParts_141 rfl rfl (by decide) rfl ?_
      replace hh := lt_of hh
      refine v_goto (tgt := 32) dX3_fillParts_144 (by decide) ?_
      exact v_sub [1, 2, 3, 0] rfl (hrec32 _ _ _ hh)
    · replace hh := (if_neg c).symm.trans hh
      refine v_aload_n 0 dX3_fillParts_49 rfl rfl ?_
      refine r_Shape_table dX3_fillParts_50 fl_X3_15 ?_
      refine v_bipush dX3_fillParts_53 (by decide : _ = (13 : Int32)) ?_
      refine ld_table dX3_fillParts_55 (inb_in (by decide)) ?_
      refine v_istore dX3_fillParts_56 (by decide) rfl ?_
      replace hh := lt_of hh
      refine v_iconst dX3_fillParts_58 (by decide : _ = (0 : Int32)) ?_
      refine v_istore dX3_fillParts_59 (by decide) rfl ?_
      refine v_iload 6 dX3_fillParts_61 rfl ?_
      refine v_iconst dX3_fillParts_63 (by decide : _ = (1 : Int32)) ?_
      refine v_iadd dX3_fillParts_64 ?_
      refine v_istore dX3_fillParts_65 (by decide) rfl ?_
      replace hh := lt_of hh
      exact v_sub [3, 4, 5, 6, 7, 2, 1, 0] rfl (tb_X3_fillParts_67 hj hrec32 (fun _ _ _ _ hh => ih _ _ _ _ hh) N _ _ _ _ _ _ _ hh)
def f_X3_fillParts_b32 (N : Nat) (j : Nat) : Nat → Int32 → Int32 → St → Option (St)
  | 0, _, _, _ => none
  | n + 1, x2, x3, S =>
  if x2 < x3 then
  (some S)
  else
  (f_X3_fillParts_b40 (f_X3_fillParts_b32 N j n) N j N x2 x3 (0 : Int32) S)
set_option maxRecDepth 100000 in
set_option maxHeartbeats 4000000 in
theorem tb_X3_fillParts_32 {l : Launch} {G : v_G} {N : Nat}  {j : Nat} (hj : j < 66)  {r : St}   : ∀ (n : Nat) (x2 : Int32) (x3 : Int32) (S : St),  f_X3_fillParts_b32 N j n x2 x3 S = some r → V l G yX3_fillParts cX3_fillParts 8 (none) (v_rm 2 0 0) (QV (lay G r)) 0 0 32 [(0, .ref (v_B G + 280)), (1, .ref (v_B G + (so j + 1))), (2, .int x2), (3, .int x3)] [] (lay G S) := by
  intro n
  induction n with
  | zero =>
    intro x2 x3 S  hh
    rw [f_X3_fillParts_b32] at hh
    cases hh
  | succ n ih =>
    intro x2 x3 S  hh
    rw [f_X3_fillParts_b32] at hh
    refine v_iload_n 3 dX3_fillParts_32 rfl rfl ?_
    refine v_iload_n 2 dX3_fillParts_33 rfl rfl ?_
    refine v_icmp_gt (tgt := 147) dX3_fillParts_34 (by decide) (fun c => ?_) (fun c => ?_)
    · replace hh := (if_pos c).symm.trans hh
      obtain rfl := Option.some.inj hh
      exact v_vret dX3_fillParts_147 rfl (Nat.zero_le _) (Nat.zero_le _) ⟨rfl, rfl⟩
    · replace hh := (if_neg c).symm.trans hh
      refine v_iconst dX3_fillParts_37 (by decide : _ = (0 : Int32)) ?_
      refine v_istore dX3_fillParts_38 (by decide) rfl ?_
      exact v_sub [1, 2, 3, 4, 0] rfl (tb_X3_fillParts_40 hj (fun _ _ _ hh => ih _ _ _ hh) N _ _ _ _ hh)
def f_X3_fillParts_b2 (N : Nat) (j : Nat) : Nat → Int32 → Int32 → St → Option (St)
  | 0, _, _, _ => none
  | n + 1, x2, x3, S =>
  if (12 : Int32) ≤ x3 then
  (f_X3_fillParts_b32 N j N x2 (2 : Int32) S)
  else
  (bnd (f_X3_sum N j S x3 (12 : Int32)) fun q14 =>
 chk (inb ((13 : Int32) + x3) 91) (
  lt (sI S 301 0 (((13 : Int32) + x3).toNatClampNeg) q14) fun S16 =>
  lt (x3 + (1 : Int32)) fun v17 =>
  f_X3_fillParts_b2 N j n x2 v17 S16))
set_option maxRecDepth 100000 in
set_option maxHeartbeats 4000000 in
theorem tb_X3_fillParts_2 {l : Launch} {G : v_G} {N : Nat}  {j : Nat} (hj : j < 66)  {r : St}   : ∀ (n : Nat) (x2 : Int32) (x3 : Int32) (S : St),  f_X3_fillParts_b2 N j n x2 x3 S = some r → V l G yX3_fillParts cX3_fillParts 8 (none) (v_rm 2 0 0) (QV (lay G r)) 0 0 2 [(0, .ref (v_B G + 280)), (1, .ref (v_B G + (so j + 1))), (2, .int x2), (3, .int x3)] [] (lay G S) := by
  intro n
  induction n with
  | zero =>
    intro x2 x3 S  hh
    rw [f_X3_fillParts_b2] at hh
    cases hh
  | succ n ih =>
    intro x2 x3 S  hh
    rw [f_X3_fillParts_b2] at hh
    refine v_iload_n 3 dX3_fillParts_2 rfl rfl ?_
    refine v_bipush dX3_fillParts_3 (by decide : _ = (12 : Int32)) ?_
    refine v_icmp_ge (tgt := 30) dX3_fillParts_5 (by decide) (fun c => ?_) (fun c => ?_)
    · replace hh := (if_pos c).symm.trans hh
      refine v_iconst dX3_fillParts_30 (by decide : _ = (2 : Int32)) ?_
      refine v_istore_n dX3_fillParts_31 rfl (by decide) rfl ?_
      exact v_sub [1, 2, 3, 0] rfl (tb_X3_fillParts_32 hj N _ _ _ hh)
    · replace hh := (if_neg c).symm.trans hh
      refine v_aload_n 0 dX3_fillParts_8 rfl rfl ?_
      refine r_Shape_table dX3_fillParts_9 fl_X3_15 ?_
      refine v_bipush dX3_fillParts_12 (by decide : _ = (13 : Int32)) ?_
      refine v_iload_n 3 dX3_fillParts_14 rfl rfl ?_
      refine v_iadd dX3_fillParts_15 ?_
      refine v_aload_n 1 dX3_fillParts_16 rfl rfl ?_
      refine v_iload_n 3 dX3_fillParts_17 rfl rfl ?_
      refine v_bipush dX3_fillParts_18 (by decide : _ = (12 : Int32)) ?_
      obtain ⟨q14, eq14, hh⟩ := bnd_some hh
      refine v_callSi (t_X3_sum hj eq14) dX3_fillParts_20 y_X3_sum ml_X3_31 rfl rfl (Nat.le_of_ble_eq_true rfl) ⟨(Nat.le_of_ble_eq_true rfl), (Nat.le_of_ble_eq_true rfl)⟩ ⟨Nat.zero_le _, Nat.zero_le _⟩ ?_
      obtain ⟨g15, hh⟩ := chk_some hh
      replace g15 := inb_in g15
      refine st_table dX3_fillParts_23 g15 ?_
      replace hh := lt_of hh
      refine v_iinc (v := _ + (1 : Int32)) 3 dX3_fillParts_24 rfl rfl (by decide) rfl ?_
      replace hh := lt_of hh
      refine v_goto (tgt := 2) dX3_fillParts_27 (by decide) ?_
      exact v_sub [1, 2, 3, 0] rfl (ih _ _ _ hh)
def f_X3_fillParts (N : Nat) (j : Nat) (S : St) (x2 : Int32) : Option (St) :=
  f_X3_fillParts_b2 N j N x2 (0 : Int32) S
set_option maxRecDepth 100000 in
set_option maxHeartbeats 4000000 in
theorem t_X3_fillParts {l : Launch} {G : v_G} {N : Nat} {S : St}  {j : Nat} (hj : j < 66) {x2 : Int32} {r : St} (hh : f_X3_fillParts N j S x2 = some r) : v_M l G yX3_fillParts cX3_fillParts 8 (none) 2 0 0 [.ref (v_B G + 280), .ref (v_B G + (so j + 1)), .int x2] (lay G S) (QV (lay G r)) := by
  refine v_entry (by decide) (Nat.le_of_ble_eq_true rfl) ?_
  unfold f_X3_fillParts at hh
  show V l G yX3_fillParts cX3_fillParts 8 (none) (v_rm 2 0 0) (QV (lay G r)) 0 0 0 [(0, .ref (v_B G + 280)), (1, .ref (v_B G + (so j + 1))), (2, .int x2)] [] (lay G S)
  refine v_iconst dX3_fillParts_0 (by decide : _ = (0 : Int32)) ?_
  refine v_istore_n dX3_fillParts_1 rfl (by decide) rfl ?_
  exact v_sub [1, 2, 3, 0] rfl (tb_X3_fillParts_2 hj N _ _ _ hh)
def f_X3_nextPart_b8 (N : Nat) (j : Nat) : Nat → Int32 → Int32 → Int32 → Int32 → Int32 → St → Option (Int32)
  | 0, _, _, _, _, _, _ => none
  | n + 1, x2, x3, x4, x5, x6, S =>
  if (12 : Int32) < (x6 + x3) then
  (some x2)
  else
  (chk (inb (x6 - (1 : Int32)) 12) (
  lt (x5 + (gI S 400 j (x6 - (1 : Int32)).toNatClampNeg)) fun v3 =>
  if x4 < v3 then
  (lt (x6 + (1 : Int32)) fun v4 =>
  f_X3_nextPart_b8 N j n x2 x3 x4 v3 v4 S)
  else
  (chk (inb ((x3 * (13 : Int32)) + x6) 91) (
  if x4 < (gI S 301 0 ((x3 * (13 : Int32)) + x6).toNatClampNeg) then
  (lt (x6 + (1 : Int32)) fun v6 =>
  f_X3_nextPart_b8 N j n x2 x3 x4 v3 v6 S)
  else
  (some x6)))))
set_option maxRecDepth 100000 in
set_option maxHeartbeats 4000000 in
theorem tb_X3_nextPart_8 {l : Launch} {G : v_G} {N : Nat}  {j : Nat} (hj : j < 66)  {r : Int32} {S0 : St}   : ∀ (n : Nat) (x2 : Int32) (x3 : Int32) (x4 : Int32) (x5 : Int32) (x6 : Int32) (S : St),  S = S0 → f_X3_nextPart_b8 N j n x2 x3 x4 x5 x6 S = some r → V l G yX3_nextPart cX3_nextPart 7 (some .int) (v_rm 0 0 0) (QI r (lay G S0)) 0 0 8 [(0, .ref (v_B G + 280)), (1, .ref (v_B G + (so j + 1))), (2, .int x2), (3, .int x3), (4, .int x4), (5, .int x5), (6, .int x6)] [] (lay G S) := by
  intro n
  induction n with
  | zero =>
    intro x2 x3 x4 x5 x6 S  hS0 hh
    rw [f_X3_nextPart_b8] at hh
    cases hh
  | succ n ih =>
    intro x2 x3 x4 x5 x6 S  hS0 hh
    rw [f_X3_nextPart_b8] at hh
    refine v_iload 6 dX3_nextPart_8 rfl ?_
    refine v_iload_n 3 dX3_nextPart_10 rfl rfl ?_
    refine v_iadd dX3_nextPart_11 ?_
    refine v_bipush dX3_nextPart_12 (by decide : _ = (12 : Int32)) ?_
    refine v_icmp_gt (tgt := 61) dX3_nextPart_14 (by decide) (fun c => ?_) (fun c => ?_)
    · replace hh := (if_pos c).symm.trans hh
      refine v_iload_n 2 dX3_nextPart_61 rfl rfl ?_
      obtain rfl := Option.some.inj hh
      exact v_iret dX3_nextPart_62 rfl (Nat.zero_le _) (Nat.zero_le _) ⟨rfl, by rw [hS0]⟩
    · replace hh := (if_neg c).symm.trans hh
      refine v_iload 5 dX3_nextPart_17 rfl ?_
      refine v_aload_n 1 dX3_nextPart_19 rfl rfl ?_
      refine v_iload 6 dX3_nextPart_20 rfl ?_
      refine v_iconst dX3_nextPart_22 (by decide : _ = (1 : Int32)) ?_
      refine v_isub dX3_nextPart_23 ?_
      obtain ⟨g2, hh⟩ := chk_some hh
      replace g2 := inb_in g2
      refine ld_cells hj dX3_nextPart_24 g2 ?_
      refine v_iadd dX3_nextPart_25 ?_
      refine v_istore dX3_nextPart_26 (by decide) rfl ?_
      replace hh := lt_of hh
      refine v_iload 0 dX3_nextPart_28 rfl ?_
      refine v_iload 5 dX3_nextPart_30 rfl ?_
      refine v_icmp_gt (tgt := 55) dX3_nextPart_32 (by decide) (fun c => ?_) (fun c => ?_)
      · replace hh := (if_pos c).symm.trans hh
        refine v_iinc (v := _ + (1 : Int32)) 6 dX3_nextPart_55 rfl rfl (by decide) rfl ?_
        replace hh := lt_of hh
        refine v_goto (tgt := 8) dX3_nextPart_58 (by decide) ?_
        exact v_sub [2, 3, 4, 5, 6, 1, 0] rfl (ih _ _ _ _ _ _ hS0 hh)
      · replace hh := (if_neg c).symm.trans hh
        refine v_aload_n 1 dX3_nextPart_35 rfl rfl ?_
        refine r_Shape_table dX3_nextPart_36 fl_X3_15 ?_
        refine v_iload_n 4 dX3_nextPart_39 rfl rfl ?_
        refine v_bipush dX3_nextPart_40 (by decide : _ = (13 : Int32)) ?_
        refine v_imul dX3_nextPart_42 ?_
        refine v_iload 6 dX3_nextPart_43 rfl ?_
        refine v_iadd dX3_nextPart_45 ?_
        obtain ⟨g5, hh⟩ := chk_some hh
        replace g5 := inb_in g5
        refine ld_table dX3_nextPart_46 g5 ?_
        refine v_iload 5 dX3_nextPart_47 rfl ?_
        refine v_icmp_gt (tgt := 55) dX3_nextPart_49 (by decide) (fun c => ?_) (fun c => ?_)
        · replace hh := (if_pos c).symm.trans hh
          refine v_iinc (v := _ + (1 : Int32)) 6 dX3_nextPart_55 rfl rfl (by decide) rfl ?_
          replace hh := lt_of hh
          refine v_goto (tgt := 8) dX3_nextPart_58 (by decide) ?_
          exact v_sub [2, 3, 4, 5, 6, 1, 0] rfl (ih _ _ _ _ _ _ hS0 hh)
        · replace hh := (if_neg c).symm.trans hh
          refine v_iload 6 dX3_nextPart_52 rfl ?_
          obtain rfl := Option.some.inj hh
          exact v_iret dX3_nextPart_54 rfl (Nat.zero_le _) (Nat.zero_le _) ⟨rfl, by rw [hS0]⟩
def f_X3_nextPart (N : Nat) (j : Nat) (S : St) (x2 : Int32) (x3 : Int32) (x4 : Int32) : Option (Int32) :=
  lt (x2 + (1 : Int32)) fun v1 =>
  f_X3_nextPart_b8 N j N x2 x3 x4 (0 : Int32) v1 S
set_option maxRecDepth 100000 in
set_option maxHeartbeats 4000000 in
theorem t_X3_nextPart {l : Launch} {G : v_G} {N : Nat} {S : St}  {j : Nat} (hj : j < 66) {x2 : Int32} {x3 : Int32} {x4 : Int32} {r : Int32} (hh : f_X3_nextPart N j S x2 x3 x4 = some r) : v_M l G yX3_nextPart cX3_nextPart 7 (some .int) 0 0 0 [.ref (v_B G + 280), .ref (v_B G + (so j + 1)), .int x2, .int x3, .int x4] (lay G S) (QI r (lay G S)) := by
  refine v_entry (by decide) (Nat.le_of_ble_eq_true rfl) ?_
  unfold f_X3_nextPart at hh
  show V l G yX3_nextPart cX3_nextPart 7 (some .int) (v_rm 0 0 0) (QI r (lay G S)) 0 0 0 [(0, .ref (v_B G + 280)), (1, .ref (v_B G + (so j + 1))), (2, .int x2), (3, .int x3), (4, .int x4)] [] (lay G S)
  refine v_iconst dX3_nextPart_0 (by decide : _ = (0 : Int32)) ?_
  refine v_istore dX3_nextPart_1 (by decide) rfl ?_
  refine v_iload_n 3 dX3_nextPart_3 rfl rfl ?_
  refine v_iconst dX3_nextPart_4 (by decide : _ = (1 : Int32)) ?_
  refine v_iadd dX3_nextPart_5 ?_
  refine v_istore dX3_nextPart_6 (by decide) rfl ?_
  replace hh := lt_of hh
  exact v_sub [2, 3, 4, 5, 6, 1, 0] rfl (tb_X3_nextPart_8 hj N _ _ _ _ _ _ rfl hh)
def f_X3_parts_b31 (N : Nat) (j : Nat) : Nat → Int32 → Int32 → Int32 → Int32 → Int32 → St → Option (Int32 × St)
  | 0, _, _, _, _, _, _ => none
  | n + 1, x2, x3, x4, x5, x6, S =>
  if x3 ≤ x6 then
  (some (x5, S))
  else
  (bnd (f_X3_nextPart N j S x5 ((x2 - x6) - (1 : Int32)) x4) fun q4 =>
 lt (x6 + (1 : Int32)) fun v5 =>
  f_X3_parts_b31 N j n x2 x3 x4 q4 v5 S)
set_option maxRecDepth 100000 in
set_option maxHeartbeats 4000000 in
theorem tb_X3_parts_31 {l : Launch} {G : v_G} {N : Nat}  {j : Nat} (hj : j < 66)  {r : Int32 × St}   : ∀ (n : Nat) (x2 : Int32) (x3 : Int32) (x4 : Int32) (x5 : Int32) (x6 : Int32) (S : St),  f_X3_parts_b31 N j n x2 x3 x4 x5 x6 S = some r → V l G yX3_parts cX3_parts 7 (some .int) (v_rm 3 0 0) (QI r.1 (lay G r.2)) 0 0 31 [(0, .ref (v_B G + 280)), (1, .ref (v_B G + (so j + 1))), (2, .int x2), (3, .int x3), (4, .int x4), (5, .int x5), (6, .int x6)] [] (lay G S) := by
  intro n
  induction n with
  | zero =>
    intro x2 x3 x4 x5 x6 S  hh
    rw [f_X3_parts_b31] at hh
    cases hh
  | succ n ih =>
    intro x2 x3 x4 x5 x6 S  hh
    rw [f_X3_parts_b31] at hh
    refine v_iload 6 dX3_parts_31 rfl ?_
    refine v_iload_n 3 dX3_parts_33 rfl rfl ?_
    refine v_icmp_ge (tgt := 60) dX3_parts_34 (by decide) (fun c => ?_) (fun c => ?_)
    · replace hh := (if_pos c).symm.trans hh
      refine v_iload 5 dX3_parts_60 rfl ?_
      obtain rfl := Option.some.inj hh
      exact v_iret dX3_parts_62 rfl (Nat.zero_le _) (Nat.zero_le _) ⟨rfl, rfl⟩
    · replace hh := (if_neg c).symm.trans hh
      refine v_aload_n 0 dX3_parts_37 rfl rfl ?_
      refine v_aload_n 1 dX3_parts_38 rfl rfl ?_
      refine v_iload 5 dX3_parts_39 rfl ?_
      refine v_iload_n 2 dX3_parts_41 rfl rfl ?_
      refine v_iload 6 dX3_parts_42 rfl ?_
      refine v_isub dX3_parts_44 ?_
      refine v_iconst dX3_parts_45 (by decide : _ = (1 : Int32)) ?_
      refine v_isub dX3_parts_46 ?_
      refine v_iload 4 dX3_parts_47 rfl ?_
      obtain ⟨q4, eq4, hh⟩ := bnd_some hh
      refine v_callVi (t_X3_nextPart hj eq4) dX3_parts_49 y_X3_nextPart ml_X3_50 (ci := 2) rfl rfl (e_Shape) rfl rfl (Nat.le_of_ble_eq_true rfl) ⟨(Nat.le_of_ble_eq_true rfl), (Nat.le_of_ble_eq_true rfl)⟩ ⟨Nat.zero_le _, Nat.zero_le _⟩ ?_
      refine v_istore dX3_parts_52 (by decide) rfl ?_
      refine v_iinc (v := _ + (1 : Int32)) 6 dX3_parts_54 rfl rfl (by decide) rfl ?_
      replace hh := lt_of hh
      refine v_goto (tgt := 31) dX3_parts_57 (by decide) ?_
      exact v_sub [2, 3, 4, 5, 6, 1, 0] rfl (ih _ _ _ _ _ _ hh)
def f_X3_parts (N : Nat) (j : Nat) (S : St) (x2 : Int32) (x3 : Int32) : Option (Int32 × St) :=
  bnd (f_X3_fillParts N j S x2) fun q1 =>
 chk (inb (x2 * (13 : Int32)) 91) (
  lt (gI q1 301 0 (x2 * (13 : Int32)).toNatClampNeg) fun v3 =>
  if x3 = (-1 : Int32) then
  (some (v3, q1))
  else
  (f_X3_parts_b31 N j N x2 x3 v3 (0 : Int32) (0 : Int32) q1))
set_option maxRecDepth 100000 in
set_option maxHeartbeats 4000000 in
theorem t_X3_parts {l : Launch} {G : v_G} {N : Nat} {S : St}  {j : Nat} (hj : j < 66) {x2 : Int32} {x3 : Int32} {r : Int32 × St} (hh : f_X3_parts N j S x2 x3 = some r) : v_M l G yX3_parts cX3_parts 7 (some .int) 3 0 0 [.ref (v_B G + 280), .ref (v_B G + (so j + 1)), .int x2, .int x3] (lay G S) (QI r.1 (lay G r.2)) := by
  refine v_entry (by decide) (Nat.le_of_ble_eq_true rfl) ?_
  unfold f_X3_parts at hh
  show V l G yX3_parts cX3_parts 7 (some .int) (v_rm 3 0 0) (QI r.1 (lay G r.2)) 0 0 0 [(0, .ref (v_B G + 280)), (1, .ref (v_B G + (so j + 1))), (2, .int x2), (3, .int x3)] [] (lay G S)
  refine v_aload_n 0 dX3_parts_0 rfl rfl ?_
  refine v_aload_n 1 dX3_parts_1 rfl rfl ?_
  refine v_iload_n 2 dX3_parts_2 rfl rfl ?_
  obtain ⟨q1, eq1, hh⟩ := bnd_some hh
  refine v_callVv (t_X3_fillParts hj eq1) dX3_parts_3 y_X3_fillParts ml_X3_46 (ci := 2) rfl rfl (e_Shape) rfl rfl (Nat.le_of_ble_eq_true rfl) ⟨(Nat.le_of_ble_eq_true rfl), (Nat.le_of_ble_eq_true rfl)⟩ ⟨Nat.zero_le _, Nat.zero_le _⟩ ?_
  refine v_aload_n 0 dX3_parts_6 rfl rfl ?_
  refine r_Shape_table dX3_parts_7 fl_X3_15 ?_
  refine v_iload_n 2 dX3_parts_10 rfl rfl ?_
  refine v_bipush dX3_parts_11 (by decide : _ = (13 : Int32)) ?_
  refine v_imul dX3_parts_13 ?_
  obtain ⟨g2, hh⟩ := chk_some hh
  replace g2 := inb_in g2
  refine ld_table dX3_parts_14 g2 ?_
  refine v_istore dX3_parts_15 (by decide) rfl ?_
  replace hh := lt_of hh
  refine v_iload_n 4 dX3_parts_17 rfl rfl ?_
  refine v_iconst dX3_parts_18 (by decide : _ = (-1 : Int32)) ?_
  refine v_icmp_ne (tgt := 25) dX3_parts_19 (by decide) (fun c => ?_) (fun c => ?_)
  · replace hh := (if_neg c).symm.trans hh
    refine v_iconst dX3_parts_25 (by decide : _ = (0 : Int32)) ?_
    refine v_istore dX3_parts_26 (by decide) rfl ?_
    refine v_iconst dX3_parts_28 (by decide : _ = (0 : Int32)) ?_
    refine v_istore dX3_parts_29 (by decide) rfl ?_
    exact v_sub [3, 4, 5, 6, 2, 1, 0] rfl (tb_X3_parts_31 hj N _ _ _ _ _ _ hh)
  · replace hh := (if_pos c).symm.trans hh
    refine v_iload 0 dX3_parts_22 rfl ?_
    obtain rfl := Option.some.inj hh
    exact v_iret dX3_parts_24 rfl (Nat.zero_le _) (Nat.zero_le _) ⟨rfl, rfl⟩
def f_X3_lead_b40 (rec29 : (Int32 → Int32 → Int32 → St → Option (Int32 × St))) (N : Nat) (j : Nat) : Nat → Int32 → Int32 → Int32 → Int32 → St → Option (Int32 × St)
  | 0, _, _, _, _, _ => none
  | n + 1, x2, x3, x4, x5, S =>
  if x3 < (x5 + x4) then
  (lt (x4 + (1 : Int32)) fun v2 =>
  rec29 x2 x3 v2 S)
  else
  (chk (inb x5 12) (
  chk (inb (x5 + (1 : Int32)) 13) (
  chk (inb (x5 + x4) 12) (
  chk (inb x5 13) (
  lt (if ((gI S 400 j x5.toNatClampNeg) - (gI S 300 0 (x5 + (1 : Int32)).toNatClampNeg)) < ((gI S 400 j (x5 + x4).toNatClampNeg) - (gI S 300 0 x5.toNatClampNeg)) then ((gI S 400 j (x5 + x4).toNatClampNeg) - (gI S 300 0 x5.toNatClampNeg)) else ((gI S 400 j x5.toNatClampNeg) - (gI S 300 0 (x5 + (1 : Int32)).toNatClampNeg))) fun v7 =>
  chk (inb x5 13) (
  lt (sI S 300 0 x5.toNatClampNeg v7) fun S9 =>
  lt (x5 + (1 : Int32)) fun v10 =>
  f_X3_lead_b40 rec29 N j n x2 x3 x4 v10 S9))))))
set_option maxRecDepth 100000 in
set_option maxHeartbeats 4000000 in
theorem tb_X3_lead_40 {l : Launch} {G : v_G} {N : Nat}  {j : Nat} (hj : j < 66)  {r : Int32 × St} {rec29 : (Int32 → Int32 → Int32 → St → Option (Int32 × St))} (hrec29 : ∀ (x2 : Int32) (x3 : Int32) (x4 : Int32) (S : St),  rec29 x2 x3 x4 S = some r → V l G yX3_lead cX3_lead 6 (some .int) (v_rm 1 0 0) (QI r.1 (lay G r.2)) 0 0 29 [(0, .ref (v_B G + 280)), (1, .ref (v_B G + (so j + 1))), (2, .int x2), (3, .int x3), (4, .int x4)] [] (lay G S)) : ∀ (n : Nat) (x2 : Int32) (x3 : Int32) (x4 : Int32) (x5 : Int32) (S : St),  f_X3_lead_b40 rec29 N j n x2 x3 x4 x5 S = some r → V l G yX3_lead cX3_lead 6 (some .int) (v_rm 1 0 0) (QI r.1 (lay G r.2)) 0 0 40 [(0, .ref (v_B G + 280)), (1, .ref (v_B G + (so j + 1))), (2, .int x2), (3, .int x3), (4, .int x4), (5, .int x5)] [] (lay G S) := by
  intro n
  induction n with
  | zero =>
    intro x2 x3 x4 x5 S  hh
    rw [f_X3_lead_b40] at hh
    cases hh
  | succ n ih =>
    intro x2 x3 x4 x5 S  hh
    rw [f_X3_lead_b40] at hh
    refine v_iload 5 dX3_lead_40 rfl ?_
    refine v_iload 4 dX3_lead_42 rfl ?_
    refine v_iadd dX3_lead_44 ?_
    refine v_iload_n 3 dX3_lead_45 rfl rfl ?_
    refine v_icmp_gt (tgt := 94) dX3_lead_46 (by decide) (fun c => ?_) (fun c => ?_)
    · replace hh := (if_pos c).symm.trans hh
      refine v_iinc (v := _ + (1 : Int32)) 4 dX3_lead_94 rfl rfl (by decide) rfl ?_
      replace hh := lt_of hh
      refine v_goto (tgt := 29) dX3_lead_97 (by decide) ?_
      exact v_sub [1, 2, 3, 4, 0] rfl (hrec29 _ _ _ _ hh)
    · replace hh := (if_neg c).symm.trans hh
      refine v_aload_n 0 dX3_lead_49 rfl rfl ?_
      refine r_Shape_row dX3_lead_50 fl_X3_11 ?_
      refine v_iload 5 dX3_lead_53 rfl ?_
      refine v_aload_n 1 dX3_lead_55 rfl rfl ?_
      refine v_iload 5 dX3_lead_56 rfl ?_
      obtain ⟨g3, hh⟩ := chk_some hh
      replace g3 := inb_in g3
      refine ld_cells hj dX3_lead_58 g3 ?_
      refine v_aload_n 0 dX3_lead_59 rfl rfl ?_
      refine r_Shape_row dX3_lead_60 fl_X3_11 ?_
      refine v_iload 5 dX3_lead_63 rfl ?_
      refine v_iconst dX3_lead_65 (by decide : _ = (1 : Int32)) ?_
      refine v_iadd dX3_lead_66 ?_
      obtain ⟨g4, hh⟩ := chk_some hh
      replace g4 := inb_in g4
      refine ld_row dX3_lead_67 g4 ?_
      refine v_isub dX3_lead_68 ?_
      refine v_aload_n 1 dX3_lead_69 rfl rfl ?_
      refine v_iload 5 dX3_lead_70 rfl ?_
      refine v_iload 4 dX3_lead_72 rfl ?_
      refine v_iadd dX3_lead_74 ?_
      obtain ⟨g5, hh⟩ := chk_some hh
      replace g5 := inb_in g5
      refine ld_cells hj dX3_lead_75 g5 ?_
      refine v_aload_n 0 dX3_lead_76 rfl rfl ?_
      refine r_Shape_row dX3_lead_77 fl_X3_11 ?_
      refine v_iload 5 dX3_lead_80 rfl ?_
      obtain ⟨g6, hh⟩ := chk_some hh
      replace g6 := inb_in g6
      refine ld_row dX3_lead_82 g6 ?_
      refine v_isub dX3_lead_83 ?_
      refine v_mmax dX3_lead_84 ml_X3_18 y_J9_max_7cf53.2 y_J9_max_7cf53.1.2.1 y_J9_max_7cf53.1.1 (Nat.le_of_ble_eq_true rfl) (Nat.le_of_ble_eq_true rfl) (Nat.zero_le _) (Nat.zero_le _) ?_
      replace hh := lt_of hh
      obtain ⟨g8, hh⟩ := chk_some hh
      replace g8 := inb_in g8
      refine st_row dX3_lead_87 g8 ?_
      replace hh := lt_of hh
      refine v_iinc (v := _ + (1 : Int32)) 5 dX3_lead_88 rfl rfl (by decide) rfl ?_
      replace hh := lt_of hh
      refine v_goto (tgt := 40) dX3_lead_91 (by decide) ?_
      exact v_sub [1, 2, 3, 4, 5, 0] rfl (ih _ _ _ _ _ hh)
def f_X3_lead_b29 (N : Nat) (j : Nat) : Nat → Int32 → Int32 → Int32 → St → Option (Int32 × St)
  | 0, _, _, _, _ => none
  | n + 1, x2, x3, x4, S =>
  if (x3 - x2) < x4 then
  (chk (inb x2 13) (
  some (gI S 300 0 x2.toNatClampNeg, S)))
  else
  (f_X3_lead_b40 (f_X3_lead_b29 N j n) N j N x2 x3 x4 x2 S)
set_option maxRecDepth 100000 in
set_option maxHeartbeats 4000000 in
theorem tb_X3_lead_29 {l : Launch} {G : v_G} {N : Nat}  {j : Nat} (hj : j < 66)  {r : Int32 × St}   : ∀ (n : Nat) (x2 : Int32) (x3 : Int32) (x4 : Int32) (S : St),  f_X3_lead_b29 N j n x2 x3 x4 S = some r → V l G yX3_lead cX3_lead 6 (some .int) (v_rm 1 0 0) (QI r.1 (lay G r.2)) 0 0 29 [(0, .ref (v_B G + 280)), (1, .ref (v_B G + (so j + 1))), (2, .int x2), (3, .int x3), (4, .int x4)] [] (lay G S) := by
  intro n
  induction n with
  | zero =>
    intro x2 x3 x4 S  hh
    rw [f_X3_lead_b29] at hh
    cases hh
  | succ n ih =>
    intro x2 x3 x4 S  hh
    rw [f_X3_lead_b29] at hh
    refine v_iload 4 dX3_lead_29 rfl ?_
    refine v_iload_n 3 dX3_lead_31 rfl rfl ?_
    refine v_iload_n 2 dX3_lead_32 rfl rfl ?_
    refine v_isub dX3_lead_33 ?_
    refine v_icmp_gt (tgt := 100) dX3_lead_34 (by decide) (fun c => ?_) (fun c => ?_)
    · replace hh := (if_pos c).symm.trans hh
      refine v_aload_n 0 dX3_lead_100 rfl rfl ?_
      refine r_Shape_row dX3_lead_101 fl_X3_11 ?_
      refine v_iload_n 2 dX3_lead_104 rfl rfl ?_
      obtain ⟨g1, hh⟩ := chk_some hh
      replace g1 := inb_in g1
      refine ld_row dX3_lead_105 g1 ?_
      obtain rfl := Option.some.inj hh
      exact v_iret dX3_lead_106 rfl (Nat.zero_le _) (Nat.zero_le _) ⟨rfl, rfl⟩
    · replace hh := (if_neg c).symm.trans hh
      refine v_iload_n 2 dX3_lead_37 rfl rfl ?_
      refine v_istore dX3_lead_38 (by decide) rfl ?_
      exact v_sub [1, 2, 3, 4, 5, 0] rfl (tb_X3_lead_40 hj (fun _ _ _ _ hh => ih _ _ _ _ hh) N _ _ _ _ _ hh)
def f_X3_lead_b3 (N : Nat) (j : Nat) : Nat → Int32 → Int32 → Int32 → St → Option (Int32 × St)
  | 0, _, _, _, _ => none
  | n + 1, x2, x3, x4, S =>
  if x3 < x4 then
  (f_X3_lead_b29 N j N x2 x3 (1 : Int32) S)
  else
  (chk (inb x4 12) (
  chk (inb x4 13) (
  lt (sI S 300 0 x4.toNatClampNeg (gI S 400 j x4.toNatClampNeg)) fun S13 =>
  lt (x4 + (1 : Int32)) fun v14 =>
  f_X3_lead_b3 N j n x2 x3 v14 S13)))
set_option maxRecDepth 100000 in
set_option maxHeartbeats 4000000 in
theorem tb_X3_lead_3 {l : Launch} {G : v_G} {N : Nat}  {j : Nat} (hj : j < 66)  {r : Int32 × St}   : ∀ (n : Nat) (x2 : Int32) (x3 : Int32) (x4 : Int32) (S : St),  f_X3_lead_b3 N j n x2 x3 x4 S = some r → V l G yX3_lead cX3_lead 6 (some .int) (v_rm 1 0 0) (QI r.1 (lay G r.2)) 0 0 3 [(0, .ref (v_B G + 280)), (1, .ref (v_B G + (so j + 1))), (2, .int x2), (3, .int x3), (4, .int x4)] [] (lay G S) := by
  intro n
  induction n with
  | zero =>
    intro x2 x3 x4 S  hh
    rw [f_X3_lead_b3] at hh
    cases hh
  | succ n ih =>
    intro x2 x3 x4 S  hh
    rw [f_X3_lead_b3] at hh
    refine v_iload 4 dX3_lead_3 rfl ?_
    refine v_iload_n 3 dX3_lead_5 rfl rfl ?_
    refine v_icmp_gt (tgt := 26) dX3_lead_6 (by decide) (fun c => ?_) (fun c => ?_)
    · replace hh := (if_pos c).symm.trans hh
      refine v_iconst dX3_lead_26 (by decide : _ = (1 : Int32)) ?_
      refine v_istore dX3_lead_27 (by decide) rfl ?_
      exact v_sub [1, 2, 3, 4, 0] rfl (tb_X3_lead_29 hj N _ _ _ _ hh)
    · replace hh := (if_neg c).symm.trans hh
      refine v_aload_n 0 dX3_lead_9 rfl rfl ?_
      refine r_Shape_row dX3_lead_10 fl_X3_11 ?_
      refine v_iload 4 dX3_lead_13 rfl ?_
      refine v_aload_n 1 dX3_lead_15 rfl rfl ?_
      refine v_iload 4 dX3_lead_16 rfl ?_
      obtain ⟨g11, hh⟩ := chk_some hh
      replace g11 := inb_in g11
      refine ld_cells hj dX3_lead_18 g11 ?_
      obtain ⟨g12, hh⟩ := chk_some hh
      replace g12 := inb_in g12
      refine st_row dX3_lead_19 g12 ?_
      replace hh := lt_of hh
      refine v_iinc (v := _ + (1 : Int32)) 4 dX3_lead_20 rfl rfl (by decide) rfl ?_
      replace hh := lt_of hh
      refine v_goto (tgt := 3) dX3_lead_23 (by decide) ?_
      exact v_sub [1, 2, 3, 4, 0] rfl (ih _ _ _ _ hh)
def f_X3_lead (N : Nat) (j : Nat) (S : St) (x2 : Int32) (x3 : Int32) : Option (Int32 × St) :=
  f_X3_lead_b3 N j N x2 x3 x2 S
set_option maxRecDepth 100000 in
set_option maxHeartbeats 4000000 in
theorem t_X3_lead {l : Launch} {G : v_G} {N : Nat} {S : St}  {j : Nat} (hj : j < 66) {x2 : Int32} {x3 : Int32} {r : Int32 × St} (hh : f_X3_lead N j S x2 x3 = some r) : v_M l G yX3_lead cX3_lead 6 (some .int) 1 0 0 [.ref (v_B G + 280), .ref (v_B G + (so j + 1)), .int x2, .int x3] (lay G S) (QI r.1 (lay G r.2)) := by
  refine v_entry (by decide) (Nat.le_of_ble_eq_true rfl) ?_
  unfold f_X3_lead at hh
  show V l G yX3_lead cX3_lead 6 (some .int) (v_rm 1 0 0) (QI r.1 (lay G r.2)) 0 0 0 [(0, .ref (v_B G + 280)), (1, .ref (v_B G + (so j + 1))), (2, .int x2), (3, .int x3)] [] (lay G S)
  refine v_iload_n 2 dX3_lead_0 rfl rfl ?_
  refine v_istore dX3_lead_1 (by decide) rfl ?_
  exact v_sub [1, 2, 3, 4, 0] rfl (tb_X3_lead_3 hj N _ _ _ _ hh)
def f_X3_firstTaken (N : Nat) (j : Nat) (S : St) (x2 : Int32) (x3 : Int32) : Option (Int32 × St) :=
  if x2 = x3 then
  (some (x2, S))
  else
  (chk (inb x2 12) (
  bnd (f_X3_lead N j S (x2 + (1 : Int32)) x3) fun q2 =>
 lt ((gI S 400 j x2.toNatClampNeg) - q2.1) fun v3 =>
  chk (inb x3 12) (
  bnd (f_X3_lead N j q2.2 x2 (x3 - (1 : Int32))) fun q5 =>
 lt ((gI q2.2 400 j x3.toNatClampNeg) - q5.1) fun v6 =>
  if v3 < v6 then
  (some (x3, q5.2))
  else
  (some (x2, q5.2)))))
set_option maxRecDepth 100000 in
set_option maxHeartbeats 4000000 in
theorem t_X3_firstTaken {l : Launch} {G : v_G} {N : Nat} {S : St}  {j : Nat} (hj : j < 66) {x2 : Int32} {x3 : Int32} {r : Int32 × St} (hh : f_X3_firstTaken N j S x2 x3 = some r) : v_M l G yX3_firstTaken cX3_firstTaken 6 (some .int) 2 0 0 [.ref (v_B G + 280), .ref (v_B G + (so j + 1)), .int x2, .int x3] (lay G S) (QI r.1 (lay G r.2)) := by
  refine v_entry (by decide) (Nat.le_of_ble_eq_true rfl) ?_
  unfold f_X3_firstTaken at hh
  show V l G yX3_firstTaken cX3_firstTaken 6 (some .int) (v_rm 2 0 0) (QI r.1 (lay G r.2)) 0 0 0 [(0, .ref (v_B G + 280)), (1, .ref (v_B G + (so j + 1))), (2, .int x2), (3, .int x3)] [] (lay G S)
  refine v_iload_n 2 dX3_firstTaken_0 rfl rfl ?_
  refine v_iload_n 3 dX3_firstTaken_1 rfl rfl ?_
  refine v_icmp_ne (tgt := 7) dX3_firstTaken_2 (by decide) (fun c => ?_) (fun c => ?_)
  · replace hh := (if_neg c).symm.trans hh
    refine v_aload_n 1 dX3_firstTaken_7 rfl rfl ?_
    refine v_iload_n 2 dX3_firstTaken_8 rfl rfl ?_
    obtain ⟨g1, hh⟩ := chk_some hh
    replace g1 := inb_in g1
    refine ld_cells hj dX3_firstTaken_9 g1 ?_
    refine v_aload_n 0 dX3_firstTaken_10 rfl rfl ?_
    refine v_aload_n 1 dX3_firstTaken_11 rfl rfl ?_
    refine v_iload_n 2 dX3_firstTaken_12 rfl rfl ?_
    refine v_iconst dX3_firstTaken_13 (by decide : _ = (1 : Int32)) ?_
    refine v_iadd dX3_firstTaken_14 ?_
    refine v_iload_n 3 dX3_firstTaken_15 rfl rfl ?_
    obtain ⟨q2, eq2, hh⟩ := bnd_some hh
    refine v_callVi (t_X3_lead hj eq2) dX3_firstTaken_16 y_X3_lead ml_X3_54 (ci := 2) rfl rfl (e_Shape) rfl rfl (Nat.le_of_ble_eq_true rfl) ⟨(Nat.le_of_ble_eq_true rfl), (Nat.le_of_ble_eq_true rfl)⟩ ⟨Nat.zero_le _, Nat.zero_le _⟩ ?_
    refine v_isub dX3_firstTaken_19 ?_
    refine v_istore dX3_firstTaken_20 (by decide) rfl ?_
    replace hh := lt_of hh
    refine v_aload_n 2 dX3_firstTaken_22 rfl rfl ?_
    refine v_iload_n 4 dX3_firstTaken_23 rfl rfl ?_
    obtain ⟨g4, hh⟩ := chk_some hh
    replace g4 := inb_in g4
    refine ld_cells hj dX3_firstTaken_24 g4 ?_
    refine v_aload_n 1 dX3_firstTaken_25 rfl rfl ?_
    refine v_aload_n 2 dX3_firstTaken_26 rfl rfl ?_
    refine v_iload_n 3 dX3_firstTaken_27 rfl rfl ?_
    refine v_iload_n 4 dX3_firstTaken_28 rfl rfl ?_
    refine v_iconst dX3_firstTaken_29 (by decide : _ = (1 : Int32)) ?_
    refine v_isub dX3_firstTaken_30 ?_
    obtain ⟨q5, eq5, hh⟩ := bnd_some hh
    refine v_callVi (t_X3_lead hj eq5) dX3_firstTaken_31 y_X3_lead ml_X3_54 (ci := 2) rfl rfl (e_Shape) rfl rfl (Nat.le_of_ble_eq_true rfl) ⟨(Nat.le_of_ble_eq_true rfl), (Nat.le_of_ble_eq_true rfl)⟩ ⟨Nat.zero_le _, Nat.zero_le _⟩ ?_
    refine v_isub dX3_firstTaken_34 ?_
    refine v_istore dX3_firstTaken_35 (by decide) rfl ?_
    replace hh := lt_of hh
    refine v_iload 1 dX3_firstTaken_37 rfl ?_
    refine v_iload 0 dX3_firstTaken_39 rfl ?_
    refine v_icmp_lt (tgt := 48) dX3_firstTaken_41 (by decide) (fun c => ?_) (fun c => ?_)
    · replace hh := (if_pos c).symm.trans hh
      refine v_iload_n 5 dX3_firstTaken_48 rfl rfl ?_
      obtain rfl := Option.some.inj hh
      exact v_iret dX3_firstTaken_49 rfl (Nat.zero_le _) (Nat.zero_le _) ⟨rfl, rfl⟩
    · replace hh := (if_neg c).symm.trans hh
      refine v_iload_n 4 dX3_firstTaken_44 rfl rfl ?_
      refine v_goto (tgt := 49) dX3_firstTaken_45 (by decide) ?_
      obtain rfl := Option.some.inj hh
      exact v_iret dX3_firstTaken_49 rfl (Nat.zero_le _) (Nat.zero_le _) ⟨rfl, rfl⟩
  · replace hh := (if_pos c).symm.trans hh
    refine v_iload_n 2 dX3_firstTaken_5 rfl rfl ?_
    obtain rfl := Option.some.inj hh
    exact v_iret dX3_firstTaken_6 rfl (Nat.zero_le _) (Nat.zero_le _) ⟨rfl, rfl⟩
def f_X3_covers_b40 (N : Nat) : Nat → Int32 → Int32 → Int32 → Int32 → Int32 → Int32 → St → Option (Int32 × St)
  | 0, _, _, _, _, _, _, _ => none
  | n + 1, x1, x2, x3, x5, x6, x7, S =>
  if x7 < (0 : Int32) then
  (some (gI S 300 0 0, S))
  else
  (if ((x1 >>> (x7 &&& 31)) &&& (1 : Int32)) = (0 : Int32) then
  (chk (inb (x7 + (1 : Int32)) 13) (
  chk (inb x7 13) (
  lt (sI S 300 0 x7.toNatClampNeg (gI S 300 0 (x7 + (1 : Int32)).toNatClampNeg)) fun S16 =>
  lt (x7 + (-1 : Int32)) fun v17 =>
  f_X3_covers_b40 N n x1 x2 x3 x5 x6 v17 S16)))
  else
  (lt (if (x7 + x2) < (12 : Int32) then (x7 + x2) else (12 : Int32)) fun v4 =>
  chk (inb v4 13) (
  lt (x5 + (gI S 300 0 v4.toNatClampNeg)) fun v6 =>
  lt (if (x7 + x3) < (12 : Int32) then (x7 + x3) else (12 : Int32)) fun v7 =>
  chk (inb v7 13) (
  lt (x6 + (gI S 300 0 v7.toNatClampNeg)) fun v9 =>
  lt (if v9 < v6 then v9 else v6) fun v10 =>
  chk (inb x7 13) (
  lt (sI S 300 0 x7.toNatClampNeg v10) fun S12 =>
  lt (x7 + (-1 : Int32)) fun v13 =>
  f_X3_covers_b40 N n x1 x2 x3 x5 x6 v13 S12)))))
set_option maxRecDepth 100000 in
set_option maxHeartbeats 4000000 in
theorem tb_X3_covers_40 {l : Launch} {G : v_G} {N : Nat}    {r : Int32 × St}   : ∀ (n : Nat) (x1 : Int32) (x2 : Int32) (x3 : Int32) (x5 : Int32) (x6 : Int32) (x7 : Int32) (S : St),  f_X3_covers_b40 N n x1 x2 x3 x5 x6 x7 S = some r → V l G yX3_covers cX3_covers 10 (some .int) (v_rm 1 0 0) (QI r.1 (lay G r.2)) 0 0 40 [(0, .ref (v_B G + 280)), (1, .int x1), (2, .int x2), (3, .int x3), (5, .int x5), (6, .int x6), (7, .int x7)] [] (lay G S) := by
  intro n
  induction n with
  | zero =>
    intro x1 x2 x3 x5 x6 x7 S  hh
    rw [f_X3_covers_b40] at hh
    cases hh
  | succ n ih =>
    intro x1 x2 x3 x5 x6 x7 S  hh
    rw [f_X3_covers_b40] at hh
    refine v_iload 6 dX3_covers_40 rfl ?_
    refine v_if_lt (tgt := 131) dX3_covers_42 (by decide) (fun c => ?_) (fun c => ?_)
    · replace hh := (if_pos c).symm.trans hh
      refine v_aload_n 0 dX3_covers_131 rfl rfl ?_
      refine r_Shape_row dX3_covers_132 fl_X3_11 ?_
      refine v_iconst dX3_covers_135 (by decide : _ = (0 : Int32)) ?_
      refine ld_row dX3_covers_136 (inb_in (by decide)) ?_
      obtain rfl := Option.some.inj hh
      exact v_iret dX3_covers_137 rfl (Nat.zero_le _) (Nat.zero_le _) ⟨rfl, rfl⟩
    · replace hh := (if_neg c).symm.trans hh
      refine v_iload_n 1 dX3_covers_45 rfl rfl ?_
      refine v_iload 6 dX3_covers_46 rfl ?_
      refine v_ishr dX3_covers_48 ?_
      refine v_iconst dX3_covers_49 (by decide : _ = (1 : Int32)) ?_
      refine v_iand dX3_covers_50 ?_
      refine v_if_ne (tgt := 73) dX3_covers_51 (by decide) (fun c => ?_) (fun c => ?_)
      · replace hh := (if_neg c).symm.trans hh
        refine v_iload 4 dX3_covers_73 rfl ?_
        refine v_aload_n 0 dX3_covers_75 rfl rfl ?_
        refine r_Shape_row dX3_covers_76 fl_X3_11 ?_
        refine v_bipush dX3_covers_79 (by decide : _ = (12 : Int32)) ?_
        refine v_iload 6 dX3_covers_81 rfl ?_
        refine v_iload_n 2 dX3_covers_83 rfl rfl ?_
        refine v_iadd dX3_covers_84 ?_
        refine v_mmin dX3_covers_85 ml_X3_24 y_J9_min_7cf53.2 y_J9_min_7cf53.1.2.1 y_J9_min_7cf53.1.1 (Nat.le_of_ble_eq_true rfl) (Nat.le_of_ble_eq_true rfl) (Nat.zero_le _) (Nat.zero_le _) ?_
        replace hh := lt_of hh
        obtain ⟨g5, hh⟩ := chk_some hh
        replace g5 := inb_in g5
        refine ld_row dX3_covers_88 g5 ?_
        refine v_iadd dX3_covers_89 ?_
        refine v_istore dX3_covers_90 (by decide) rfl ?_
        replace hh := lt_of hh
        refine v_iload 6 dX3_covers_92 rfl ?_
        refine v_aload_n 1 dX3_covers_94 rfl rfl ?_
        refine r_Shape_row dX3_covers_95 fl_X3_11 ?_
        refine v_bipush dX3_covers_98 (by decide : _ = (12 : Int32)) ?_
        refine v_iload 7 dX3_covers_100 rfl ?_
        refine v_iload_n 4 dX3_covers_102 rfl rfl ?_
        refine v_iadd dX3_covers_103 ?_
        refine v_mmin dX3_covers_104 ml_X3_24 y_J9_min_7cf53.2 y_J9_min_7cf53.1.2.1 y_J9_min_7cf53.1.1 (Nat.le_of_ble_eq_true rfl) (Nat.le_of_ble_eq_true rfl) (Nat.zero_le _) (Nat.zero_le _) ?_
        replace hh := lt_of hh
        obtain ⟨g8, hh⟩ := chk_some hh
        replace g8 := inb_in g8
        refine ld_row dX3_covers_107 g8 ?_
        refine v_iadd dX3_covers_108 ?_
        refine v_istore dX3_covers_109 (by decide) rfl ?_
        replace hh := lt_of hh
        refine v_aload_n 2 dX3_covers_111 rfl rfl ?_
        refine r_Shape_row dX3_covers_112 fl_X3_11 ?_
        refine v_iload 8 dX3_covers_115 rfl ?_
        refine v_iload 1 dX3_covers_117 rfl ?_
        refine v_iload 0 dX3_covers_119 rfl ?_
        refine v_mmin dX3_covers_121 ml_X3_24 y_J9_min_7cf53.2 y_J9_min_7cf53.1.2.1 y_J9_min_7cf53.1.1 (Nat.le_of_ble_eq_true rfl) (Nat.le_of_ble_eq_true rfl) (Nat.zero_le _) (Nat.zero_le _) ?_
        replace hh := lt_of hh
        obtain ⟨g11, hh⟩ := chk_some hh
        replace g11 := inb_in g11
        refine st_row dX3_covers_124 g11 ?_
        replace hh := lt_of hh
        refine v_iinc (v := _ + (-1 : Int32)) 8 dX3_covers_125 rfl rfl (by decide) rfl ?_
        replace hh := lt_of hh
        refine v_goto (tgt := 40) dX3_covers_128 (by decide) ?_
        exact v_sub [3, 4, 5, 6, 7, 8, 0] rfl (ih _ _ _ _ _ _ _ hh)
      · replace hh := (if_pos c).symm.trans hh
        refine v_aload_n 0 dX3_covers_54 rfl rfl ?_
        refine r_Shape_row dX3_covers_55 fl_X3_11 ?_
        refine v_iload 6 dX3_covers_58 rfl ?_
        refine v_aload_n 0 dX3_covers_60 rfl rfl ?_
        refine r_Shape_row dX3_covers_61 fl_X3_11 ?_
        refine v_iload 6 dX3_covers_64 rfl ?_
        refine v_iconst dX3_covers_66 (by decide : _ = (1 : Int32)) ?_
        refine v_iadd dX3_covers_67 ?_
        obtain ⟨g14, hh⟩ := chk_some hh
        replace g14 := inb_in g14
        refine ld_row dX3_covers_68 g14 ?_
        obtain ⟨g15, hh⟩ := chk_some hh
        replace g15 := inb_in g15
        refine st_row dX3_covers_69 g15 ?_
        replace hh := lt_of hh
        refine v_goto (tgt := 125) dX3_covers_70 (by decide) ?_
        refine v_iinc (v := _ + (-1 : Int32)) 6 dX3_covers_125 rfl rfl (by decide) rfl ?_
        replace hh := lt_of hh
        refine v_goto (tgt := 40) dX3_covers_128 (by decide) ?_
        exact v_sub [1, 2, 3, 4, 5, 6, 0] rfl (ih _ _ _ _ _ _ _ hh)
def f_X3_covers_b26 (N : Nat) (x1 : Int32) (x2 : Int32) (x3 : Int32) (x5 : Int32) (s0 : Int32) (S : St) : Option (Int32 × St) :=
  lt (sI S 300 0 12 (0 : Int32)) fun S2 =>
  f_X3_covers_b40 N N x1 x2 x3 x5 s0 (11 : Int32) S2
set_option maxRecDepth 100000 in
set_option maxHeartbeats 4000000 in
theorem tb_X3_covers_26 {l : Launch} {G : v_G} {N : Nat}    {r : Int32 × St}   : ∀ (x1 : Int32) (x2 : Int32) (x3 : Int32) (x5 : Int32) (s0 : Int32) (S : St),  f_X3_covers_b26 N x1 x2 x3 x5 s0 S = some r → V l G yX3_covers cX3_covers 10 (some .int) (v_rm 1 0 0) (QI r.1 (lay G r.2)) 0 0 26 [(0, .ref (v_B G + 280)), (1, .int x1), (2, .int x2), (3, .int x3), (5, .int x5)] [.int s0] (lay G S) := by
  intro x1 x2 x3 x5 s0 S  hh
  unfold f_X3_covers_b26 at hh
  refine v_istore dX3_covers_26 (by decide) rfl ?_
  refine v_aload_n 1 dX3_covers_28 rfl rfl ?_
  refine r_Shape_row dX3_covers_29 fl_X3_11 ?_
  refine v_bipush dX3_covers_32 (by decide : _ = (12 : Int32)) ?_
  refine v_iconst dX3_covers_34 (by decide : _ = (0 : Int32)) ?_
  refine st_row dX3_covers_35 (inb_in (by decide)) ?_
  replace hh := lt_of hh
  refine v_bipush dX3_covers_36 (by decide : _ = (11 : Int32)) ?_
  refine v_istore dX3_covers_38 (by decide) rfl ?_
  exact v_sub [2, 3, 4, 5, 6, 1, 0] rfl (tb_X3_covers_40 N _ _ _ _ _ _ _ hh)
def f_X3_covers_b12 (N : Nat) (x1 : Int32) (x2 : Int32) (x3 : Int32) (x4 : Int32) (s0 : Int32) (S : St) : Option (Int32 × St) :=
  if x4 = (0 : Int32) then
  (f_X3_covers_b26 N x1 x2 x3 s0 (1 : Int32) S)
  else
  (f_X3_covers_b26 N x1 x2 x3 s0 (x3 + (2 : Int32)) S)
set_option maxRecDepth 100000 in
set_option maxHeartbeats 4000000 in
theorem tb_X3_covers_12 {l : Launch} {G : v_G} {N : Nat}    {r : Int32 × St}   : ∀ (x1 : Int32) (x2 : Int32) (x3 : Int32) (x4 : Int32) (s0 : Int32) (S : St),  f_X3_covers_b12 N x1 x2 x3 x4 s0 S = some r → V l G yX3_covers cX3_covers 10 (some .int) (v_rm 1 0 0) (QI r.1 (lay G r.2)) 0 0 12 [(0, .ref (v_B G + 280)), (1, .int x1), (2, .int x2), (3, .int x3), (4, .int x4)] [.int s0] (lay G S) := by
  intro x1 x2 x3 x4 s0 S  hh
  unfold f_X3_covers_b12 at hh
  refine v_istore dX3_covers_12 (by decide) rfl ?_
  refine v_iload 5 dX3_covers_14 rfl ?_
  refine v_if_eq (tgt := 25) dX3_covers_16 (by decide) (fun c => ?_) (fun c => ?_)
  · replace hh := (if_pos c).symm.trans hh
    refine v_iconst dX3_covers_25 (by decide : _ = (1 : Int32)) ?_
    exact v_sub [1, 2, 3, 4, 0] rfl (tb_X3_covers_26 _ _ _ _ _ _ hh)
  · replace hh := (if_neg c).symm.trans hh
    refine v_iload_n 4 dX3_covers_19 rfl rfl ?_
    refine v_iconst dX3_covers_20 (by decide : _ = (2 : Int32)) ?_
    refine v_iadd dX3_covers_21 ?_
    refine v_goto (tgt := 26) dX3_covers_22 (by decide) ?_
    exact v_sub [1, 2, 3, 4, 0] rfl (tb_X3_covers_26 _ _ _ _ _ _ hh)
def f_X3_covers (N : Nat) (S : St) (x1 : Int32) (x2 : Int32) (x3 : Int32) (x4 : Int32) : Option (Int32 × St) :=
  if x4 = (0 : Int32) then
  (f_X3_covers_b12 N x1 x2 x3 x4 (1 : Int32) S)
  else
  (f_X3_covers_b12 N x1 x2 x3 x4 (x2 + (2 : Int32)) S)
set_option maxRecDepth 100000 in
set_option maxHeartbeats 4000000 in
theorem t_X3_covers {l : Launch} {G : v_G} {N : Nat} {S : St}   {x1 : Int32} {x2 : Int32} {x3 : Int32} {x4 : Int32} {r : Int32 × St} (hh : f_X3_covers N S x1 x2 x3 x4 = some r) : v_M l G yX3_covers cX3_covers 10 (some .int) 1 0 0 [.ref (v_B G + 280), .int x1, .int x2, .int x3, .int x4] (lay G S) (QI r.1 (lay G r.2)) := by
  refine v_entry (by decide) (Nat.le_of_ble_eq_true rfl) ?_
  unfold f_X3_covers at hh
  show V l G yX3_covers cX3_covers 10 (some .int) (v_rm 1 0 0) (QI r.1 (lay G r.2)) 0 0 0 [(0, .ref (v_B G + 280)), (1, .int x1), (2, .int x2), (3, .int x3), (4, .int x4)] [] (lay G S)
  refine v_iload 4 dX3_covers_0 rfl ?_
  refine v_if_eq (tgt := 11) dX3_covers_2 (by decide) (fun c => ?_) (fun c => ?_)
  · replace hh := (if_pos c).symm.trans hh
    refine v_iconst dX3_covers_11 (by decide : _ = (1 : Int32)) ?_
    exact v_sub [0, 1, 2, 3, 4] rfl (tb_X3_covers_12 _ _ _ _ _ _ hh)
  · replace hh := (if_neg c).symm.trans hh
    refine v_iload_n 2 dX3_covers_5 rfl rfl ?_
    refine v_iconst dX3_covers_6 (by decide : _ = (2 : Int32)) ?_
    refine v_iadd dX3_covers_7 ?_
    refine v_goto (tgt := 12) dX3_covers_8 (by decide) ?_
    exact v_sub [0, 1, 2, 3, 4] rfl (tb_X3_covers_12 _ _ _ _ _ _ hh)
def f_X3_commonPart_b6 (N : Nat) : Nat → Int32 → Int32 → Int32 → St → Option (Int32)
  | 0, _, _, _, _ => none
  | n + 1, x0, x1, x2, S =>
  if x2 ≤ (1 : Int32) then
  (some (1 : Int32))
  else
  (chk (nz x2) (
  if (x0 - x0 / x2 * x2) = (0 : Int32) then
  (chk (nz x2) (
  if (x1 - x1 / x2 * x2) = (0 : Int32) then
  (some x2)
  else
  (lt (x2 + (-1 : Int32)) fun v3 =>
  f_X3_commonPart_b6 N n x0 x1 v3 S)))
  else
  (lt (x2 + (-1 : Int32)) fun v2 =>
  f_X3_commonPart_b6 N n x0 x1 v2 S)))
set_option maxRecDepth 100000 in
set_option maxHeartbeats 4000000 in
theorem tb_X3_commonPart_6 {l : Launch} {G : v_G} {N : Nat}    {r : Int32} {S0 : St}   : ∀ (n : Nat) (x0 : Int32) (x1 : Int32) (x2 : Int32) (S : St),  S = S0 → f_X3_commonPart_b6 N n x0 x1 x2 S = some r → V l G yX3_commonPart cX3_commonPart 3 (some .int) (v_rm 1 0 0) (QI r (lay G S0)) 0 0 6 [(0, .int x0), (1, .int x1), (2, .int x2)] [] (lay G S) := by
  intro n
  induction n with
  | zero =>
    intro x0 x1 x2 S  hS0 hh
    rw [f_X3_commonPart_b6] at hh
    cases hh
  | succ n ih =>
    intro x0 x1 x2 S  hS0 hh
    rw [f_X3_commonPart_b6] at hh
    refine v_iload_n 2 dX3_commonPart_6 rfl rfl ?_
    refine v_iconst dX3_commonPart_7 (by decide : _ = (1 : Int32)) ?_
    refine v_icmp_le (tgt := 31) dX3_commonPart_8 (by decide) (fun c => ?_) (fun c => ?_)
    · replace hh := (if_pos c).symm.trans hh
      refine v_iconst dX3_commonPart_31 (by decide : _ = (1 : Int32)) ?_
      obtain rfl := Option.some.inj hh
      exact v_iret dX3_commonPart_32 rfl (Nat.zero_le _) (Nat.zero_le _) ⟨rfl, by rw [hS0]⟩
    · replace hh := (if_neg c).symm.trans hh
      refine v_iload_n 0 dX3_commonPart_11 rfl rfl ?_
      refine v_iload_n 2 dX3_commonPart_12 rfl rfl ?_
      obtain ⟨g, hh⟩ := chk_some hh
      refine v_irem dX3_commonPart_13 (nz_ne g) ?_
      refine v_if_ne (tgt := 25) dX3_commonPart_14 (by decide) (fun c => ?_) (fun c => ?_)
      · replace hh := (if_neg c).symm.trans hh
        refine v_iinc (v := _ + (-1 : Int32)) 2 dX3_commonPart_25 rfl rfl (by decide) rfl ?_
        replace hh := lt_of hh
        refine v_goto (tgt := 6) dX3_commonPart_28 (by decide) ?_
        exact v_sub [1, 2, 0] rfl (ih _ _ _ _ hS0 hh)
      · replace hh := (if_pos c).symm.trans hh
        refine v_iload_n 1 dX3_commonPart_17 rfl rfl ?_
        refine v_iload_n 2 dX3_commonPart_18 rfl rfl ?_
        obtain ⟨g, hh⟩ := chk_some hh
        refine v_irem dX3_commonPart_19 (nz_ne g) ?_
        refine v_if_ne (tgt := 25) dX3_commonPart_20 (by decide) (fun c => ?_) (fun c => ?_)
        · replace hh := (if_neg c).symm.trans hh
          refine v_iinc (v := _ + (-1 : Int32)) 2 dX3_commonPart_25 rfl rfl (by decide) rfl ?_
          replace hh := lt_of hh
          refine v_goto (tgt := 6) dX3_commonPart_28 (by decide) ?_
          exact v_sub [1, 2, 0] rfl (ih _ _ _ _ hS0 hh)
        · replace hh := (if_pos c).symm.trans hh
          refine v_iload_n 2 dX3_commonPart_23 rfl rfl ?_
          obtain rfl := Option.some.inj hh
          exact v_iret dX3_commonPart_24 rfl (Nat.zero_le _) (Nat.zero_le _) ⟨rfl, by rw [hS0]⟩
def f_X3_commonPart (N : Nat) (S : St) (x0 : Int32) (x1 : Int32) : Option (Int32) :=
  lt (if x0 < x1 then x1 else x0) fun v1 =>
  f_X3_commonPart_b6 N N x0 x1 v1 S
set_option maxRecDepth 100000 in
set_option maxHeartbeats 4000000 in
theorem t_X3_commonPart {l : Launch} {G : v_G} {N : Nat} {S : St}   {x0 : Int32} {x1 : Int32} {r : Int32} (hh : f_X3_commonPart N S x0 x1 = some r) : v_M l G yX3_commonPart cX3_commonPart 3 (some .int) 1 0 0 [.int x0, .int x1] (lay G S) (QI r (lay G S)) := by
  refine v_entry (by decide) (Nat.le_of_ble_eq_true rfl) ?_
  unfold f_X3_commonPart at hh
  show V l G yX3_commonPart cX3_commonPart 3 (some .int) (v_rm 1 0 0) (QI r (lay G S)) 0 0 0 [(0, .int x0), (1, .int x1)] [] (lay G S)
  refine v_iload_n 0 dX3_commonPart_0 rfl rfl ?_
  refine v_iload_n 1 dX3_commonPart_1 rfl rfl ?_
  refine v_mmax dX3_commonPart_2 ml_X3_18 y_J9_max_7cf53.2 y_J9_max_7cf53.1.2.1 y_J9_max_7cf53.1.1 (Nat.le_of_ble_eq_true rfl) (Nat.le_of_ble_eq_true rfl) (Nat.zero_le _) (Nat.zero_le _) ?_
  replace hh := lt_of hh
  refine v_istore_n dX3_commonPart_5 rfl (by decide) rfl ?_
  exact v_sub [1, 2, 0] rfl (tb_X3_commonPart_6 N _ _ _ _ rfl hh)
