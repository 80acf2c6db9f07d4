def f_X10_lake_b43 (rec4 : (Int32 → Int32 → St → Option (Int32))) (N : Nat) (x2 : Int32) (s0 : Int32) (s1 : Int32) (S : St) : Option (Int32) :=
  chk (inb ((11 : Int32) + x2) 3015) (
  lt (s1 + (s0 - (gI S 1000 0 ((11 : Int32) + x2).toNatClampNeg))) fun v4 =>
  lt (x2 + (1 : Int32)) fun v5 =>
  rec4 v4 v5 S)
set_option maxRecDepth 100000 in
set_option maxHeartbeats 4000000 in
theorem tb_X10_lake_43 {l : Launch} {G : v_G} {N : Nat}    {r : Int32} {S0 : St} {rec4 : (Int32 → Int32 → St → Option (Int32))} (hrec4 : ∀ (x1 : Int32) (x2 : Int32) (S : St),  S = S0 → rec4 x1 x2 S = some r → V l G yX10_lake cX10_lake 5 (some .int) (v_rm 1 0 0) (QI r (lay G S0)) 0 0 4 [(0, .ref (v_B G + 291)), (1, .int x1), (2, .int x2)] [] (lay G S)) : ∀ (x2 : Int32) (s0 : Int32) (s1 : Int32) (S : St),  S = S0 → f_X10_lake_b43 rec4 N x2 s0 s1 S = some r → V l G yX10_lake cX10_lake 5 (some .int) (v_rm 1 0 0) (QI r (lay G S0)) 0 0 43 [(0, .ref (v_B G + 291)), (2, .int x2)] [.int s0, .int s1] (lay G S) := by
  intro x2 s0 s1 S  hS0 hh
  unfold f_X10_lake_b43 at hh
  refine v_aload_n 0 dX10_lake_43 rfl rfl ?_
  refine r_Model_a dX10_lake_44 fl_X10_7 ?_
  refine v_bipush dX10_lake_47 (by decide : _ = (11 : Int32)) ?_
  refine v_iload_n 1 dX10_lake_49 rfl rfl ?_
  refine v_iadd dX10_lake_50 ?_
  obtain ⟨g3, hh⟩ := chk_some hh
  replace g3 := inb_in g3
  refine ld_ma dX10_lake_51 g3 ?_
  refine v_isub dX10_lake_52 ?_
  refine v_iadd dX10_lake_53 ?_
  refine v_istore_n dX10_lake_54 rfl (by decide) rfl ?_
  replace hh := lt_of hh
  refine v_iinc (v := _ + (1 : Int32)) 2 dX10_lake_55 rfl rfl (by decide) rfl ?_
  replace hh := lt_of hh
  refine v_goto (tgt := 4) dX10_lake_58 (by decide) ?_
  exact v_sub [2, 1, 0] rfl (hrec4 _ _ _ hS0 hh)
def f_X10_lake_b4 (N : Nat) : Nat → Int32 → Int32 → St → Option (Int32)
  | 0, _, _, _ => none
  | n + 1, x1, x2, S =>
  if (12 : Int32) ≤ x2 then
  (some x1)
  else
  (bnd (f_X10_mostOf N S (0 : Int32) (x2 + (1 : Int32))) fun q1 =>
 bnd (f_X10_mostOf N S x2 ((12 : Int32) - x2)) fun q2 =>
 if q2 ≤ q1 then
  (f_X10_lake_b43 (f_X10_lake_b4 N n) N x2 q2 x1 S)
  else
  (f_X10_lake_b43 (f_X10_lake_b4 N n) N x2 q1 x1 S))
set_option maxRecDepth 100000 in
set_option maxHeartbeats 4000000 in
theorem tb_X10_lake_4 {l : Launch} {G : v_G} {N : Nat}    {r : Int32} {S0 : St}   : ∀ (n : Nat) (x1 : Int32) (x2 : Int32) (S : St),  S = S0 → f_X10_lake_b4 N n x1 x2 S = some r → V l G yX10_lake cX10_lake 5 (some .int) (v_rm 1 0 0) (QI r (lay G S0)) 0 0 4 [(0, .ref (v_B G + 291)), (1, .int x1), (2, .int x2)] [] (lay G S) := by
  intro n
  induction n with
  | zero =>
    intro x1 x2 S  hS0 hh
    rw [f_X10_lake_b4] at hh
    cases hh
  | succ n ih =>
    intro x1 x2 S  hS0 hh
    rw [f_X10_lake_b4] at hh
    refine v_iload_n 2 dX10_lake_4 rfl rfl ?_
    refine v_bipush dX10_lake_5 (by decide : _ = (12 : Int32)) ?_
    refine v_icmp_ge (tgt := 61) dX10_lake_7 (by decide) (fun c => ?_) (fun c => ?_)
    · replace hh := (if_pos c).symm.trans hh
      refine v_iload_n 1 dX10_lake_61 rfl rfl ?_
      obtain rfl := Option.some.inj hh
      exact v_iret dX10_lake_62 rfl (Nat.zero_le _) (Nat.zero_le _) ⟨rfl, by rw [hS0]⟩
    · replace hh := (if_neg c).symm.trans hh
      refine v_aload_n 0 dX10_lake_10 rfl rfl ?_
      refine v_iconst dX10_lake_11 (by decide : _ = (0 : Int32)) ?_
      refine v_iload_n 2 dX10_lake_12 rfl rfl ?_
      refine v_iconst dX10_lake_13 (by decide : _ = (1 : Int32)) ?_
      refine v_iadd dX10_lake_14 ?_
      obtain ⟨q1, eq1, hh⟩ := bnd_some hh
      refine v_callVi (t_X10_mostOf eq1) dX10_lake_15 y_X10_mostOf ml_X10_378 (ci := 9) rfl rfl (e_Model) rfl rfl (Nat.le_of_ble_eq_true rfl) ⟨(Nat.le_of_ble_eq_true rfl), (Nat.le_of_ble_eq_true rfl)⟩ ⟨Nat.zero_le _, Nat.zero_le _⟩ ?_
      refine v_istore_n dX10_lake_18 rfl (by decide) rfl ?_
      refine v_aload_n 1 dX10_lake_19 rfl rfl ?_
      refine v_iload_n 3 dX10_lake_20 rfl rfl ?_
      refine v_bipush dX10_lake_21 (by decide : _ = (12 : Int32)) ?_
      refine v_iload_n 3 dX10_lake_23 rfl rfl ?_
      refine v_isub dX10_lake_24 ?_
      obtain ⟨q2, eq2, hh⟩ := bnd_some hh
      refine v_callVi (t_X10_mostOf eq2) dX10_lake_25 y_X10_mostOf ml_X10_378 (ci := 9) rfl rfl (e_Model) rfl rfl (Nat.le_of_ble_eq_true rfl) ⟨(Nat.le_of_ble_eq_true rfl), (Nat.le_of_ble_eq_true rfl)⟩ ⟨Nat.zero_le _, Nat.zero_le _⟩ ?_
      refine v_istore dX10_lake_28 (by decide) rfl ?_
      refine v_iload_n 3 dX10_lake_30 rfl rfl ?_
      refine v_iload_n 1 dX10_lake_31 rfl rfl ?_
      refine v_iload 0 dX10_lake_32 rfl ?_
      refine v_icmp_ge (tgt := 41) dX10_lake_34 (by decide) (fun c => ?_) (fun c => ?_)
      · replace hh := (if_pos c).symm.trans hh
        refine v_iload 0 dX10_lake_41 rfl ?_
        exact v_sub [2, 4] rfl (tb_X10_lake_43 (fun _ _ _ hS hh => ih _ _ _ hS hh) _ _ _ _ hS0 hh)
      · replace hh := (if_neg c).symm.trans hh
        refine v_iload_n 1 dX10_lake_37 rfl rfl ?_
        refine v_goto (tgt := 43) dX10_lake_38 (by decide) ?_
        exact v_sub [2, 4] rfl (tb_X10_lake_43 (fun _ _ _ hS hh => ih _ _ _ hS hh) _ _ _ _ hS0 hh)
def f_X10_lake (N : Nat) (S : St)  : Option (Int32) :=
  f_X10_lake_b4 N N (0 : Int32) (0 : Int32) S
set_option maxRecDepth 100000 in
set_option maxHeartbeats 4000000 in
theorem t_X10_lake {l : Launch} {G : v_G} {N : Nat} {S : St}    {r : Int32} (hh : f_X10_lake N S  = some r) : v_M l G yX10_lake cX10_lake 5 (some .int) 1 0 0 [.ref (v_B G + 291)] (lay G S) (QI r (lay G S)) := by
  refine v_entry (by decide) (Nat.le_of_ble_eq_true rfl) ?_
  unfold f_X10_lake at hh
  show V l G yX10_lake cX10_lake 5 (some .int) (v_rm 1 0 0) (QI r (lay G S)) 0 0 0 [(0, .ref (v_B G + 291))] [] (lay G S)
  refine v_iconst dX10_lake_0 (by decide : _ = (0 : Int32)) ?_
  refine v_istore_n dX10_lake_1 rfl (by decide) rfl ?_
  refine v_iconst dX10_lake_2 (by decide : _ = (0 : Int32)) ?_
  refine v_istore_n dX10_lake_3 rfl (by decide) rfl ?_
  exact v_sub [2, 1, 0] rfl (tb_X10_lake_4 N _ _ _ rfl hh)
def f_X10_glaze_b20 (rec10 : (Int32 → Int32 → Int32 → Int32 → Int32 → St → Option (Int32))) (N : Nat) : Nat → Int32 → Int32 → Int32 → Int32 → Int32 → Int32 → St → Option (Int32)
  | 0, _, _, _, _, _, _, _ => none
  | n + 1, x1, x2, x3, x4, x5, x6, S =>
  if (12 : Int32) < (x5 + x6) then
  (lt (x5 + (1 : Int32)) fun v1 =>
  rec10 x1 x2 x3 x4 v1 S)
  else
  (bnd (f_X10_leastOf N S x5 x6) fun q2 =>
 if x2 < (x6 * q2) then
  (bnd (f_X10_leastOf N S x5 x6) fun q3 =>
 lt (x6 * q3) fun v4 =>
  lt (x6 + (1 : Int32)) fun v5 =>
  f_X10_glaze_b20 rec10 N n x1 v4 x5 x6 x5 v5 S)
  else
  (lt (x6 + (1 : Int32)) fun v6 =>
  f_X10_glaze_b20 rec10 N n x1 x2 x3 x4 x5 v6 S))
set_option maxRecDepth 100000 in
set_option maxHeartbeats 4000000 in
theorem tb_X10_glaze_20 {l : Launch} {G : v_G} {N : Nat}    {r : Int32} {S0 : St} {rec10 : (Int32 → Int32 → Int32 → Int32 → Int32 → St → Option (Int32))} (hrec10 : ∀ (x1 : Int32) (x2 : Int32) (x3 : Int32) (x4 : Int32) (x5 : Int32) (S : St),  S = S0 → rec10 x1 x2 x3 x4 x5 S = some r → V l G yX10_glaze cX10_glaze 7 (some .int) (v_rm 1 0 0) (QI r (lay G S0)) 0 0 10 [(0, .ref (v_B G + 291)), (1, .int x1), (2, .int x2), (3, .int x3), (4, .int x4), (5, .int x5)] [] (lay G S)) : ∀ (n : Nat) (x1 : Int32) (x2 : Int32) (x3 : Int32) (x4 : Int32) (x5 : Int32) (x6 : Int32) (S : St),  S = S0 → f_X10_glaze_b20 rec10 N n x1 x2 x3 x4 x5 x6 S = some r → V l G yX10_glaze cX10_glaze 7 (some .int) (v_rm 1 0 0) (QI r (lay G S0)) 0 0 20 [(0, .ref (v_B G + 291)), (1, .int x1), (2, .int x2), (3, .int x3), (4, .int x4), (5, .int x5), (6, .int x6)] [] (lay G S) := by
  intro n
  induction n with
  | zero =>
    intro x1 x2 x3 x4 x5 x6 S  hS0 hh
    rw [f_X10_glaze_b20] at hh
    cases hh
  | succ n ih =>
    intro x1 x2 x3 x4 x5 x6 S  hS0 hh
    rw [f_X10_glaze_b20] at hh
    refine v_iload 5 dX10_glaze_20 rfl ?_
    refine v_iload 6 dX10_glaze_22 rfl ?_
    refine v_iadd dX10_glaze_24 ?_
    refine v_bipush dX10_glaze_25 (by decide : _ = (12 : Int32)) ?_
    refine v_icmp_gt (tgt := 73) dX10_glaze_27 (by decide) (fun c => ?_) (fun c => ?_)
    · replace hh := (if_pos c).symm.trans hh
      refine v_iinc (v := _ + (1 : Int32)) 5 dX10_glaze_73 rfl rfl (by decide) rfl ?_
      replace hh := lt_of hh
      refine v_goto (tgt := 10) dX10_glaze_76 (by decide) ?_
      exact v_sub [1, 2, 3, 4, 5, 0] rfl (hrec10 _ _ _ _ _ _ hS0 hh)
    · replace hh := (if_neg c).symm.trans hh
      refine v_iload 6 dX10_glaze_30 rfl ?_
      refine v_aload_n 0 dX10_glaze_32 rfl rfl ?_
      refine v_iload 5 dX10_glaze_33 rfl ?_
      refine v_iload 6 dX10_glaze_35 rfl ?_
      obtain ⟨q2, eq2, hh⟩ := bnd_some hh
      refine v_callVi (t_X10_leastOf eq2) dX10_glaze_37 y_X10_leastOf ml_X10_381 (ci := 9) rfl rfl (e_Model) rfl rfl (Nat.le_of_ble_eq_true rfl) ⟨(Nat.le_of_ble_eq_true rfl), (Nat.le_of_ble_eq_true rfl)⟩ ⟨Nat.zero_le _, Nat.zero_le _⟩ ?_
      refine v_imul dX10_glaze_40 ?_
      refine v_iload_n 2 dX10_glaze_41 rfl rfl ?_
      refine v_icmp_gt (tgt := 48) dX10_glaze_42 (by decide) (fun c => ?_) (fun c => ?_)
      · replace hh := (if_pos c).symm.trans hh
        refine v_iload 6 dX10_glaze_48 rfl ?_
        refine v_aload_n 0 dX10_glaze_50 rfl rfl ?_
        refine v_iload 5 dX10_glaze_51 rfl ?_
        refine v_iload 6 dX10_glaze_53 rfl ?_
        obtain ⟨q3, eq3, hh⟩ := bnd_some hh
        refine v_callVi (t_X10_leastOf eq3) dX10_glaze_55 y_X10_leastOf ml_X10_381 (ci := 9) rfl rfl (e_Model) rfl rfl (Nat.le_of_ble_eq_true rfl) ⟨(Nat.le_of_ble_eq_true rfl), (Nat.le_of_ble_eq_true rfl)⟩ ⟨Nat.zero_le _, Nat.zero_le _⟩ ?_
        refine v_imul dX10_glaze_58 ?_
        refine v_istore_n dX10_glaze_59 rfl (by decide) rfl ?_
        replace hh := lt_of hh
        refine v_iload 5 dX10_glaze_60 rfl ?_
        refine v_istore_n dX10_glaze_62 rfl (by decide) rfl ?_
        refine v_iload 6 dX10_glaze_63 rfl ?_
        refine v_istore dX10_glaze_65 (by decide) rfl ?_
        refine v_iinc (v := _ + (1 : Int32)) 6 dX10_glaze_67 rfl rfl (by decide) rfl ?_
        replace hh := lt_of hh
        refine v_goto (tgt := 20) dX10_glaze_70 (by decide) ?_
        exact v_sub [4, 5, 3, 2, 1, 6, 0] rfl (ih _ _ _ _ _ _ _ hS0 hh)
      · replace hh := (if_neg c).symm.trans hh
        refine v_goto (tgt := 67) dX10_glaze_45 (by decide) ?_
        refine v_iinc (v := _ + (1 : Int32)) 6 dX10_glaze_67 rfl rfl (by decide) rfl ?_
        replace hh := lt_of hh
        refine v_goto (tgt := 20) dX10_glaze_70 (by decide) ?_
        exact v_sub [1, 2, 3, 4, 5, 6, 0] rfl (ih _ _ _ _ _ _ _ hS0 hh)
def f_X10_glaze_b10 (N : Nat) : Nat → Int32 → Int32 → Int32 → Int32 → Int32 → St → Option (Int32)
  | 0, _, _, _, _, _, _ => none
  | n + 1, x1, x2, x3, x4, x5, S =>
  if (12 : Int32) ≤ x5 then
  (if x1 = (0 : Int32) then
  (some x2)
  else
  (if x1 = (1 : Int32) then
  (some x3)
  else
  (if x1 = (2 : Int32) then
  (some x4)
  else
  (some (-1 : Int32)))))
  else
  (f_X10_glaze_b20 (f_X10_glaze_b10 N n) N N x1 x2 x3 x4 x5 (1 : Int32) S)
set_option maxRecDepth 100000 in
set_option maxHeartbeats 4000000 in
theorem tb_X10_glaze_10 {l : Launch} {G : v_G} {N : Nat}    {r : Int32} {S0 : St}   : ∀ (n : Nat) (x1 : Int32) (x2 : Int32) (x3 : Int32) (x4 : Int32) (x5 : Int32) (S : St),  S = S0 → f_X10_glaze_b10 N n x1 x2 x3 x4 x5 S = some r → V l G yX10_glaze cX10_glaze 7 (some .int) (v_rm 1 0 0) (QI r (lay G S0)) 0 0 10 [(0, .ref (v_B G + 291)), (1, .int x1), (2, .int x2), (3, .int x3), (4, .int x4), (5, .int x5)] [] (lay G S) := by
  intro n
  induction n with
  | zero =>
    intro x1 x2 x3 x4 x5 S  hS0 hh
    rw [f_X10_glaze_b10] at hh
    cases hh
  | succ n ih =>
    intro x1 x2 x3 x4 x5 S  hS0 hh
    rw [f_X10_glaze_b10] at hh
    refine v_iload 5 dX10_glaze_10 rfl ?_
    refine v_bipush dX10_glaze_12 (by decide : _ = (12 : Int32)) ?_
    refine v_icmp_ge (tgt := 79) dX10_glaze_14 (by decide) (fun c => ?_) (fun c => ?_)
    · replace hh := (if_pos c).symm.trans hh
      refine v_iload_n 1 dX10_glaze_79 rfl rfl ?_
      refine v_if_ne (tgt := 87) dX10_glaze_80 (by decide) (fun c => ?_) (fun c => ?_)
      · replace hh := (if_neg c).symm.trans hh
        refine v_iload_n 1 dX10_glaze_87 rfl rfl ?_
        refine v_iconst dX10_glaze_88 (by decide : _ = (1 : Int32)) ?_
        refine v_icmp_ne (tgt := 96) dX10_glaze_89 (by decide) (fun c => ?_) (fun c => ?_)
        · replace hh := (if_neg c).symm.trans hh
          refine v_iload_n 1 dX10_glaze_96 rfl rfl ?_
          refine v_iconst dX10_glaze_97 (by decide : _ = (2 : Int32)) ?_
          refine v_icmp_ne (tgt := 106) dX10_glaze_98 (by decide) (fun c => ?_) (fun c => ?_)
          · replace hh := (if_neg c).symm.trans hh
            refine v_iconst dX10_glaze_106 (by decide : _ = (-1 : Int32)) ?_
            obtain rfl := Option.some.inj hh
            exact v_iret dX10_glaze_107 rfl (Nat.zero_le _) (Nat.zero_le _) ⟨rfl, by rw [hS0]⟩
          · replace hh := (if_pos c).symm.trans hh
            refine v_iload 4 dX10_glaze_101 rfl ?_
            refine v_goto (tgt := 107) dX10_glaze_103 (by decide) ?_
            obtain rfl := Option.some.inj hh
            exact v_iret dX10_glaze_107 rfl (Nat.zero_le _) (Nat.zero_le _) ⟨rfl, by rw [hS0]⟩
        · replace hh := (if_pos c).symm.trans hh
          refine v_iload_n 3 dX10_glaze_92 rfl rfl ?_
          refine v_goto (tgt := 107) dX10_glaze_93 (by decide) ?_
          obtain rfl := Option.some.inj hh
          exact v_iret dX10_glaze_107 rfl (Nat.zero_le _) (Nat.zero_le _) ⟨rfl, by rw [hS0]⟩
      · replace hh := (if_pos c).symm.trans hh
        refine v_iload_n 2 dX10_glaze_83 rfl rfl ?_
        refine v_goto (tgt := 107) dX10_glaze_84 (by decide) ?_
        obtain rfl := Option.some.inj hh
        exact v_iret dX10_glaze_107 rfl (Nat.zero_le _) (Nat.zero_le _) ⟨rfl, by rw [hS0]⟩
    · replace hh := (if_neg c).symm.trans hh
      refine v_iconst dX10_glaze_17 (by decide : _ = (1 : Int32)) ?_
      refine v_istore dX10_glaze_18 (by decide) rfl ?_
      exact v_sub [1, 2, 3, 4, 5, 6, 0] rfl (tb_X10_glaze_20 (fun _ _ _ _ _ _ hS hh => ih _ _ _ _ _ _ hS hh) N _ _ _ _ _ _ _ hS0 hh)
def f_X10_glaze (N : Nat) (S : St) (x1 : Int32) : Option (Int32) :=
  f_X10_glaze_b10 N N x1 (0 : Int32) (0 : Int32) (1 : Int32) (0 : Int32) S
set_option maxRecDepth 100000 in
set_option maxHeartbeats 4000000 in
theorem t_X10_glaze {l : Launch} {G : v_G} {N : Nat} {S : St}   {x1 : Int32} {r : Int32} (hh : f_X10_glaze N S x1 = some r) : v_M l G yX10_glaze cX10_glaze 7 (some .int) 1 0 0 [.ref (v_B G + 291), .int x1] (lay G S) (QI r (lay G S)) := by
  refine v_entry (by decide) (Nat.le_of_ble_eq_true rfl) ?_
  unfold f_X10_glaze at hh
  show V l G yX10_glaze cX10_glaze 7 (some .int) (v_rm 1 0 0) (QI r (lay G S)) 0 0 0 [(0, .ref (v_B G + 291)), (1, .int x1)] [] (lay G S)
  refine v_iconst dX10_glaze_0 (by decide : _ = (0 : Int32)) ?_
  refine v_istore_n dX10_glaze_1 rfl (by decide) rfl ?_
  refine v_iconst dX10_glaze_2 (by decide : _ = (0 : Int32)) ?_
  refine v_istore_n dX10_glaze_3 rfl (by decide) rfl ?_
  refine v_iconst dX10_glaze_4 (by decide : _ = (1 : Int32)) ?_
  refine v_istore dX10_glaze_5 (by decide) rfl ?_
  refine v_iconst dX10_glaze_7 (by decide : _ = (0 : Int32)) ?_
  refine v_istore dX10_glaze_8 (by decide) rfl ?_
  exact v_sub [4, 5, 3, 2, 1, 0] rfl (tb_X10_glaze_10 N _ _ _ _ _ _ rfl hh)
def f_X10_rise_b167 (rec156 : (Int32 → Int32 → Int32 → Int32 → St → Option (Int32 × St))) (N : Nat) : Nat → Int32 → Int32 → Int32 → Int32 → Int32 → St → Option (Int32 × St)
  | 0, _, _, _, _, _, _ => none
  | n + 1, x1, x2, x3, x4, x5, S =>
  chk (inb x5 12) (
  if (gI S 1026 0 x5.toNatClampNeg) = (x2 - x4) then
  (chk (inb ((11 : Int32) + x5) 3015) (
  chk (inb ((11 : Int32) + x3) 3015) (
  if (gI S 1000 0 ((11 : Int32) + x3).toNatClampNeg) < (gI S 1000 0 ((11 : Int32) + x5).toNatClampNeg) then
  (lt (x4 + (1 : Int32)) fun v8 =>
  rec156 x1 x2 x5 v8 S)
  else
  (lt (x5 + (1 : Int32)) fun v9 =>
  f_X10_rise_b167 rec156 N n x1 x2 x3 x4 v9 S))))
  else
  (lt (x5 + (1 : Int32)) fun v5 =>
  f_X10_rise_b167 rec156 N n x1 x2 x3 x4 v5 S))
set_option maxRecDepth 100000 in
set_option maxHeartbeats 4000000 in
theorem tb_X10_rise_167 {l : Launch} {G : v_G} {N : Nat}    {r : Int32 × St} {rec156 : (Int32 → Int32 → Int32 → Int32 → St → Option (Int32 × St))} (hrec156 : ∀ (x1 : Int32) (x2 : Int32) (x3 : Int32) (x4 : Int32) (S : St),  rec156 x1 x2 x3 x4 S = some r → V l G yX10_rise cX10_rise 6 (some .int) (v_rm 1 0 0) (QI r.1 (lay G r.2)) 0 0 156 [(0, .ref (v_B G + 291)), (1, .int x1), (2, .int x2), (3, .int x3), (4, .int x4)] [] (lay G S)) : ∀ (n : Nat) (x1 : Int32) (x2 : Int32) (x3 : Int32) (x4 : Int32) (x5 : Int32) (S : St),  f_X10_rise_b167 rec156 N n x1 x2 x3 x4 x5 S = some r → V l G yX10_rise cX10_rise 6 (some .int) (v_rm 1 0 0) (QI r.1 (lay G r.2)) 0 0 167 [(0, .ref (v_B G + 291)), (1, .int x1), (2, .int x2), (3, .int x3), (4, .int x4), (5, .int x5)] [] (lay G S) := by
  intro n
  induction n with
  | zero =>
    intro x1 x2 x3 x4 x5 S  hh
    rw [f_X10_rise_b167] at hh
    cases hh
  | succ n ih =>
    intro x1 x2 x3 x4 x5 S  hh
    rw [f_X10_rise_b167] at hh
    refine v_aload_n 0 dX10_rise_167 rfl rfl ?_
    refine r_Model_rises dX10_rise_168 fl_X10_50 ?_
    refine v_iload 5 dX10_rise_171 rfl ?_
    obtain ⟨g4, hh⟩ := chk_some hh
    replace g4 := inb_in g4
    refine ld_rises dX10_rise_173 g4 ?_
    refine v_iload_n 2 dX10_rise_174 rfl rfl ?_
    refine v_iload 4 dX10_rise_175 rfl ?_
    refine v_isub dX10_rise_177 ?_
    refine v_icmp_ne (tgt := 203) dX10_rise_178 (by decide) (fun c => ?_) (fun c => ?_)
    · replace hh := (if_neg c).symm.trans hh
      refine v_iinc (v := _ + (1 : Int32)) 5 dX10_rise_203 rfl rfl (by decide) rfl ?_
      replace hh := lt_of hh
      refine v_goto (tgt := 167) dX10_rise_206 (by decide) ?_
      exact v_sub [1, 2, 3, 4, 5, 0] rfl (ih _ _ _ _ _ _ hh)
    · replace hh := (if_pos c).symm.trans hh
      refine v_aload_n 0 dX10_rise_181 rfl rfl ?_
      refine r_Model_a dX10_rise_182 fl_X10_7 ?_
      refine v_bipush dX10_rise_185 (by decide : _ = (11 : Int32)) ?_
      refine v_iload 5 dX10_rise_187 rfl ?_
      refine v_iadd dX10_rise_189 ?_
      obtain ⟨g6, hh⟩ := chk_some hh
      replace g6 := inb_in g6
      refine ld_ma dX10_rise_190 g6 ?_
      refine v_aload_n 0 dX10_rise_191 rfl rfl ?_
      refine r_Model_a dX10_rise_192 fl_X10_7 ?_
      refine v_bipush dX10_rise_195 (by decide : _ = (11 : Int32)) ?_
      refine v_iload_n 3 dX10_rise_197 rfl rfl ?_
      refine v_iadd dX10_rise_198 ?_
      obtain ⟨g7, hh⟩ := chk_some hh
      replace g7 := inb_in g7
      refine ld_ma dX10_rise_199 g7 ?_
      refine v_icmp_gt (tgt := 209) dX10_rise_200 (by decide) (fun c => ?_) (fun c => ?_)
      · replace hh := (if_pos c).symm.trans hh
        refine v_iload 5 dX10_rise_209 rfl ?_
        refine v_istore_n dX10_rise_211 rfl (by decide) rfl ?_
        refine v_iinc (v := _ + (1 : Int32)) 4 dX10_rise_212 rfl rfl (by decide) rfl ?_
        replace hh := lt_of hh
        refine v_goto (tgt := 156) dX10_rise_215 (by decide) ?_
        exact v_sub [2, 3, 4, 1, 0] rfl (hrec156 _ _ _ _ _ hh)
      · replace hh := (if_neg c).symm.trans hh
        refine v_iinc (v := _ + (1 : Int32)) 5 dX10_rise_203 rfl rfl (by decide) rfl ?_
        replace hh := lt_of hh
        refine v_goto (tgt := 167) dX10_rise_206 (by decide) ?_
        exact v_sub [1, 2, 3, 4, 5, 0] rfl (ih _ _ _ _ _ _ hh)
def f_X10_rise_b156 (N : Nat) : Nat → Int32 → Int32 → Int32 → Int32 → St → Option (Int32 × St)
  | 0, _, _, _, _, _ => none
  | n + 1, x1, x2, x3, x4, S =>
  if x1 < x4 then
  (some (x3, S))
  else
  (lt (x3 + (1 : Int32)) fun v3 =>
  f_X10_rise_b167 (f_X10_rise_b156 N n) N N x1 x2 x3 x4 v3 S)
set_option maxRecDepth 100000 in
set_option maxHeartbeats 4000000 in
theorem tb_X10_rise_156 {l : Launch} {G : v_G} {N : Nat}    {r : Int32 × St}   : ∀ (n : Nat) (x1 : Int32) (x2 : Int32) (x3 : Int32) (x4 : Int32) (S : St),  f_X10_rise_b156 N n x1 x2 x3 x4 S = some r → V l G yX10_rise cX10_rise 6 (some .int) (v_rm 1 0 0) (QI r.1 (lay G r.2)) 0 0 156 [(0, .ref (v_B G + 291)), (1, .int x1), (2, .int x2), (3, .int x3), (4, .int x4)] [] (lay G S) := by
  intro n
  induction n with
  | zero =>
    intro x1 x2 x3 x4 S  hh
    rw [f_X10_rise_b156] at hh
    cases hh
  | succ n ih =>
    intro x1 x2 x3 x4 S  hh
    rw [f_X10_rise_b156] at hh
    refine v_iload 4 dX10_rise_156 rfl ?_
    refine v_iload_n 1 dX10_rise_158 rfl rfl ?_
    refine v_icmp_gt (tgt := 218) dX10_rise_159 (by decide) (fun c => ?_) (fun c => ?_)
    · replace hh := (if_pos c).symm.trans hh
      refine v_iload_n 3 dX10_rise_218 rfl rfl ?_
      obtain rfl := Option.some.inj hh
      exact v_iret dX10_rise_219 rfl (Nat.zero_le _) (Nat.zero_le _) ⟨rfl, rfl⟩
    · replace hh := (if_neg c).symm.trans hh
      refine v_iload_n 3 dX10_rise_162 rfl rfl ?_
      refine v_iconst dX10_rise_163 (by decide : _ = (1 : Int32)) ?_
      refine v_iadd dX10_rise_164 ?_
      refine v_istore dX10_rise_165 (by decide) rfl ?_
      replace hh := lt_of hh
      exact v_sub [1, 2, 3, 4, 5, 0] rfl (tb_X10_rise_167 (fun _ _ _ _ _ hh => ih _ _ _ _ _ hh) N _ _ _ _ _ _ hh)
def f_X10_rise_b137 (N : Nat) : Nat → Int32 → Int32 → Int32 → St → Option (Int32 × St)
  | 0, _, _, _, _ => none
  | n + 1, x1, x2, x3, S =>
  chk (inb x3 12) (
  if (gI S 1026 0 x3.toNatClampNeg) = x2 then
  (f_X10_rise_b156 N N x1 x2 x3 (1 : Int32) S)
  else
  (lt (x3 + (1 : Int32)) fun v10 =>
  f_X10_rise_b137 N n x1 x2 v10 S))
set_option maxRecDepth 100000 in
set_option maxHeartbeats 4000000 in
theorem tb_X10_rise_137 {l : Launch} {G : v_G} {N : Nat}    {r : Int32 × St}   : ∀ (n : Nat) (x1 : Int32) (x2 : Int32) (x3 : Int32) (S : St),  f_X10_rise_b137 N n x1 x2 x3 S = some r → V l G yX10_rise cX10_rise 6 (some .int) (v_rm 1 0 0) (QI r.1 (lay G r.2)) 0 0 137 [(0, .ref (v_B G + 291)), (1, .int x1), (2, .int x2), (3, .int x3)] [] (lay G S) := by
  intro n
  induction n with
  | zero =>
    intro x1 x2 x3 S  hh
    rw [f_X10_rise_b137] at hh
    cases hh
  | succ n ih =>
    intro x1 x2 x3 S  hh
    rw [f_X10_rise_b137] at hh
    refine v_aload_n 0 dX10_rise_137 rfl rfl ?_
    refine r_Model_rises dX10_rise_138 fl_X10_50 ?_
    refine v_iload_n 3 dX10_rise_141 rfl rfl ?_
    obtain ⟨g2, hh⟩ := chk_some hh
    replace g2 := inb_in g2
    refine ld_rises dX10_rise_142 g2 ?_
    refine v_iload_n 2 dX10_rise_143 rfl rfl ?_
    refine v_icmp_eq (tgt := 153) dX10_rise_144 (by decide) (fun c => ?_) (fun c => ?_)
    · replace hh := (if_pos c).symm.trans hh
      refine v_iconst dX10_rise_153 (by decide : _ = (1 : Int32)) ?_
      refine v_istore dX10_rise_154 (by decide) rfl ?_
      exact v_sub [1, 2, 3, 4, 0] rfl (tb_X10_rise_156 N _ _ _ _ _ hh)
    · replace hh := (if_neg c).symm.trans hh
      refine v_iinc (v := _ + (1 : Int32)) 3 dX10_rise_147 rfl rfl (by decide) rfl ?_
      replace hh := lt_of hh
      refine v_goto (tgt := 137) dX10_rise_150 (by decide) ?_
      exact v_sub [1, 2, 3, 0] rfl (ih _ _ _ _ hh)
def f_X10_rise_b21 (rec5 : (Int32 → Int32 → Int32 → St → Option (Int32 × St))) (N : Nat) : Nat → Int32 → Int32 → Int32 → Int32 → St → Option (Int32 × St)
  | 0, _, _, _, _, _ => none
  | n + 1, x1, x2, x3, x4, S =>
  if (12 : Int32) ≤ x4 then
  (chk (inb x3 12) (
  if (gI S 1026 0 x3.toNatClampNeg) ≤ x2 then
  (lt (x3 + (-1 : Int32)) fun v15 =>
  rec5 x1 x2 v15 S)
  else
  (chk (inb x3 12) (
  lt (gI S 1026 0 x3.toNatClampNeg) fun v17 =>
  lt (x3 + (-1 : Int32)) fun v18 =>
  rec5 x1 v17 v18 S))))
  else
  (chk (inb ((11 : Int32) + x4) 3015) (
  chk (inb ((11 : Int32) + x3) 3015) (
  if (gI S 1000 0 ((11 : Int32) + x4).toNatClampNeg) ≤ (gI S 1000 0 ((11 : Int32) + x3).toNatClampNeg) then
  (lt (x4 + (1 : Int32)) fun v21 =>
  f_X10_rise_b21 rec5 N n x1 x2 x3 v21 S)
  else
  (chk (inb x4 12) (
  chk (inb x3 12) (
  if (gI S 1026 0 x4.toNatClampNeg) < (gI S 1026 0 x3.toNatClampNeg) then
  (lt (x4 + (1 : Int32)) fun v24 =>
  f_X10_rise_b21 rec5 N n x1 x2 x3 v24 S)
  else
  (chk (inb x4 12) (
  chk (inb x3 12) (
  lt (sI S 1026 0 x3.toNatClampNeg ((gI S 1026 0 x4.toNatClampNeg) + (1 : Int32))) fun S27 =>
  lt (x4 + (1 : Int32)) fun v28 =>
  f_X10_rise_b21 rec5 N n x1 x2 x3 v28 S27)))))))))
set_option maxRecDepth 100000 in
set_option maxHeartbeats 4000000 in
theorem tb_X10_rise_21 {l : Launch} {G : v_G} {N : Nat}    {r : Int32 × St} {rec5 : (Int32 → Int32 → Int32 → St → Option (Int32 × St))} (hrec5 : ∀ (x1 : Int32) (x2 : Int32) (x3 : Int32) (S : St),  rec5 x1 x2 x3 S = some r → V l G yX10_rise cX10_rise 6 (some .int) (v_rm 1 0 0) (QI r.1 (lay G r.2)) 0 0 5 [(0, .ref (v_B G + 291)), (1, .int x1), (2, .int x2), (3, .int x3)] [] (lay G S)) : ∀ (n : Nat) (x1 : Int32) (x2 : Int32) (x3 : Int32) (x4 : Int32) (S : St),  f_X10_rise_b21 rec5 N n x1 x2 x3 x4 S = some r → V l G yX10_rise cX10_rise 6 (some .int) (v_rm 1 0 0) (QI r.1 (lay G r.2)) 0 0 21 [(0, .ref (v_B G + 291)), (1, .int x1), (2, .int x2), (3, .int x3), (4, .int x4)] [] (lay G S) := by
  intro n
  induction n with
  | zero =>
    intro x1 x2 x3 x4 S  hh
    rw [f_X10_rise_b21] at hh
    cases hh
  | succ n ih =>
    intro x1 x2 x3 x4 S  hh
    rw [f_X10_rise_b21] at hh
    refine v_iload 4 dX10_rise_21 rfl ?_
    refine v_bipush dX10_rise_23 (by decide : _ = (12 : Int32)) ?_
    refine v_icmp_ge (tgt := 87) dX10_rise_25 (by decide) (fun c => ?_) (fun c => ?_)
    · replace hh := (if_pos c).symm.trans hh
      refine v_aload_n 0 dX10_rise_87 rfl rfl ?_
      refine r_Model_rises dX10_rise_88 fl_X10_50 ?_
      refine v_iload_n 3 dX10_rise_91 rfl rfl ?_
      obtain ⟨g14, hh⟩ := chk_some hh
      replace g14 := inb_in g14
      refine ld_rises dX10_rise_92 g14 ?_
      refine v_iload_n 2 dX10_rise_93 rfl rfl ?_
      refine v_icmp_le (tgt := 106) dX10_rise_94 (by decide) (fun c => ?_) (fun c => ?_)
      · replace hh := (if_pos c).symm.trans hh
        refine v_iload_n 2 dX10_rise_106 rfl rfl ?_
        refine v_istore_n dX10_rise_107 rfl (by decide) rfl ?_
        refine v_iinc (v := _ + (-1 : Int32)) 3 dX10_rise_108 rfl rfl (by decide) rfl ?_
        replace hh := lt_of hh
        refine v_goto (tgt := 5) dX10_rise_111 (by decide) ?_
        exact v_sub [2, 3, 1, 0] rfl (hrec5 _ _ _ _ hh)
      · replace hh := (if_neg c).symm.trans hh
        refine v_aload_n 0 dX10_rise_97 rfl rfl ?_
        refine r_Model_rises dX10_rise_98 fl_X10_50 ?_
        refine v_iload_n 3 dX10_rise_101 rfl rfl ?_
        obtain ⟨g16, hh⟩ := chk_some hh
        replace g16 := inb_in g16
        refine ld_rises dX10_rise_102 g16 ?_
        refine v_goto (tgt := 107) dX10_rise_103 (by decide) ?_
        refine v_istore_n dX10_rise_107 rfl (by decide) rfl ?_
        replace hh := lt_of hh
        refine v_iinc (v := _ + (-1 : Int32)) 3 dX10_rise_108 rfl rfl (by decide) rfl ?_
        replace hh := lt_of hh
        refine v_goto (tgt := 5) dX10_rise_111 (by decide) ?_
        exact v_sub [2, 3, 1, 0] rfl (hrec5 _ _ _ _ hh)
    · replace hh := (if_neg c).symm.trans hh
      refine v_aload_n 0 dX10_rise_28 rfl rfl ?_
      refine r_Model_a dX10_rise_29 fl_X10_7 ?_
      refine v_bipush dX10_rise_32 (by decide : _ = (11 : Int32)) ?_
      refine v_iload 4 dX10_rise_34 rfl ?_
      refine v_iadd dX10_rise_36 ?_
      obtain ⟨g19, hh⟩ := chk_some hh
      replace g19 := inb_in g19
      refine ld_ma dX10_rise_37 g19 ?_
      refine v_aload_n 0 dX10_rise_38 rfl rfl ?_
      refine r_Model_a dX10_rise_39 fl_X10_7 ?_
      refine v_bipush dX10_rise_42 (by decide : _ = (11 : Int32)) ?_
      refine v_iload_n 3 dX10_rise_44 rfl rfl ?_
      refine v_iadd dX10_rise_45 ?_
      obtain ⟨g20, hh⟩ := chk_some hh
      replace g20 := inb_in g20
      refine ld_ma dX10_rise_46 g20 ?_
      refine v_icmp_le (tgt := 81) dX10_rise_47 (by decide) (fun c => ?_) (fun c => ?_)
      · replace hh := (if_pos c).symm.trans hh
        refine v_iinc (v := _ + (1 : Int32)) 4 dX10_rise_81 rfl rfl (by decide) rfl ?_
        replace hh := lt_of hh
        refine v_goto (tgt := 21) dX10_rise_84 (by decide) ?_
        exact v_sub [1, 2, 3, 4, 0] rfl (ih _ _ _ _ _ hh)
      · replace hh := (if_neg c).symm.trans hh
        refine v_aload_n 0 dX10_rise_50 rfl rfl ?_
        refine r_Model_rises dX10_rise_51 fl_X10_50 ?_
        refine v_iload 4 dX10_rise_54 rfl ?_
        obtain ⟨g22, hh⟩ := chk_some hh
        replace g22 := inb_in g22
        refine ld_rises dX10_rise_56 g22 ?_
        refine v_aload_n 0 dX10_rise_57 rfl rfl ?_
        refine r_Model_rises dX10_rise_58 fl_X10_50 ?_
        refine v_iload_n 3 dX10_rise_61 rfl rfl ?_
        obtain ⟨g23, hh⟩ := chk_some hh
        replace g23 := inb_in g23
        refine ld_rises dX10_rise_62 g23 ?_
        refine v_icmp_lt (tgt := 81) dX10_rise_63 (by decide) (fun c => ?_) (fun c => ?_)
        · replace hh := (if_pos c).symm.trans hh
          refine v_iinc (v := _ + (1 : Int32)) 4 dX10_rise_81 rfl rfl (by decide) rfl ?_
          replace hh := lt_of hh
          refine v_goto (tgt := 21) dX10_rise_84 (by decide) ?_
          exact v_sub [1, 2, 3, 4, 0] rfl (ih _ _ _ _ _ hh)
        · replace hh := (if_neg c).symm.trans hh
          refine v_aload_n 0 dX10_rise_66 rfl rfl ?_
          refine r_Model_rises dX10_rise_67 fl_X10_50 ?_
          refine v_iload_n 3 dX10_rise_70 rfl rfl ?_
          refine v_aload_n 0 dX10_rise_71 rfl rfl ?_
          refine r_Model_rises dX10_rise_72 fl_X10_50 ?_
          refine v_iload 4 dX10_rise_75 rfl ?_
          obtain ⟨g25, hh⟩ := chk_some hh
          replace g25 := inb_in g25
          refine ld_rises dX10_rise_77 g25 ?_
          refine v_iconst dX10_rise_78 (by decide : _ = (1 : Int32)) ?_
          refine v_iadd dX10_rise_79 ?_
          obtain ⟨g26, hh⟩ := chk_some hh
          replace g26 := inb_in g26
          refine st_rises dX10_rise_80 g26 ?_
          replace hh := lt_of hh
          refine v_iinc (v := _ + (1 : Int32)) 4 dX10_rise_81 rfl rfl (by decide) rfl ?_
          replace hh := lt_of hh
          refine v_goto (tgt := 21) dX10_rise_84 (by decide) ?_
          exact v_sub [1, 2, 3, 4, 0] rfl (ih _ _ _ _ _ hh)
def f_X10_rise_b5 (N : Nat) : Nat → Int32 → Int32 → Int32 → St → Option (Int32 × St)
  | 0, _, _, _, _ => none
  | n + 1, x1, x2, x3, S =>
  if x3 < (0 : Int32) then
  (if x1 = (-1 : Int32) then
  (some (x2, S))
  else
  (bnd (f_X10_isIn S x1 (0 : Int32) (x2 - (1 : Int32))) fun q1 =>
 if q1 = (0 : Int32) then
  (some ((-2 : Int32), S))
  else
  (f_X10_rise_b137 N N x1 x2 (0 : Int32) S)))
  else
  (chk (inb x3 12) (
  lt (sI S 1026 0 x3.toNatClampNeg (1 : Int32)) fun S12 =>
  lt (x3 + (1 : Int32)) fun v13 =>
  f_X10_rise_b21 (f_X10_rise_b5 N n) N N x1 x2 x3 v13 S12))
set_option maxRecDepth 100000 in
set_option maxHeartbeats 4000000 in
theorem tb_X10_rise_5 {l : Launch} {G : v_G} {N : Nat}    {r : Int32 × St}   : ∀ (n : Nat) (x1 : Int32) (x2 : Int32) (x3 : Int32) (S : St),  f_X10_rise_b5 N n x1 x2 x3 S = some r → V l G yX10_rise cX10_rise 6 (some .int) (v_rm 1 0 0) (QI r.1 (lay G r.2)) 0 0 5 [(0, .ref (v_B G + 291)), (1, .int x1), (2, .int x2), (3, .int x3)] [] (lay G S) := by
  intro n
  induction n with
  | zero =>
    intro x1 x2 x3 S  hh
    rw [f_X10_rise_b5] at hh
    cases hh
  | succ n ih =>
    intro x1 x2 x3 S  hh
    rw [f_X10_rise_b5] at hh
    refine v_iload_n 3 dX10_rise_5 rfl rfl ?_
    refine v_if_lt (tgt := 114) dX10_rise_6 (by decide) (fun c => ?_) (fun c => ?_)
    · replace hh := (if_pos c).symm.trans hh
      refine v_iload_n 1 dX10_rise_114 rfl rfl ?_
      refine v_iconst dX10_rise_115 (by decide : _ = (-1 : Int32)) ?_
      refine v_icmp_ne (tgt := 121) dX10_rise_116 (by decide) (fun c => ?_) (fun c => ?_)
      · replace hh := (if_neg c).symm.trans hh
        refine v_iload_n 1 dX10_rise_121 rfl rfl ?_
        refine v_iconst dX10_rise_122 (by decide : _ = (0 : Int32)) ?_
        refine v_iload_n 2 dX10_rise_123 rfl rfl ?_
        refine v_iconst dX10_rise_124 (by decide : _ = (1 : Int32)) ?_
        refine v_isub dX10_rise_125 ?_
        obtain ⟨q1, eq1, hh⟩ := bnd_some hh
        refine v_callSi (t_X10_isIn eq1) dX10_rise_126 y_X10_isIn ml_X10_63 rfl rfl (Nat.le_of_ble_eq_true rfl) ⟨(Nat.le_of_ble_eq_true rfl), (Nat.le_of_ble_eq_true rfl)⟩ ⟨Nat.zero_le _, Nat.zero_le _⟩ ?_
        refine v_if_ne (tgt := 135) dX10_rise_129 (by decide) (fun c => ?_) (fun c => ?_)
        · replace hh := (if_neg c).symm.trans hh
          refine v_iconst dX10_rise_135 (by decide : _ = (0 : Int32)) ?_
          refine v_istore_n dX10_rise_136 rfl (by decide) rfl ?_
          exact v_sub [1, 2, 3, 0] rfl (tb_X10_rise_137 N _ _ _ _ hh)
        · replace hh := (if_pos c).symm.trans hh
          refine v_bipush dX10_rise_132 (by decide : _ = (-2 : Int32)) ?_
          obtain rfl := Option.some.inj hh
          exact v_iret dX10_rise_134 rfl (Nat.zero_le _) (Nat.zero_le _) ⟨rfl, rfl⟩
      · replace hh := (if_pos c).symm.trans hh
        refine v_iload_n 2 dX10_rise_119 rfl rfl ?_
        obtain rfl := Option.some.inj hh
        exact v_iret dX10_rise_120 rfl (Nat.zero_le _) (Nat.zero_le _) ⟨rfl, rfl⟩
    · replace hh := (if_neg c).symm.trans hh
      refine v_aload_n 0 dX10_rise_9 rfl rfl ?_
      refine r_Model_rises dX10_rise_10 fl_X10_50 ?_
      refine v_iload_n 3 dX10_rise_13 rfl rfl ?_
      refine v_iconst dX10_rise_14 (by decide : _ = (1 : Int32)) ?_
      obtain ⟨g11, hh⟩ := chk_some hh
      replace g11 := inb_in g11
      refine st_rises dX10_rise_15 g11 ?_
      replace hh := lt_of hh
      refine v_iload_n 3 dX10_rise_16 rfl rfl ?_
      refine v_iconst dX10_rise_17 (by decide : _ = (1 : Int32)) ?_
      refine v_iadd dX10_rise_18 ?_
      refine v_istore dX10_rise_19 (by decide) rfl ?_
      replace hh := lt_of hh
      exact v_sub [1, 2, 3, 4, 0] rfl (tb_X10_rise_21 (fun _ _ _ _ hh => ih _ _ _ _ hh) N _ _ _ _ _ hh)
def f_X10_rise (N : Nat) (S : St) (x1 : Int32) : Option (Int32 × St) :=
  f_X10_rise_b5 N N x1 (0 : Int32) (11 : Int32) S
set_option maxRecDepth 100000 in
set_option maxHeartbeats 4000000 in
theorem t_X10_rise {l : Launch} {G : v_G} {N : Nat} {S : St}   {x1 : Int32} {r : Int32 × St} (hh : f_X10_rise N S x1 = some r) : v_M l G yX10_rise cX10_rise 6 (some .int) 1 0 0 [.ref (v_B G + 291), .int x1] (lay G S) (QI r.1 (lay G r.2)) := by
  refine v_entry (by decide) (Nat.le_of_ble_eq_true rfl) ?_
  unfold f_X10_rise at hh
  show V l G yX10_rise cX10_rise 6 (some .int) (v_rm 1 0 0) (QI r.1 (lay G r.2)) 0 0 0 [(0, .ref (v_B G + 291)), (1, .int x1)] [] (lay G S)
  refine v_iconst dX10_rise_0 (by decide : _ = (0 : Int32)) ?_
  refine v_istore_n dX10_rise_1 rfl (by decide) rfl ?_
  refine v_bipush dX10_rise_2 (by decide : _ = (11 : Int32)) ?_
  refine v_istore_n dX10_rise_4 rfl (by decide) rfl ?_
  exact v_sub [2, 3, 1, 0] rfl (tb_X10_rise_5 N _ _ _ _ hh)
def f_X10_folds_b14 (rec4 : (Int32 → Int32 → St → Option (Int32))) (N : Nat) : Nat → Int32 → Int32 → Int32 → St → Option (Int32)
  | 0, _, _, _, _ => none
  | n + 1, x1, x2, x3, S =>
  if (12 : Int32) ≤ x3 then
  (lt (x2 + (1 : Int32)) fun v2 =>
  rec4 x1 v2 S)
  else
  (chk (inb ((11 : Int32) + x2) 3015) (
  chk (inb ((11 : Int32) + x3) 3015) (
  if (gI S 1000 0 ((11 : Int32) + x2).toNatClampNeg) ≤ (gI S 1000 0 ((11 : Int32) + x3).toNatClampNeg) then
  (lt (x1 + (0 : Int32)) fun v5 =>
  lt (x3 + (1 : Int32)) fun v6 =>
  f_X10_folds_b14 rec4 N n v5 x2 v6 S)
  else
  (lt (x1 + (1 : Int32)) fun v7 =>
  lt (x3 + (1 : Int32)) fun v8 =>
  f_X10_folds_b14 rec4 N n v7 x2 v8 S))))
set_option maxRecDepth 100000 in
set_option maxHeartbeats 4000000 in
theorem tb_X10_folds_14 {l : Launch} {G : v_G} {N : Nat}    {r : Int32} {S0 : St} {rec4 : (Int32 → Int32 → St → Option (Int32))} (hrec4 : ∀ (x1 : Int32) (x2 : Int32) (S : St),  S = S0 → rec4 x1 x2 S = some r → V l G yX10_folds cX10_folds 4 (some .int) (v_rm 0 0 0) (QI r (lay G S0)) 0 0 4 [(0, .ref (v_B G + 291)), (1, .int x1), (2, .int x2)] [] (lay G S)) : ∀ (n : Nat) (x1 : Int32) (x2 : Int32) (x3 : Int32) (S : St),  S = S0 → f_X10_folds_b14 rec4 N n x1 x2 x3 S = some r → V l G yX10_folds cX10_folds 4 (some .int) (v_rm 0 0 0) (QI r (lay G S0)) 0 0 14 [(0, .ref (v_B G + 291)), (1, .int x1), (2, .int x2), (3, .int x3)] [] (lay G S) := by
  intro n
  induction n with
  | zero =>
    intro x1 x2 x3 S  hS0 hh
    rw [f_X10_folds_b14] at hh
    cases hh
  | succ n ih =>
    intro x1 x2 x3 S  hS0 hh
    rw [f_X10_folds_b14] at hh
    refine v_iload_n 3 dX10_folds_14 rfl rfl ?_
    refine v_bipush dX10_folds_15 (by decide : _ = (12 : Int32)) ?_
    refine v_icmp_ge (tgt := 55) dX10_folds_17 (by decide) (fun c => ?_) (fun c => ?_)
    · replace hh := (if_pos c).symm.trans hh
      refine v_iinc (v := _ + (1 : Int32)) 2 dX10_folds_55 rfl rfl (by decide) rfl ?_
      replace hh := lt_of hh
      refine v_goto (tgt := 4) dX10_folds_58 (by decide) ?_
      exact v_sub [1, 2, 0] rfl (hrec4 _ _ _ hS0 hh)
    · replace hh := (if_neg c).symm.trans hh
      refine v_iload_n 1 dX10_folds_20 rfl rfl ?_
      refine v_aload_n 0 dX10_folds_21 rfl rfl ?_
      refine r_Model_a dX10_folds_22 fl_X10_7 ?_
      refine v_bipush dX10_folds_25 (by decide : _ = (11 : Int32)) ?_
      refine v_iload_n 2 dX10_folds_27 rfl rfl ?_
      refine v_iadd dX10_folds_28 ?_
      obtain ⟨g3, hh⟩ := chk_some hh
      replace g3 := inb_in g3
      refine ld_ma dX10_folds_29 g3 ?_
      refine v_aload_n 0 dX10_folds_30 rfl rfl ?_
      refine r_Model_a dX10_folds_31 fl_X10_7 ?_
      refine v_bipush dX10_folds_34 (by decide : _ = (11 : Int32)) ?_
      refine v_iload_n 3 dX10_folds_36 rfl rfl ?_
      refine v_iadd dX10_folds_37 ?_
      obtain ⟨g4, hh⟩ := chk_some hh
      replace g4 := inb_in g4
      refine ld_ma dX10_folds_38 g4 ?_
      refine v_icmp_le (tgt := 46) dX10_folds_39 (by decide) (fun c => ?_) (fun c => ?_)
      · replace hh := (if_pos c).symm.trans hh
        refine v_iconst dX10_folds_46 (by decide : _ = (0 : Int32)) ?_
        refine v_iadd dX10_folds_47 ?_
        refine v_istore_n dX10_folds_48 rfl (by decide) rfl ?_
        replace hh := lt_of hh
        refine v_iinc (v := _ + (1 : Int32)) 3 dX10_folds_49 rfl rfl (by decide) rfl ?_
        replace hh := lt_of hh
        refine v_goto (tgt := 14) dX10_folds_52 (by decide) ?_
        exact v_sub [2, 1, 3, 0] rfl (ih _ _ _ _ hS0 hh)
      · replace hh := (if_neg c).symm.trans hh
        refine v_iconst dX10_folds_42 (by decide : _ = (1 : Int32)) ?_
        refine v_goto (tgt := 47) dX10_folds_43 (by decide) ?_
        refine v_iadd dX10_folds_47 ?_
        refine v_istore_n dX10_folds_48 rfl (by decide) rfl ?_
        replace hh := lt_of hh
        refine v_iinc (v := _ + (1 : Int32)) 3 dX10_folds_49 rfl rfl (by decide) rfl ?_
        replace hh := lt_of hh
        refine v_goto (tgt := 14) dX10_folds_52 (by decide) ?_
        exact v_sub [2, 1, 3, 0] rfl (ih _ _ _ _ hS0 hh)
def f_X10_folds_b4 (N : Nat) : Nat → Int32 → Int32 → St → Option (Int32)
  | 0, _, _, _ => none
  | n + 1, x1, x2, S =>
  if (12 : Int32) ≤ x2 then
  (some x1)
  else
  (lt (x2 + (1 : Int32)) fun v1 =>
  f_X10_folds_b14 (f_X10_folds_b4 N n) N N x1 x2 v1 S)
set_option maxRecDepth 100000 in
set_option maxHeartbeats 4000000 in
theorem tb_X10_folds_4 {l : Launch} {G : v_G} {N : Nat}    {r : Int32} {S0 : St}   : ∀ (n : Nat) (x1 : Int32) (x2 : Int32) (S : St),  S = S0 → f_X10_folds_b4 N n x1 x2 S = some r → V l G yX10_folds cX10_folds 4 (some .int) (v_rm 0 0 0) (QI r (lay G S0)) 0 0 4 [(0, .ref (v_B G + 291)), (1, .int x1), (2, .int x2)] [] (lay G S) := by
  intro n
  induction n with
  | zero =>
    intro x1 x2 S  hS0 hh
    rw [f_X10_folds_b4] at hh
    cases hh
  | succ n ih =>
    intro x1 x2 S  hS0 hh
    rw [f_X10_folds_b4] at hh
    refine v_iload_n 2 dX10_folds_4 rfl rfl ?_
    refine v_bipush dX10_folds_5 (by decide : _ = (12 : Int32)) ?_
    refine v_icmp_ge (tgt := 61) dX10_folds_7 (by decide) (fun c => ?_) (fun c => ?_)
    · replace hh := (if_pos c).symm.trans hh
      refine v_iload_n 1 dX10_folds_61 rfl rfl ?_
      obtain rfl := Option.some.inj hh
      exact v_iret dX10_folds_62 rfl (Nat.zero_le _) (Nat.zero_le _) ⟨rfl, by rw [hS0]⟩
    · replace hh := (if_neg c).symm.trans hh
      refine v_iload_n 2 dX10_folds_10 rfl rfl ?_
      refine v_iconst dX10_folds_11 (by decide : _ = (1 : Int32)) ?_
      refine v_iadd dX10_folds_12 ?_
      refine v_istore_n dX10_folds_13 rfl (by decide) rfl ?_
      replace hh := lt_of hh
      exact v_sub [1, 2, 3, 0] rfl (tb_X10_folds_14 (fun _ _ _ hS hh => ih _ _ _ hS hh) N _ _ _ _ hS0 hh)
def f_X10_folds (N : Nat) (S : St)  : Option (Int32) :=
  f_X10_folds_b4 N N (0 : Int32) (0 : Int32) S
set_option maxRecDepth 100000 in
set_option maxHeartbeats 4000000 in
theorem t_X10_folds {l : Launch} {G : v_G} {N : Nat} {S : St}    {r : Int32} (hh : f_X10_folds N S  = some r) : v_M l G yX10_folds cX10_folds 4 (some .int) 0 0 0 [.ref (v_B G + 291)] (lay G S) (QI r (lay G S)) := by
  refine v_entry (by decide) (Nat.le_of_ble_eq_true rfl) ?_
  unfold f_X10_folds at hh
  show V l G yX10_folds cX10_folds 4 (some .int) (v_rm 0 0 0) (QI r (lay G S)) 0 0 0 [(0, .ref (v_B G + 291))] [] (lay G S)
  refine v_iconst dX10_folds_0 (by decide : _ = (0 : Int32)) ?_
  refine v_istore_n dX10_folds_1 rfl (by decide) rfl ?_
  refine v_iconst dX10_folds_2 (by decide : _ = (0 : Int32)) ?_
  refine v_istore_n dX10_folds_3 rfl (by decide) rfl ?_
  exact v_sub [2, 1, 0] rfl (tb_X10_folds_4 N _ _ _ rfl hh)
def f_X10_peaks_b67 (rec4 : (Int32 → Int32 → St → Option (Int32))) (N : Nat) (x2 : Int32) (s0 : Int32) (S : St) : Option (Int32) :=
  lt (s0 ||| ((1 : Int32) <<< (x2 &&& 31))) fun v1 =>
  lt (x2 + (1 : Int32)) fun v2 =>
  rec4 v1 v2 S
set_option maxRecDepth 100000 in
set_option maxHeartbeats 4000000 in
theorem tb_X10_peaks_67 {l : Launch} {G : v_G} {N : Nat}    {r : Int32} {S0 : St} {rec4 : (Int32 → Int32 → St → Option (Int32))} (hrec4 : ∀ (x1 : Int32) (x2 : Int32) (S : St),  S = S0 → rec4 x1 x2 S = some r → V l G yX10_peaks cX10_peaks 3 (some .int) (v_rm 0 0 0) (QI r (lay G S0)) 0 0 4 [(0, .ref (v_B G + 291)), (1, .int x1), (2, .int x2)] [] (lay G S)) : ∀ (x2 : Int32) (s0 : Int32) (S : St),  S = S0 → f_X10_peaks_b67 rec4 N x2 s0 S = some r → V l G yX10_peaks cX10_peaks 3 (some .int) (v_rm 0 0 0) (QI r (lay G S0)) 0 0 67 [(0, .ref (v_B G + 291)), (2, .int x2)] [.int s0] (lay G S) := by
  intro x2 s0 S  hS0 hh
  unfold f_X10_peaks_b67 at hh
  refine v_iconst dX10_peaks_67 (by decide : _ = (1 : Int32)) ?_
  refine v_iload_n 1 dX10_peaks_68 rfl rfl ?_
  refine v_ishl dX10_peaks_69 ?_
  refine v_goto (tgt := 74) dX10_peaks_70 (by decide) ?_
  refine v_ior dX10_peaks_74 ?_
  refine v_istore_n dX10_peaks_75 rfl (by decide) rfl ?_
  replace hh := lt_of hh
  refine v_iinc (v := _ + (1 : Int32)) 2 dX10_peaks_76 rfl rfl (by decide) rfl ?_
  replace hh := lt_of hh
  refine v_goto (tgt := 4) dX10_peaks_79 (by decide) ?_
  exact v_sub [2, 1, 0] rfl (hrec4 _ _ _ hS0 hh)
def f_X10_peaks_b38 (rec4 : (Int32 → Int32 → St → Option (Int32))) (N : Nat) (x2 : Int32) (s0 : Int32) (S : St) : Option (Int32) :=
  if x2 = (11 : Int32) then
  (f_X10_peaks_b67 rec4 N x2 s0 S)
  else
  (chk (inb ((11 : Int32) + x2) 3015) (
  chk (inb (((11 : Int32) + x2) + (1 : Int32)) 3015) (
  if (gI S 1000 0 ((11 : Int32) + x2).toNatClampNeg) ≤ (gI S 1000 0 (((11 : Int32) + x2) + (1 : Int32)).toNatClampNeg) then
  (lt (s0 ||| (0 : Int32)) fun v5 =>
  lt (x2 + (1 : Int32)) fun v6 =>
  rec4 v5 v6 S)
  else
  (f_X10_peaks_b67 rec4 N x2 s0 S))))
set_option maxRecDepth 100000 in
set_option maxHeartbeats 4000000 in
theorem tb_X10_peaks_38 {l : Launch} {G : v_G} {N : Nat}    {r : Int32} {S0 : St} {rec4 : (Int32 → Int32 → St → Option (Int32))} (hrec4 : ∀ (x1 : Int32) (x2 : Int32) (S : St),  S = S0 → rec4 x1 x2 S = some r → V l G yX10_peaks cX10_peaks 3 (some .int) (v_rm 0 0 0) (QI r (lay G S0)) 0 0 4 [(0, .ref (v_B G + 291)), (1, .int x1), (2, .int x2)] [] (lay G S)) : ∀ (x2 : Int32) (s0 : Int32) (S : St),  S = S0 → f_X10_peaks_b38 rec4 N x2 s0 S = some r → V l G yX10_peaks cX10_peaks 3 (some .int) (v_rm 0 0 0) (QI r (lay G S0)) 0 0 38 [(0, .ref (v_B G + 291)), (2, .int x2)] [.int s0] (lay G S) := by
  intro x2 s0 S  hS0 hh
  unfold f_X10_peaks_b38 at hh
  refine v_iload_n 1 dX10_peaks_38 rfl rfl ?_
  refine v_bipush dX10_peaks_39 (by decide : _ = (11 : Int32)) ?_
  refine v_icmp_eq (tgt := 67) dX10_peaks_41 (by decide) (fun c => ?_) (fun c => ?_)
  · replace hh := (if_pos c).symm.trans hh
    exact v_sub [0, 1] rfl (tb_X10_peaks_67 hrec4 _ _ _ hS0 hh)
  · replace hh := (if_neg c).symm.trans hh
    refine v_aload_n 0 dX10_peaks_44 rfl rfl ?_
    refine r_Model_a dX10_peaks_45 fl_X10_7 ?_
    refine v_bipush dX10_peaks_48 (by decide : _ = (11 : Int32)) ?_
    refine v_iload_n 1 dX10_peaks_50 rfl rfl ?_
    refine v_iadd dX10_peaks_51 ?_
    obtain ⟨g3, hh⟩ := chk_some hh
    replace g3 := inb_in g3
    refine ld_ma dX10_peaks_52 g3 ?_
    refine v_aload_n 0 dX10_peaks_53 rfl rfl ?_
    refine r_Model_a dX10_peaks_54 fl_X10_7 ?_
    refine v_bipush dX10_peaks_57 (by decide : _ = (11 : Int32)) ?_
    refine v_iload_n 1 dX10_peaks_59 rfl rfl ?_
    refine v_iadd dX10_peaks_60 ?_
    refine v_iconst dX10_peaks_61 (by decide : _ = (1 : Int32)) ?_
    refine v_iadd dX10_peaks_62 ?_
    obtain ⟨g4, hh⟩ := chk_some hh
    replace g4 := inb_in g4
    refine ld_ma dX10_peaks_63 g4 ?_
    refine v_icmp_le (tgt := 73) dX10_peaks_64 (by decide) (fun c => ?_) (fun c => ?_)
    · replace hh := (if_pos c).symm.trans hh
      refine v_iconst dX10_peaks_73 (by decide : _ = (0 : Int32)) ?_
      refine v_ior dX10_peaks_74 ?_
      refine v_istore_n dX10_peaks_75 rfl (by decide) rfl ?_
      replace hh := lt_of hh
      refine v_iinc (v := _ + (1 : Int32)) 2 dX10_peaks_76 rfl rfl (by decide) rfl ?_
      replace hh := lt_of hh
      refine v_goto (tgt := 4) dX10_peaks_79 (by decide) ?_
      exact v_sub [2, 1, 0] rfl (hrec4 _ _ _ hS0 hh)
    · replace hh := (if_neg c).symm.trans hh
      exact v_sub [0, 1] rfl (tb_X10_peaks_67 hrec4 _ _ _ hS0 hh)
def f_X10_peaks_b4 (N : Nat) : Nat → Int32 → Int32 → St → Option (Int32)
  | 0, _, _, _ => none
  | n + 1, x1, x2, S =>
  if (12 : Int32) ≤ x2 then
  (some x1)
  else
  (if x2 = (0 : Int32) then
  (f_X10_peaks_b38 (f_X10_peaks_b4 N n) N x2 x1 S)
  else
  (chk (inb ((11 : Int32) + x2) 3015) (
  chk (inb (((11 : Int32) + x2) - (1 : Int32)) 3015) (
  if (gI S 1000 0 ((11 : Int32) + x2).toNatClampNeg) ≤ (gI S 1000 0 (((11 : Int32) + x2) - (1 : Int32)).toNatClampNeg) then
  (lt (x1 ||| (0 : Int32)) fun v9 =>
  lt (x2 + (1 : Int32)) fun v10 =>
  f_X10_peaks_b4 N n v9 v10 S)
  else
  (f_X10_peaks_b38 (f_X10_peaks_b4 N n) N x2 x1 S)))))
set_option maxRecDepth 100000 in
set_option maxHeartbeats 4000000 in
theorem tb_X10_peaks_4 {l : Launch} {G : v_G} {N : Nat}    {r : Int32} {S0 : St}   : ∀ (n : Nat) (x1 : Int32) (x2 : Int32) (S : St),  S = S0 → f_X10_peaks_b4 N n x1 x2 S = some r → V l G yX10_peaks cX10_peaks 3 (some .int) (v_rm 0 0 0) (QI r (lay G S0)) 0 0 4 [(0, .ref (v_B G + 291)), (1, .int x1), (2, .int x2)] [] (lay G S) := by
  intro n
  induction n with
  | zero =>
    intro x1 x2 S  hS0 hh
    rw [f_X10_peaks_b4] at hh
    cases hh
  | succ n ih =>
    intro x1 x2 S  hS0 hh
    rw [f_X10_peaks_b4] at hh
    refine v_iload_n 2 dX10_peaks_4 rfl rfl ?_
    refine v_bipush dX10_peaks_5 (by decide : _ = (12 : Int32)) ?_
    refine v_icmp_ge (tgt := 82) dX10_peaks_7 (by decide) (fun c => ?_) (fun c => ?_)
    · replace hh := (if_pos c).symm.trans hh
      refine v_iload_n 1 dX10_peaks_82 rfl rfl ?_
      obtain rfl := Option.some.inj hh
      exact v_iret dX10_peaks_83 rfl (Nat.zero_le _) (Nat.zero_le _) ⟨rfl, by rw [hS0]⟩
    · replace hh := (if_neg c).symm.trans hh
      refine v_iload_n 1 dX10_peaks_10 rfl rfl ?_
      refine v_iload_n 2 dX10_peaks_11 rfl rfl ?_
      refine v_if_eq (tgt := 38) dX10_peaks_12 (by decide) (fun c => ?_) (fun c => ?_)
      · replace hh := (if_pos c).symm.trans hh
        exact v_sub [0, 2] rfl (tb_X10_peaks_38 (fun _ _ _ hS hh => ih _ _ _ hS hh) _ _ _ hS0 hh)
      · replace hh := (if_neg c).symm.trans hh
        refine v_aload_n 0 dX10_peaks_15 rfl rfl ?_
        refine r_Model_a dX10_peaks_16 fl_X10_7 ?_
        refine v_bipush dX10_peaks_19 (by decide : _ = (11 : Int32)) ?_
        refine v_iload_n 2 dX10_peaks_21 rfl rfl ?_
        refine v_iadd dX10_peaks_22 ?_
        obtain ⟨g7, hh⟩ := chk_some hh
        replace g7 := inb_in g7
        refine ld_ma dX10_peaks_23 g7 ?_
        refine v_aload_n 0 dX10_peaks_24 rfl rfl ?_
        refine r_Model_a dX10_peaks_25 fl_X10_7 ?_
        refine v_bipush dX10_peaks_28 (by decide : _ = (11 : Int32)) ?_
        refine v_iload_n 2 dX10_peaks_30 rfl rfl ?_
        refine v_iadd dX10_peaks_31 ?_
        refine v_iconst dX10_peaks_32 (by decide : _ = (1 : Int32)) ?_
        refine v_isub dX10_peaks_33 ?_
        obtain ⟨g8, hh⟩ := chk_some hh
        replace g8 := inb_in g8
        refine ld_ma dX10_peaks_34 g8 ?_
        refine v_icmp_le (tgt := 73) dX10_peaks_35 (by decide) (fun c => ?_) (fun c => ?_)
        · replace hh := (if_pos c).symm.trans hh
          refine v_iconst dX10_peaks_73 (by decide : _ = (0 : Int32)) ?_
          refine v_ior dX10_peaks_74 ?_
          refine v_istore_n dX10_peaks_75 rfl (by decide) rfl ?_
          replace hh := lt_of hh
          refine v_iinc (v := _ + (1 : Int32)) 2 dX10_peaks_76 rfl rfl (by decide) rfl ?_
          replace hh := lt_of hh
          refine v_goto (tgt := 4) dX10_peaks_79 (by decide) ?_
          exact v_sub [2, 1, 0] rfl (ih _ _ _ hS0 hh)
        · replace hh := (if_neg c).symm.trans hh
          exact v_sub [0, 2] rfl (tb_X10_peaks_38 (fun _ _ _ hS hh => ih _ _ _ hS hh) _ _ _ hS0 hh)
def f_X10_peaks (N : Nat) (S : St)  : Option (Int32) :=
  f_X10_peaks_b4 N N (0 : Int32) (0 : Int32) S
set_option maxRecDepth 100000 in
set_option maxHeartbeats 4000000 in
theorem t_X10_peaks {l : Launch} {G : v_G} {N : Nat} {S : St}    {r : Int32} (hh : f_X10_peaks N S  = some r) : v_M l G yX10_peaks cX10_peaks 3 (some .int) 0 0 0 [.ref (v_B G + 291)] (lay G S) (QI r (lay G S)) := by
  refine v_entry (by decide) (Nat.le_of_ble_eq_true rfl) ?_
  unfold f_X10_peaks at hh
  show V l G yX10_peaks cX10_peaks 3 (some .int) (v_rm 0 0 0) (QI r (lay G S)) 0 0 0 [(0, .ref (v_B G + 291))] [] (lay G S)
  refine v_iconst dX10_peaks_0 (by decide : _ = (0 : Int32)) ?_
  refine v_istore_n dX10_peaks_1 rfl (by decide) rfl ?_
  refine v_iconst dX10_peaks_2 (by decide : _ = (0 : Int32)) ?_
  refine v_istore_n dX10_peaks_3 rfl (by decide) rfl ?_
  exact v_sub [2, 1, 0] rfl (tb_X10_peaks_4 N _ _ _ rfl hh)
def f_X10_richest_b16 (N : Nat) : Nat → Int32 → Int32 → Int32 → St → Option (Int32)
  | 0, _, _, _, _ => none
  | n + 1, x1, x2, x3, S =>
  if (12 : Int32) < (x3 + x1) then
  (some x2)
  else
  (bnd (f_X10_doughOf N S x3 x1) fun q2 =>
 bnd (f_X10_doughOf N S x2 x1) fun q3 =>
 if q2 ≤ q3 then
  (lt (x3 + (1 : Int32)) fun v4 =>
  f_X10_richest_b16 N n x1 x2 v4 S)
  else
  (lt (x3 + (1 : Int32)) fun v5 =>
  f_X10_richest_b16 N n x1 x3 v5 S))
set_option maxRecDepth 100000 in
set_option maxHeartbeats 4000000 in
theorem tb_X10_richest_16 {l : Launch} {G : v_G} {N : Nat}    {r : Int32} {S0 : St}   : ∀ (n : Nat) (x1 : Int32) (x2 : Int32) (x3 : Int32) (S : St),  S = S0 → f_X10_richest_b16 N n x1 x2 x3 S = some r → V l G yX10_richest cX10_richest 4 (some .int) (v_rm 1 0 0) (QI r (lay G S0)) 0 0 16 [(0, .ref (v_B G + 291)), (1, .int x1), (2, .int x2), (3, .int x3)] [] (lay G S) := by
  intro n
  induction n with
  | zero =>
    intro x1 x2 x3 S  hS0 hh
    rw [f_X10_richest_b16] at hh
    cases hh
  | succ n ih =>
    intro x1 x2 x3 S  hS0 hh
    rw [f_X10_richest_b16] at hh
    refine v_iload_n 3 dX10_richest_16 rfl rfl ?_
    refine v_iload_n 1 dX10_richest_17 rfl rfl ?_
    refine v_iadd dX10_richest_18 ?_
    refine v_bipush dX10_richest_19 (by decide : _ = (12 : Int32)) ?_
    refine v_icmp_gt (tgt := 47) dX10_richest_21 (by decide) (fun c => ?_) (fun c => ?_)
    · replace hh := (if_pos c).symm.trans hh
      refine v_iload_n 2 dX10_richest_47 rfl rfl ?_
      obtain rfl := Option.some.inj hh
      exact v_iret dX10_richest_48 rfl (Nat.zero_le _) (Nat.zero_le _) ⟨rfl, by rw [hS0]⟩
    · replace hh := (if_neg c).symm.trans hh
      refine v_aload_n 0 dX10_richest_24 rfl rfl ?_
      refine v_iload_n 3 dX10_richest_25 rfl rfl ?_
      refine v_iload_n 1 dX10_richest_26 rfl rfl ?_
      obtain ⟨q2, eq2, hh⟩ := bnd_some hh
      refine v_callVi (t_X10_doughOf eq2) dX10_richest_27 y_X10_doughOf ml_X10_365 (ci := 9) rfl rfl (e_Model) rfl rfl (Nat.le_of_ble_eq_true rfl) ⟨(Nat.le_of_ble_eq_true rfl), (Nat.le_of_ble_eq_true rfl)⟩ ⟨Nat.zero_le _, Nat.zero_le _⟩ ?_
      refine v_aload_n 0 dX10_richest_30 rfl rfl ?_
      refine v_iload_n 2 dX10_richest_31 rfl rfl ?_
      refine v_iload_n 1 dX10_richest_32 rfl rfl ?_
      obtain ⟨q3, eq3, hh⟩ := bnd_some hh
      refine v_callVi (t_X10_doughOf eq3) dX10_richest_33 y_X10_doughOf ml_X10_365 (ci := 9) rfl rfl (e_Model) rfl rfl (Nat.le_of_ble_eq_true rfl) ⟨(Nat.le_of_ble_eq_true rfl), (Nat.le_of_ble_eq_true rfl)⟩ ⟨Nat.zero_le _, Nat.zero_le _⟩ ?_
      refine v_icmp_le (tgt := 41) dX10_richest_36 (by decide) (fun c => ?_) (fun c => ?_)
      · replace hh := (if_pos c).symm.trans hh
        refine v_iinc (v := _ + (1 : Int32)) 3 dX10_richest_41 rfl rfl (by decide) rfl ?_
        replace hh := lt_of hh
        refine v_goto (tgt := 16) dX10_richest_44 (by decide) ?_
        exact v_sub [1, 2, 3, 0] rfl (ih _ _ _ _ hS0 hh)
      · replace hh := (if_neg c).symm.trans hh
        refine v_iload_n 3 dX10_richest_39 rfl rfl ?_
        refine v_istore_n dX10_richest_40 rfl (by decide) rfl ?_
        refine v_iinc (v := _ + (1 : Int32)) 3 dX10_richest_41 rfl rfl (by decide) rfl ?_
        replace hh := lt_of hh
        refine v_goto (tgt := 16) dX10_richest_44 (by decide) ?_
        exact v_sub [2, 3, 1, 0] rfl (ih _ _ _ _ hS0 hh)
def f_X10_richest (N : Nat) (S : St) (x1 : Int32) : Option (Int32) :=
  bnd (f_X10_isIn S x1 (1 : Int32) (12 : Int32)) fun q1 =>
 if q1 = (0 : Int32) then
  (some (-1 : Int32))
  else
  (f_X10_richest_b16 N N x1 (0 : Int32) (1 : Int32) S)
set_option maxRecDepth 100000 in
set_option maxHeartbeats 4000000 in
theorem t_X10_richest {l : Launch} {G : v_G} {N : Nat} {S : St}   {x1 : Int32} {r : Int32} (hh : f_X10_richest N S x1 = some r) : v_M l G yX10_richest cX10_richest 4 (some .int) 1 0 0 [.ref (v_B G + 291), .int x1] (lay G S) (QI r (lay G S)) := by
  refine v_entry (by decide) (Nat.le_of_ble_eq_true rfl) ?_
  unfold f_X10_richest at hh
  show V l G yX10_richest cX10_richest 4 (some .int) (v_rm 1 0 0) (QI r (lay G S)) 0 0 0 [(0, .ref (v_B G + 291)), (1, .int x1)] [] (lay G S)
  refine v_iload_n 1 dX10_richest_0 rfl rfl ?_
  refine v_iconst dX10_richest_1 (by decide : _ = (1 : Int32)) ?_
  refine v_bipush dX10_richest_2 (by decide : _ = (12 : Int32)) ?_
  obtain ⟨q1, eq1, hh⟩ := bnd_some hh
  refine v_callSi (t_X10_isIn eq1) dX10_richest_4 y_X10_isIn ml_X10_63 rfl rfl (Nat.le_of_ble_eq_true rfl) ⟨(Nat.le_of_ble_eq_true rfl), (Nat.le_of_ble_eq_true rfl)⟩ ⟨Nat.zero_le _, Nat.zero_le _⟩ ?_
  refine v_if_ne (tgt := 12) dX10_richest_7 (by decide) (fun c => ?_) (fun c => ?_)
  · replace hh := (if_neg c).symm.trans hh
    refine v_iconst dX10_richest_12 (by decide : _ = (0 : Int32)) ?_
    refine v_istore_n dX10_richest_13 rfl (by decide) rfl ?_
    refine v_iconst dX10_richest_14 (by decide : _ = (1 : Int32)) ?_
    refine v_istore_n dX10_richest_15 rfl (by decide) rfl ?_
    exact v_sub [2, 3, 1, 0] rfl (tb_X10_richest_16 N _ _ _ _ rfl hh)
  · replace hh := (if_pos c).symm.trans hh
    refine v_iconst dX10_richest_10 (by decide : _ = (-1 : Int32)) ?_
    obtain rfl := Option.some.inj hh
    exact v_iret dX10_richest_11 rfl (Nat.zero_le _) (Nat.zero_le _) ⟨rfl, rfl⟩
def f_X10_islands_b17 (N : Nat) : Nat → Int32 → Int32 → Int32 → St → Option (Int32)
  | 0, _, _, _, _ => none
  | n + 1, x1, x2, x3, S =>
  if (12 : Int32) ≤ x3 then
  (some x2)
  else
  (chk (inb ((11 : Int32) + x3) 3015) (
  if (gI S 1000 0 ((11 : Int32) + x3).toNatClampNeg) ≤ x1 then
  (lt (x2 + (0 : Int32)) fun v3 =>
  lt (x3 + (1 : Int32)) fun v4 =>
  f_X10_islands_b17 N n x1 v3 v4 S)
  else
  (if x3 = (0 : Int32) then
  (lt (x2 + (1 : Int32)) fun v5 =>
  lt (x3 + (1 : Int32)) fun v6 =>
  f_X10_islands_b17 N n x1 v5 v6 S)
  else
  (chk (inb (((11 : Int32) + x3) - (1 : Int32)) 3015) (
  if x1 < (gI S 1000 0 (((11 : Int32) + x3) - (1 : Int32)).toNatClampNeg) then
  (lt (x2 + (0 : Int32)) fun v8 =>
  lt (x3 + (1 : Int32)) fun v9 =>
  f_X10_islands_b17 N n x1 v8 v9 S)
  else
  (lt (x2 + (1 : Int32)) fun v10 =>
  lt (x3 + (1 : Int32)) fun v11 =>
  f_X10_islands_b17 N n x1 v10 v11 S))))))
set_option maxRecDepth 100000 in
set_option maxHeartbeats 4000000 in
theorem tb_X10_islands_17 {l : Launch} {G : v_G} {N : Nat}    {r : Int32} {S0 : St}   : ∀ (n : Nat) (x1 : Int32) (x2 : Int32) (x3 : Int32) (S : St),  S = S0 → f_X10_islands_b17 N n x1 x2 x3 S = some r → V l G yX10_islands cX10_islands 4 (some .int) (v_rm 1 0 0) (QI r (lay G S0)) 0 0 17 [(0, .ref (v_B G + 291)), (1, .int x1), (2, .int x2), (3, .int x3)] [] (lay G S) := by
  intro n
  induction n with
  | zero =>
    intro x1 x2 x3 S  hS0 hh
    rw [f_X10_islands_b17] at hh
    cases hh
  | succ n ih =>
    intro x1 x2 x3 S  hS0 hh
    rw [f_X10_islands_b17] at hh
    refine v_iload_n 3 dX10_islands_17 rfl rfl ?_
    refine v_bipush dX10_islands_18 (by decide : _ = (12 : Int32)) ?_
    refine v_icmp_ge (tgt := 69) dX10_islands_20 (by decide) (fun c => ?_) (fun c => ?_)
    · replace hh := (if_pos c).symm.trans hh
      refine v_iload_n 2 dX10_islands_69 rfl rfl ?_
      obtain rfl := Option.some.inj hh
      exact v_iret dX10_islands_70 rfl (Nat.zero_le _) (Nat.zero_le _) ⟨rfl, by rw [hS0]⟩
    · replace hh := (if_neg c).symm.trans hh
      refine v_iload_n 2 dX10_islands_23 rfl rfl ?_
      refine v_aload_n 0 dX10_islands_24 rfl rfl ?_
      refine r_Model_a dX10_islands_25 fl_X10_7 ?_
      refine v_bipush dX10_islands_28 (by decide : _ = (11 : Int32)) ?_
      refine v_iload_n 3 dX10_islands_30 rfl rfl ?_
      refine v_iadd dX10_islands_31 ?_
      obtain ⟨g2, hh⟩ := chk_some hh
      replace g2 := inb_in g2
      refine ld_ma dX10_islands_32 g2 ?_
      refine v_iload_n 1 dX10_islands_33 rfl rfl ?_
      refine v_icmp_le (tgt := 60) dX10_islands_34 (by decide) (fun c => ?_) (fun c => ?_)
      · replace hh := (if_pos c).symm.trans hh
        refine v_iconst dX10_islands_60 (by decide : _ = (0 : Int32)) ?_
        refine v_iadd dX10_islands_61 ?_
        refine v_istore_n dX10_islands_62 rfl (by decide) rfl ?_
        replace hh := lt_of hh
        refine v_iinc (v := _ + (1 : Int32)) 3 dX10_islands_63 rfl rfl (by decide) rfl ?_
        replace hh := lt_of hh
        refine v_goto (tgt := 17) dX10_islands_66 (by decide) ?_
        exact v_sub [2, 3, 1, 0] rfl (ih _ _ _ _ hS0 hh)
      · replace hh := (if_neg c).symm.trans hh
        refine v_iload_n 3 dX10_islands_37 rfl rfl ?_
        refine v_if_eq (tgt := 56) dX10_islands_38 (by decide) (fun c => ?_) (fun c => ?_)
        · replace hh := (if_pos c).symm.trans hh
          refine v_iconst dX10_islands_56 (by decide : _ = (1 : Int32)) ?_
          refine v_goto (tgt := 61) dX10_islands_57 (by decide) ?_
          refine v_iadd dX10_islands_61 ?_
          refine v_istore_n dX10_islands_62 rfl (by decide) rfl ?_
          replace hh := lt_of hh
          refine v_iinc (v := _ + (1 : Int32)) 3 dX10_islands_63 rfl rfl (by decide) rfl ?_
          replace hh := lt_of hh
          refine v_goto (tgt := 17) dX10_islands_66 (by decide) ?_
          exact v_sub [2, 3, 1, 0] rfl (ih _ _ _ _ hS0 hh)
        · replace hh := (if_neg c).symm.trans hh
          refine v_aload_n 0 dX10_islands_41 rfl rfl ?_
          refine r_Model_a dX10_islands_42 fl_X10_7 ?_
          refine v_bipush dX10_islands_45 (by decide : _ = (11 : Int32)) ?_
          refine v_iload_n 3 dX10_islands_47 rfl rfl ?_
          refine v_iadd dX10_islands_48 ?_
          refine v_iconst dX10_islands_49 (by decide : _ = (1 : Int32)) ?_
          refine v_isub dX10_islands_50 ?_
          obtain ⟨g7, hh⟩ := chk_some hh
          replace g7 := inb_in g7
          refine ld_ma dX10_islands_51 g7 ?_
          refine v_iload_n 1 dX10_islands_52 rfl rfl ?_
          refine v_icmp_gt (tgt := 60) dX10_islands_53 (by decide) (fun c => ?_) (fun c => ?_)
          · replace hh := (if_pos c).symm.trans hh
            refine v_iconst dX10_islands_60 (by decide : _ = (0 : Int32)) ?_
            refine v_iadd dX10_islands_61 ?_
            refine v_istore_n dX10_islands_62 rfl (by decide) rfl ?_
            replace hh := lt_of hh
            refine v_iinc (v := _ + (1 : Int32)) 3 dX10_islands_63 rfl rfl (by decide) rfl ?_
            replace hh := lt_of hh
            refine v_goto (tgt := 17) dX10_islands_66 (by decide) ?_
            exact v_sub [2, 3, 1, 0] rfl (ih _ _ _ _ hS0 hh)
          · replace hh := (if_neg c).symm.trans hh
            refine v_iconst dX10_islands_56 (by decide : _ = (1 : Int32)) ?_
            refine v_goto (tgt := 61) dX10_islands_57 (by decide) ?_
            refine v_iadd dX10_islands_61 ?_
            refine v_istore_n dX10_islands_62 rfl (by decide) rfl ?_
            replace hh := lt_of hh
            refine v_iinc (v := _ + (1 : Int32)) 3 dX10_islands_63 rfl rfl (by decide) rfl ?_
            replace hh := lt_of hh
            refine v_goto (tgt := 17) dX10_islands_66 (by decide) ?_
            exact v_sub [2, 3, 1, 0] rfl (ih _ _ _ _ hS0 hh)
def f_X10_islands (N : Nat) (S : St) (x1 : Int32) : Option (Int32) :=
  bnd (f_X10_isIn S x1 (0 : Int32) (9999 : Int32)) fun q1 =>
 if q1 = (0 : Int32) then
  (some (-1 : Int32))
  else
  (f_X10_islands_b17 N N x1 (0 : Int32) (0 : Int32) S)
set_option maxRecDepth 100000 in
set_option maxHeartbeats 4000000 in
theorem t_X10_islands {l : Launch} {G : v_G} {N : Nat} {S : St}   {x1 : Int32} {r : Int32} (hh : f_X10_islands N S x1 = some r) : v_M l G yX10_islands cX10_islands 4 (some .int) 1 0 0 [.ref (v_B G + 291), .int x1] (lay G S) (QI r (lay G S)) := by
  refine v_entry (by decide) (Nat.le_of_ble_eq_true rfl) ?_
  unfold f_X10_islands at hh
  show V l G yX10_islands cX10_islands 4 (some .int) (v_rm 1 0 0) (QI r (lay G S)) 0 0 0 [(0, .ref (v_B G + 291)), (1, .int x1)] [] (lay G S)
  refine v_iload_n 1 dX10_islands_0 rfl rfl ?_
  refine v_iconst dX10_islands_1 (by decide : _ = (0 : Int32)) ?_
  refine v_sipush dX10_islands_2 (by decide : _ = (9999 : Int32)) ?_
  obtain ⟨q1, eq1, hh⟩ := bnd_some hh
  refine v_callSi (t_X10_isIn eq1) dX10_islands_5 y_X10_isIn ml_X10_63 rfl rfl (Nat.le_of_ble_eq_true rfl) ⟨(Nat.le_of_ble_eq_true rfl), (Nat.le_of_ble_eq_true rfl)⟩ ⟨Nat.zero_le _, Nat.zero_le _⟩ ?_
  refine v_if_ne (tgt := 13) dX10_islands_8 (by decide) (fun c => ?_) (fun c => ?_)
  · replace hh := (if_neg c).symm.trans hh
    refine v_iconst dX10_islands_13 (by decide : _ = (0 : Int32)) ?_
    refine v_istore_n dX10_islands_14 rfl (by decide) rfl ?_
    refine v_iconst dX10_islands_15 (by decide : _ = (0 : Int32)) ?_
    refine v_istore_n dX10_islands_16 rfl (by decide) rfl ?_
    exact v_sub [2, 3, 1, 0] rfl (tb_X10_islands_17 N _ _ _ _ rfl hh)
  · replace hh := (if_pos c).symm.trans hh
    refine v_iconst dX10_islands_11 (by decide : _ = (-1 : Int32)) ?_
    obtain rfl := Option.some.inj hh
    exact v_iret dX10_islands_12 rfl (Nat.zero_le _) (Nat.zero_le _) ⟨rfl, rfl⟩
def f_X10_sees_b15 (N : Nat) : Nat → Int32 → Int32 → Int32 → St → Option (Int32)
  | 0, _, _, _, _ => none
  | n + 1, x1, x2, x3, S =>
  if x3 = (-1 : Int32) then
  (some x3)
  else
  (chk (inb ((11 : Int32) + x3) 3015) (
  chk (inb ((11 : Int32) + x1) 3015) (
  if (gI S 1000 0 ((11 : Int32) + x1).toNatClampNeg) < (gI S 1000 0 ((11 : Int32) + x3).toNatClampNeg) then
  (some x3)
  else
  (bnd (f_X10_besideOf S x3 x2) fun q5 =>
 f_X10_sees_b15 N n x1 x2 q5 S))))
set_option maxRecDepth 100000 in
set_option maxHeartbeats 4000000 in
theorem tb_X10_sees_15 {l : Launch} {G : v_G} {N : Nat}    {r : Int32} {S0 : St}   : ∀ (n : Nat) (x1 : Int32) (x2 : Int32) (x3 : Int32) (S : St),  S = S0 → f_X10_sees_b15 N n x1 x2 x3 S = some r → V l G yX10_sees cX10_sees 4 (some .int) (v_rm 2 0 0) (QI r (lay G S0)) 0 0 15 [(0, .ref (v_B G + 291)), (1, .int x1), (2, .int x2), (3, .int x3)] [] (lay G S) := by
  intro n
  induction n with
  | zero =>
    intro x1 x2 x3 S  hS0 hh
    rw [f_X10_sees_b15] at hh
    cases hh
  | succ n ih =>
    intro x1 x2 x3 S  hS0 hh
    rw [f_X10_sees_b15] at hh
    refine v_iload_n 3 dX10_sees_15 rfl rfl ?_
    refine v_iconst dX10_sees_16 (by decide : _ = (-1 : Int32)) ?_
    refine v_icmp_eq (tgt := 50) dX10_sees_17 (by decide) (fun c => ?_) (fun c => ?_)
    · replace hh := (if_pos c).symm.trans hh
      refine v_iload_n 3 dX10_sees_50 rfl rfl ?_
      obtain rfl := Option.some.inj hh
      exact v_iret dX10_sees_51 rfl (Nat.zero_le _) (Nat.zero_le _) ⟨rfl, by rw [hS0]⟩
    · replace hh := (if_neg c).symm.trans hh
      refine v_aload_n 0 dX10_sees_20 rfl rfl ?_
      refine r_Model_a dX10_sees_21 fl_X10_7 ?_
      refine v_bipush dX10_sees_24 (by decide : _ = (11 : Int32)) ?_
      refine v_iload_n 3 dX10_sees_26 rfl rfl ?_
      refine v_iadd dX10_sees_27 ?_
      obtain ⟨g3, hh⟩ := chk_some hh
      replace g3 := inb_in g3
      refine ld_ma dX10_sees_28 g3 ?_
      refine v_aload_n 0 dX10_sees_29 rfl rfl ?_
      refine r_Model_a dX10_sees_30 fl_X10_7 ?_
      refine v_bipush dX10_sees_33 (by decide : _ = (11 : Int32)) ?_
      refine v_iload_n 1 dX10_sees_35 rfl rfl ?_
      refine v_iadd dX10_sees_36 ?_
      obtain ⟨g4, hh⟩ := chk_some hh
      replace g4 := inb_in g4
      refine ld_ma dX10_sees_37 g4 ?_
      refine v_icmp_gt (tgt := 50) dX10_sees_38 (by decide) (fun c => ?_) (fun c => ?_)
      · replace hh := (if_pos c).symm.trans hh
        refine v_iload_n 3 dX10_sees_50 rfl rfl ?_
        obtain rfl := Option.some.inj hh
        exact v_iret dX10_sees_51 rfl (Nat.zero_le _) (Nat.zero_le _) ⟨rfl, by rw [hS0]⟩
      · replace hh := (if_neg c).symm.trans hh
        refine v_iload_n 3 dX10_sees_41 rfl rfl ?_
        refine v_iload_n 2 dX10_sees_42 rfl rfl ?_
        obtain ⟨q5, eq5, hh⟩ := bnd_some hh
        refine v_callSi (t_X10_besideOf eq5) dX10_sees_43 y_X10_besideOf ml_X10_273 rfl rfl (Nat.le_of_ble_eq_true rfl) ⟨(Nat.le_of_ble_eq_true rfl), (Nat.le_of_ble_eq_true rfl)⟩ ⟨Nat.zero_le _, Nat.zero_le _⟩ ?_
        refine v_istore_n dX10_sees_46 rfl (by decide) rfl ?_
        refine v_goto (tgt := 15) dX10_sees_47 (by decide) ?_
        exact v_sub [1, 2, 3, 0] rfl (ih _ _ _ _ hS0 hh)
def f_X10_sees (N : Nat) (S : St) (x1 : Int32) (x2 : Int32) : Option (Int32) :=
  bnd (f_X10_isCell S x1) fun q1 =>
 if q1 = (0 : Int32) then
  (some (-1 : Int32))
  else
  (bnd (f_X10_besideOf S x1 x2) fun q2 =>
 f_X10_sees_b15 N N x1 x2 q2 S)
set_option maxRecDepth 100000 in
set_option maxHeartbeats 4000000 in
theorem t_X10_sees {l : Launch} {G : v_G} {N : Nat} {S : St}   {x1 : Int32} {x2 : Int32} {r : Int32} (hh : f_X10_sees N S x1 x2 = some r) : v_M l G yX10_sees cX10_sees 4 (some .int) 2 0 0 [.ref (v_B G + 291), .int x1, .int x2] (lay G S) (QI r (lay G S)) := by
  refine v_entry (by decide) (Nat.le_of_ble_eq_true rfl) ?_
  unfold f_X10_sees at hh
  show V l G yX10_sees cX10_sees 4 (some .int) (v_rm 2 0 0) (QI r (lay G S)) 0 0 0 [(0, .ref (v_B G + 291)), (1, .int x1), (2, .int x2)] [] (lay G S)
  refine v_iload_n 1 dX10_sees_0 rfl rfl ?_
  obtain ⟨q1, eq1, hh⟩ := bnd_some hh
  refine v_callSi (t_X10_isCell eq1) dX10_sees_1 y_X10_isCell ml_X10_67 rfl rfl (Nat.le_of_ble_eq_true rfl) ⟨(Nat.le_of_ble_eq_true rfl), (Nat.le_of_ble_eq_true rfl)⟩ ⟨Nat.zero_le _, Nat.zero_le _⟩ ?_
  refine v_if_ne (tgt := 9) dX10_sees_4 (by decide) (fun c => ?_) (fun c => ?_)
  · replace hh := (if_neg c).symm.trans hh
    refine v_iload_n 1 dX10_sees_9 rfl rfl ?_
    refine v_iload_n 2 dX10_sees_10 rfl rfl ?_
    obtain ⟨q2, eq2, hh⟩ := bnd_some hh
    refine v_callSi (t_X10_besideOf eq2) dX10_sees_11 y_X10_besideOf ml_X10_273 rfl rfl (Nat.le_of_ble_eq_true rfl) ⟨(Nat.le_of_ble_eq_true rfl), (Nat.le_of_ble_eq_true rfl)⟩ ⟨Nat.zero_le _, Nat.zero_le _⟩ ?_
    refine v_istore_n dX10_sees_14 rfl (by decide) rfl ?_
    exact v_sub [1, 2, 3, 0] rfl (tb_X10_sees_15 N _ _ _ _ rfl hh)
  · replace hh := (if_pos c).symm.trans hh
    refine v_iconst dX10_sees_7 (by decide : _ = (-1 : Int32)) ?_
    obtain rfl := Option.some.inj hh
    exact v_iret dX10_sees_8 rfl (Nat.zero_le _) (Nat.zero_le _) ⟨rfl, rfl⟩
def f_X10_middle_b63 (rec14 : (Int32 → Int32 → St → Option (Int32))) (rec28 : (Int32 → Int32 → Int32 → Int32 → Int32 → St → Option (Int32))) (N : Nat) (x1 : Int32) (x2 : Int32) (x4 : Int32) (x5 : Int32) (s0 : Int32) (s1 : Int32) (S : St) : Option (Int32) :=
  lt (s1 + s0) fun v7 =>
  chk (inb ((11 : Int32) + x5) 3015) (
  chk (inb ((11 : Int32) + x2) 3015) (
  if (gI S 1000 0 ((11 : Int32) + x5).toNatClampNeg) = (gI S 1000 0 ((11 : Int32) + x2).toNatClampNeg) then
  (lt (x4 + (1 : Int32)) fun v12 =>
  lt (x5 + (1 : Int32)) fun v13 =>
  rec28 x1 x2 v7 v12 v13 S)
  else
  (lt (x4 + (0 : Int32)) fun v10 =>
  lt (x5 + (1 : Int32)) fun v11 =>
  rec28 x1 x2 v7 v10 v11 S)))
set_option maxRecDepth 100000 in
set_option maxHeartbeats 4000000 in
theorem tb_X10_middle_63 {l : Launch} {G : v_G} {N : Nat}    {r : Int32} {S0 : St} {rec14 : (Int32 → Int32 → St → Option (Int32))} {rec28 : (Int32 → Int32 → Int32 → Int32 → Int32 → St → Option (Int32))} (hrec14 : ∀ (x1 : Int32) (x2 : Int32) (S : St),  S = S0 → rec14 x1 x2 S = some r → V l G yX10_middle cX10_middle 6 (some .int) (v_rm 1 0 0) (QI r (lay G S0)) 0 0 14 [(0, .ref (v_B G + 291)), (1, .int x1), (2, .int x2)] [] (lay G S)) (hrec28 : ∀ (x1 : Int32) (x2 : Int32) (x3 : Int32) (x4 : Int32) (x5 : Int32) (S : St),  S = S0 → rec28 x1 x2 x3 x4 x5 S = some r → V l G yX10_middle cX10_middle 6 (some .int) (v_rm 1 0 0) (QI r (lay G S0)) 0 0 28 [(0, .ref (v_B G + 291)), (1, .int x1), (2, .int x2), (3, .int x3), (4, .int x4), (5, .int x5)] [] (lay G S)) : ∀ (x1 : Int32) (x2 : Int32) (x4 : Int32) (x5 : Int32) (s0 : Int32) (s1 : Int32) (S : St),  S = S0 → f_X10_middle_b63 rec14 rec28 N x1 x2 x4 x5 s0 s1 S = some r → V l G yX10_middle cX10_middle 6 (some .int) (v_rm 1 0 0) (QI r (lay G S0)) 0 0 63 [(0, .ref (v_B G + 291)), (1, .int x1), (2, .int x2), (4, .int x4), (5, .int x5)] [.int s0, .int s1] (lay G S) := by
  intro x1 x2 x4 x5 s0 s1 S  hS0 hh
  unfold f_X10_middle_b63 at hh
  refine v_iadd dX10_middle_63 ?_
  refine v_istore_n dX10_middle_64 rfl (by decide) rfl ?_
  replace hh := lt_of hh
  refine v_iload 4 dX10_middle_65 rfl ?_
  refine v_aload_n 1 dX10_middle_67 rfl rfl ?_
  refine r_Model_a dX10_middle_68 fl_X10_7 ?_
  refine v_bipush dX10_middle_71 (by decide : _ = (11 : Int32)) ?_
  refine v_iload 5 dX10_middle_73 rfl ?_
  refine v_iadd dX10_middle_75 ?_
  obtain ⟨g8, hh⟩ := chk_some hh
  replace g8 := inb_in g8
  refine ld_ma dX10_middle_76 g8 ?_
  refine v_aload_n 1 dX10_middle_77 rfl rfl ?_
  refine r_Model_a dX10_middle_78 fl_X10_7 ?_
  refine v_bipush dX10_middle_81 (by decide : _ = (11 : Int32)) ?_
  refine v_iload_n 3 dX10_middle_83 rfl rfl ?_
  refine v_iadd dX10_middle_84 ?_
  obtain ⟨g9, hh⟩ := chk_some hh
  replace g9 := inb_in g9
  refine ld_ma dX10_middle_85 g9 ?_
  refine v_icmp_ne (tgt := 93) dX10_middle_86 (by decide) (fun c => ?_) (fun c => ?_)
  · replace hh := (if_neg c).symm.trans hh
    refine v_iconst dX10_middle_93 (by decide : _ = (0 : Int32)) ?_
    refine v_iadd dX10_middle_94 ?_
    refine v_istore dX10_middle_95 (by decide) rfl ?_
    replace hh := lt_of hh
    refine v_iinc (v := _ + (1 : Int32)) 5 dX10_middle_97 rfl rfl (by decide) rfl ?_
    replace hh := lt_of hh
    refine v_goto (tgt := 28) dX10_middle_100 (by decide) ?_
    exact v_sub [3, 4, 5, 2, 1, 0] rfl (hrec28 _ _ _ _ _ _ hS0 hh)
  · replace hh := (if_pos c).symm.trans hh
    refine v_iconst dX10_middle_89 (by decide : _ = (1 : Int32)) ?_
    refine v_goto (tgt := 94) dX10_middle_90 (by decide) ?_
    refine v_iadd dX10_middle_94 ?_
    refine v_istore dX10_middle_95 (by decide) rfl ?_
    replace hh := lt_of hh
    refine v_iinc (v := _ + (1 : Int32)) 5 dX10_middle_97 rfl rfl (by decide) rfl ?_
    replace hh := lt_of hh
    refine v_goto (tgt := 28) dX10_middle_100 (by decide) ?_
    exact v_sub [3, 4, 5, 2, 1, 0] rfl (hrec28 _ _ _ _ _ _ hS0 hh)
def f_X10_middle_b28 (rec14 : (Int32 → Int32 → St → Option (Int32))) (N : Nat) : Nat → Int32 → Int32 → Int32 → Int32 → Int32 → St → Option (Int32)
  | 0, _, _, _, _, _, _ => none
  | n + 1, x1, x2, x3, x4, x5, S =>
  if (12 : Int32) ≤ x5 then
  (if x1 ≤ x3 then
  (lt (x2 + (1 : Int32)) fun v2 =>
  rec14 x1 v2 S)
  else
  (if (x3 + x4) < x1 then
  (lt (x2 + (1 : Int32)) fun v3 =>
  rec14 x1 v3 S)
  else
  (chk (inb ((11 : Int32) + x2) 3015) (
  some (gI S 1000 0 ((11 : Int32) + x2).toNatClampNeg)))))
  else
  (chk (inb ((11 : Int32) + x5) 3015) (
  chk (inb ((11 : Int32) + x2) 3015) (
  if (gI S 1000 0 ((11 : Int32) + x2).toNatClampNeg) ≤ (gI S 1000 0 ((11 : Int32) + x5).toNatClampNeg) then
  (f_X10_middle_b63 rec14 (f_X10_middle_b28 rec14 N n) N x1 x2 x4 x5 (0 : Int32) x3 S)
  else
  (f_X10_middle_b63 rec14 (f_X10_middle_b28 rec14 N n) N x1 x2 x4 x5 (1 : Int32) x3 S))))
set_option maxRecDepth 100000 in
set_option maxHeartbeats 4000000 in
theorem tb_X10_middle_28 {l : Launch} {G : v_G} {N : Nat}    {r : Int32} {S0 : St} {rec14 : (Int32 → Int32 → St → Option (Int32))} (hrec14 : ∀ (x1 : Int32) (x2 : Int32) (S : St),  S = S0 → rec14 x1 x2 S = some r → V l G yX10_middle cX10_middle 6 (some .int) (v_rm 1 0 0) (QI r (lay G S0)) 0 0 14 [(0, .ref (v_B G + 291)), (1, .int x1), (2, .int x2)] [] (lay G S)) : ∀ (n : Nat) (x1 : Int32) (x2 : Int32) (x3 : Int32) (x4 : Int32) (x5 : Int32) (S : St),  S = S0 → f_X10_middle_b28 rec14 N n x1 x2 x3 x4 x5 S = some r → V l G yX10_middle cX10_middle 6 (some .int) (v_rm 1 0 0) (QI r (lay G S0)) 0 0 28 [(0, .ref (v_B G + 291)), (1, .int x1), (2, .int x2), (3, .int x3), (4, .int x4), (5, .int x5)] [] (lay G S) := by
  intro n
  induction n with
  | zero =>
    intro x1 x2 x3 x4 x5 S  hS0 hh
    rw [f_X10_middle_b28] at hh
    cases hh
  | succ n ih =>
    intro x1 x2 x3 x4 x5 S  hS0 hh
    rw [f_X10_middle_b28] at hh
    refine v_iload 5 dX10_middle_28 rfl ?_
    refine v_bipush dX10_middle_30 (by decide : _ = (12 : Int32)) ?_
    refine v_icmp_ge (tgt := 103) dX10_middle_32 (by decide) (fun c => ?_) (fun c => ?_)
    · replace hh := (if_pos c).symm.trans hh
      refine v_iload_n 1 dX10_middle_103 rfl rfl ?_
      refine v_iload_n 3 dX10_middle_104 rfl rfl ?_
      refine v_icmp_le (tgt := 126) dX10_middle_105 (by decide) (fun c => ?_) (fun c => ?_)
      · replace hh := (if_pos c).symm.trans hh
        refine v_iinc (v := _ + (1 : Int32)) 2 dX10_middle_126 rfl rfl (by decide) rfl ?_
        replace hh := lt_of hh
        refine v_goto (tgt := 14) dX10_middle_129 (by decide) ?_
        exact v_sub [1, 2, 0] rfl (hrec14 _ _ _ hS0 hh)
      · replace hh := (if_neg c).symm.trans hh
        refine v_iload_n 1 dX10_middle_108 rfl rfl ?_
        refine v_iload_n 3 dX10_middle_109 rfl rfl ?_
        refine v_iload 4 dX10_middle_110 rfl ?_
        refine v_iadd dX10_middle_112 ?_
        refine v_icmp_gt (tgt := 126) dX10_middle_113 (by decide) (fun c => ?_) (fun c => ?_)
        · replace hh := (if_pos c).symm.trans hh
          refine v_iinc (v := _ + (1 : Int32)) 2 dX10_middle_126 rfl rfl (by decide) rfl ?_
          replace hh := lt_of hh
          refine v_goto (tgt := 14) dX10_middle_129 (by decide) ?_
          exact v_sub [1, 2, 0] rfl (hrec14 _ _ _ hS0 hh)
        · replace hh := (if_neg c).symm.trans hh
          refine v_aload_n 0 dX10_middle_116 rfl rfl ?_
          refine r_Model_a dX10_middle_117 fl_X10_7 ?_
          refine v_bipush dX10_middle_120 (by decide : _ = (11 : Int32)) ?_
          refine v_iload_n 2 dX10_middle_122 rfl rfl ?_
          refine v_iadd dX10_middle_123 ?_
          obtain ⟨g4, hh⟩ := chk_some hh
          replace g4 := inb_in g4
          refine ld_ma dX10_middle_124 g4 ?_
          obtain rfl := Option.some.inj hh
          exact v_iret dX10_middle_125 rfl (Nat.zero_le _) (Nat.zero_le _) ⟨rfl, by rw [hS0]⟩
    · replace hh := (if_neg c).symm.trans hh
      refine v_iload_n 3 dX10_middle_35 rfl rfl ?_
      refine v_aload_n 0 dX10_middle_36 rfl rfl ?_
      refine r_Model_a dX10_middle_37 fl_X10_7 ?_
      refine v_bipush dX10_middle_40 (by decide : _ = (11 : Int32)) ?_
      refine v_iload 5 dX10_middle_42 rfl ?_
      refine v_iadd dX10_middle_44 ?_
      obtain ⟨g5, hh⟩ := chk_some hh
      replace g5 := inb_in g5
      refine ld_ma dX10_middle_45 g5 ?_
      refine v_aload_n 0 dX10_middle_46 rfl rfl ?_
      refine r_Model_a dX10_middle_47 fl_X10_7 ?_
      refine v_bipush dX10_middle_50 (by decide : _ = (11 : Int32)) ?_
      refine v_iload_n 2 dX10_middle_52 rfl rfl ?_
      refine v_iadd dX10_middle_53 ?_
      obtain ⟨g6, hh⟩ := chk_some hh
      replace g6 := inb_in g6
      refine ld_ma dX10_middle_54 g6 ?_
      refine v_icmp_ge (tgt := 62) dX10_middle_55 (by decide) (fun c => ?_) (fun c => ?_)
      · replace hh := (if_pos c).symm.trans hh
        refine v_iconst dX10_middle_62 (by decide : _ = (0 : Int32)) ?_
        exact v_sub [0, 1, 2, 4, 5] rfl (tb_X10_middle_63 hrec14 (fun _ _ _ _ _ _ hS hh => ih _ _ _ _ _ _ hS hh) _ _ _ _ _ _ _ hS0 hh)
      · replace hh := (if_neg c).symm.trans hh
        refine v_iconst dX10_middle_58 (by decide : _ = (1 : Int32)) ?_
        refine v_goto (tgt := 63) dX10_middle_59 (by decide) ?_
        exact v_sub [0, 1, 2, 4, 5] rfl (tb_X10_middle_63 hrec14 (fun _ _ _ _ _ _ hS hh => ih _ _ _ _ _ _ hS hh) _ _ _ _ _ _ _ hS0 hh)
def f_X10_middle_b14 (N : Nat) : Nat → Int32 → Int32 → St → Option (Int32)
  | 0, _, _, _ => none
  | n + 1, x1, x2, S =>
  if (12 : Int32) ≤ x2 then
  (some (-1 : Int32))
  else
  (f_X10_middle_b28 (f_X10_middle_b14 N n) N N x1 x2 (0 : Int32) (0 : Int32) (0 : Int32) S)
set_option maxRecDepth 100000 in
set_option maxHeartbeats 4000000 in
theorem tb_X10_middle_14 {l : Launch} {G : v_G} {N : Nat}    {r : Int32} {S0 : St}   : ∀ (n : Nat) (x1 : Int32) (x2 : Int32) (S : St),  S = S0 → f_X10_middle_b14 N n x1 x2 S = some r → V l G yX10_middle cX10_middle 6 (some .int) (v_rm 1 0 0) (QI r (lay G S0)) 0 0 14 [(0, .ref (v_B G + 291)), (1, .int x1), (2, .int x2)] [] (lay G S) := by
  intro n
  induction n with
  | zero =>
    intro x1 x2 S  hS0 hh
    rw [f_X10_middle_b14] at hh
    cases hh
  | succ n ih =>
    intro x1 x2 S  hS0 hh
    rw [f_X10_middle_b14] at hh
    refine v_iload_n 2 dX10_middle_14 rfl rfl ?_
    refine v_bipush dX10_middle_15 (by decide : _ = (12 : Int32)) ?_
    refine v_icmp_ge (tgt := 132) dX10_middle_17 (by decide) (fun c => ?_) (fun c => ?_)
    · replace hh := (if_pos c).symm.trans hh
      refine v_iconst dX10_middle_132 (by decide : _ = (-1 : Int32)) ?_
      obtain rfl := Option.some.inj hh
      exact v_iret dX10_middle_133 rfl (Nat.zero_le _) (Nat.zero_le _) ⟨rfl, by rw [hS0]⟩
    · replace hh := (if_neg c).symm.trans hh
      refine v_iconst dX10_middle_20 (by decide : _ = (0 : Int32)) ?_
      refine v_istore_n dX10_middle_21 rfl (by decide) rfl ?_
      refine v_iconst dX10_middle_22 (by decide : _ = (0 : Int32)) ?_
      refine v_istore dX10_middle_23 (by decide) rfl ?_
      refine v_iconst dX10_middle_25 (by decide : _ = (0 : Int32)) ?_
      refine v_istore dX10_middle_26 (by decide) rfl ?_
      exact v_sub [3, 4, 5, 2, 1, 0] rfl (tb_X10_middle_28 (fun _ _ _ hS hh => ih _ _ _ hS hh) N _ _ _ _ _ _ hS0 hh)
def f_X10_middle (N : Nat) (S : St) (x1 : Int32) : Option (Int32) :=
  bnd (f_X10_isIn S x1 (1 : Int32) (12 : Int32)) fun q1 =>
 if q1 = (0 : Int32) then
  (some (-1 : Int32))
  else
  (f_X10_middle_b14 N N x1 (0 : Int32) S)
set_option maxRecDepth 100000 in
set_option maxHeartbeats 4000000 in
theorem t_X10_middle {l : Launch} {G : v_G} {N : Nat} {S : St}   {x1 : Int32} {r : Int32} (hh : f_X10_middle N S x1 = some r) : v_M l G yX10_middle cX10_middle 6 (some .int) 1 0 0 [.ref (v_B G + 291), .int x1] (lay G S) (QI r (lay G S)) := by
  refine v_entry (by decide) (Nat.le_of_ble_eq_true rfl) ?_
  unfold f_X10_middle at hh
  show V l G yX10_middle cX10_middle 6 (some .int) (v_rm 1 0 0) (QI r (lay G S)) 0 0 0 [(0, .ref (v_B G + 291)), (1, .int x1)] [] (lay G S)
  refine v_iload_n 1 dX10_middle_0 rfl rfl ?_
  refine v_iconst dX10_middle_1 (by decide : _ = (1 : Int32)) ?_
  refine v_bipush dX10_middle_2 (by decide : _ = (12 : Int32)) ?_
  obtain ⟨q1, eq1, hh⟩ := bnd_some hh
  refine v_callSi (t_X10_isIn eq1) dX10_middle_4 y_X10_isIn ml_X10_63 rfl rfl (Nat.le_of_ble_eq_true rfl) ⟨(Nat.le_of_ble_eq_true rfl), (Nat.le_of_ble_eq_true rfl)⟩ ⟨Nat.zero_le _, Nat.zero_le _⟩ ?_
  refine v_if_ne (tgt := 12) dX10_middle_7 (by decide) (fun c => ?_) (fun c => ?_)
  · replace hh := (if_neg c).symm.trans hh
    refine v_iconst dX10_middle_12 (by decide : _ = (0 : Int32)) ?_
    refine v_istore_n dX10_middle_13 rfl (by decide) rfl ?_
    exact v_sub [1, 2, 0] rfl (tb_X10_middle_14 N _ _ _ rfl hh)
  · replace hh := (if_pos c).symm.trans hh
    refine v_iconst dX10_middle_10 (by decide : _ = (-1 : Int32)) ?_
    obtain rfl := Option.some.inj hh
    exact v_iret dX10_middle_11 rfl (Nat.zero_le _) (Nat.zero_le _) ⟨rfl, rfl⟩
def f_X10_size  (S : St) (x0 : Int32) : Option (Int32) :=
  if (0 : Int32) ≤ x0 then
  (some x0)
  else
  (some (-x0))
set_option maxRecDepth 100000 in
set_option maxHeartbeats 4000000 in
theorem t_X10_size {l : Launch} {G : v_G} {S : St}   {x0 : Int32} {r : Int32} (hh : f_X10_size  S x0 = some r) : v_M l G yX10_size cX10_size 1 (some .int) 0 0 0 [.int x0] (lay G S) (QI r (lay G S)) := by
  refine v_entry (by decide) (Nat.le_of_ble_eq_true rfl) ?_
  unfold f_X10_size at hh
  show V l G yX10_size cX10_size 1 (some .int) (v_rm 0 0 0) (QI r (lay G S)) 0 0 0 [(0, .int x0)] [] (lay G S)
  refine v_iload_n 0 dX10_size_0 rfl rfl ?_
  refine v_if_ge (tgt := 9) dX10_size_1 (by decide) (fun c => ?_) (fun c => ?_)
  · replace hh := (if_pos c).symm.trans hh
    refine v_iload_n 0 dX10_size_9 rfl rfl ?_
    obtain rfl := Option.some.inj hh
    exact v_iret dX10_size_10 rfl (Nat.zero_le _) (Nat.zero_le _) ⟨rfl, rfl⟩
  · replace hh := (if_neg c).symm.trans hh
    refine v_iload_n 0 dX10_size_4 rfl rfl ?_
    refine v_ineg dX10_size_5 ?_
    refine v_goto (tgt := 10) dX10_size_6 (by decide) ?_
    obtain rfl := Option.some.inj hh
    exact v_iret dX10_size_10 rfl (Nat.zero_le _) (Nat.zero_le _) ⟨rfl, rfl⟩
def f_X10_carried_b6 (N : Nat) : Nat → Int32 → Int32 → Int32 → St → Option (Int32)
  | 0, _, _, _, _ => none
  | n + 1, x1, x2, x3, S =>
  if (12 : Int32) ≤ x3 then
  (if x1 = (0 : Int32) then
  (some x2)
  else
  (some (-1 : Int32)))
  else
  (chk (inb ((11 : Int32) + x3) 3015) (
  chk (inb ((11 : Int32) + x3) 3015) (
  lt (x1 + ((gI S 1001 0 ((11 : Int32) + x3).toNatClampNeg) - (gI S 1000 0 ((11 : Int32) + x3).toNatClampNeg))) fun v3 =>
  bnd (f_X10_size S v3) fun q4 =>
 lt (x2 + q4) fun v5 =>
  lt (x3 + (1 : Int32)) fun v6 =>
  f_X10_carried_b6 N n v3 v5 v6 S)))
set_option maxRecDepth 100000 in
set_option maxHeartbeats 4000000 in
theorem tb_X10_carried_6 {l : Launch} {G : v_G} {N : Nat}    {r : Int32} {S0 : St}   : ∀ (n : Nat) (x1 : Int32) (x2 : Int32) (x3 : Int32) (S : St),  S = S0 → f_X10_carried_b6 N n x1 x2 x3 S = some r → V l G yX10_carried cX10_carried 4 (some .int) (v_rm 1 0 0) (QI r (lay G S0)) 0 0 6 [(0, .ref (v_B G + 291)), (1, .int x1), (2, .int x2), (3, .int x3)] [] (lay G S) := by
  intro n
  induction n with
  | zero =>
    intro x1 x2 x3 S  hS0 hh
    rw [f_X10_carried_b6] at hh
    cases hh
  | succ n ih =>
    intro x1 x2 x3 S  hS0 hh
    rw [f_X10_carried_b6] at hh
    refine v_iload_n 3 dX10_carried_6 rfl rfl ?_
    refine v_bipush dX10_carried_7 (by decide : _ = (12 : Int32)) ?_
    refine v_icmp_ge (tgt := 47) dX10_carried_9 (by decide) (fun c => ?_) (fun c => ?_)
    · replace hh := (if_pos c).symm.trans hh
      refine v_iload_n 1 dX10_carried_47 rfl rfl ?_
      refine v_if_ne (tgt := 55) dX10_carried_48 (by decide) (fun c => ?_) (fun c => ?_)
      · replace hh := (if_neg c).symm.trans hh
        refine v_iconst dX10_carried_55 (by decide : _ = (-1 : Int32)) ?_
        obtain rfl := Option.some.inj hh
        exact v_iret dX10_carried_56 rfl (Nat.zero_le _) (Nat.zero_le _) ⟨rfl, by rw [hS0]⟩
      · replace hh := (if_pos c).symm.trans hh
        refine v_iload_n 2 dX10_carried_51 rfl rfl ?_
        refine v_goto (tgt := 56) dX10_carried_52 (by decide) ?_
        obtain rfl := Option.some.inj hh
        exact v_iret dX10_carried_56 rfl (Nat.zero_le _) (Nat.zero_le _) ⟨rfl, by rw [hS0]⟩
    · replace hh := (if_neg c).symm.trans hh
      refine v_iload_n 1 dX10_carried_12 rfl rfl ?_
      refine v_aload_n 0 dX10_carried_13 rfl rfl ?_
      refine r_Model_image dX10_carried_14 fl_X10_13 ?_
      refine v_bipush dX10_carried_17 (by decide : _ = (11 : Int32)) ?_
      refine v_iload_n 3 dX10_carried_19 rfl rfl ?_
      refine v_iadd dX10_carried_20 ?_
      obtain ⟨g1, hh⟩ := chk_some hh
      replace g1 := inb_in g1
      refine ld_mimage dX10_carried_21 g1 ?_
      refine v_aload_n 0 dX10_carried_22 rfl rfl ?_
      refine r_Model_a dX10_carried_23 fl_X10_7 ?_
      refine v_bipush dX10_carried_26 (by decide : _ = (11 : Int32)) ?_
      refine v_iload_n 3 dX10_carried_28 rfl rfl ?_
      refine v_iadd dX10_carried_29 ?_
      obtain ⟨g2, hh⟩ := chk_some hh
      replace g2 := inb_in g2
      refine ld_ma dX10_carried_30 g2 ?_
      refine v_isub dX10_carried_31 ?_
      refine v_iadd dX10_carried_32 ?_
      refine v_istore_n dX10_carried_33 rfl (by decide) rfl ?_
      replace hh := lt_of hh
      refine v_iload_n 2 dX10_carried_34 rfl rfl ?_
      refine v_iload_n 0 dX10_carried_35 rfl rfl ?_
      obtain ⟨q4, eq4, hh⟩ := bnd_some hh
      refine v_callSi (t_X10_size eq4) dX10_carried_36 y_X10_size ml_X10_384 rfl rfl (Nat.le_of_ble_eq_true rfl) ⟨(Nat.le_of_ble_eq_true rfl), (Nat.le_of_ble_eq_true rfl)⟩ ⟨Nat.zero_le _, Nat.zero_le _⟩ ?_
      refine v_iadd dX10_carried_39 ?_
      refine v_istore_n dX10_carried_40 rfl (by decide) rfl ?_
      replace hh := lt_of hh
      refine v_iinc (v := _ + (1 : Int32)) 3 dX10_carried_41 rfl rfl (by decide) rfl ?_
      replace hh := lt_of hh
      refine v_goto (tgt := 6) dX10_carried_44 (by decide) ?_
      exact v_sub [3, 2, 1, 0] rfl (ih _ _ _ _ hS0 hh)
def f_X10_carried (N : Nat) (S : St)  : Option (Int32) :=
  f_X10_carried_b6 N N (0 : Int32) (0 : Int32) (0 : Int32) S
set_option maxRecDepth 100000 in
set_option maxHeartbeats 4000000 in
theorem t_X10_carried {l : Launch} {G : v_G} {N : Nat} {S : St}    {r : Int32} (hh : f_X10_carried N S  = some r) : v_M l G yX10_carried cX10_carried 4 (some .int) 1 0 0 [.ref (v_B G + 291)] (lay G S) (QI r (lay G S)) := by
  refine v_entry (by decide) (Nat.le_of_ble_eq_true rfl) ?_
  unfold f_X10_carried at hh
  show V l G yX10_carried cX10_carried 4 (some .int) (v_rm 1 0 0) (QI r (lay G S)) 0 0 0 [(0, .ref (v_B G + 291))] [] (lay G S)
  refine v_iconst dX10_carried_0 (by decide : _ = (0 : Int32)) ?_
  refine v_istore_n dX10_carried_1 rfl (by decide) rfl ?_
  refine v_iconst dX10_carried_2 (by decide : _ = (0 : Int32)) ?_
  refine v_istore_n dX10_carried_3 rfl (by decide) rfl ?_
  refine v_iconst dX10_carried_4 (by decide : _ = (0 : Int32)) ?_
  refine v_istore_n dX10_carried_5 rfl (by decide) rfl ?_
  exact v_sub [3, 2, 1, 0] rfl (tb_X10_carried_6 N _ _ _ _ rfl hh)
def f_X10_level_b52 (rec15 : (Int32 → Int32 → Int32 → Int32 → St → Option (Int32))) (N : Nat) (x1 : Int32) (x3 : Int32) (x4 : Int32) (s0 : Int32) (s1 : Int32) (s2 : Int32) (S : St) : Option (Int32) :=
  lt (s2 + (s1 - s0)) fun v3 =>
  bnd (f_X10_size S v3) fun q4 =>
 lt (x3 + q4) fun v5 =>
  lt (x4 + (1 : Int32)) fun v6 =>
  rec15 x1 v3 v5 v6 S
set_option maxRecDepth 100000 in
set_option maxHeartbeats 4000000 in
theorem tb_X10_level_52 {l : Launch} {G : v_G} {N : Nat}    {r : Int32} {S0 : St} {rec15 : (Int32 → Int32 → Int32 → Int32 → St → Option (Int32))} (hrec15 : ∀ (x1 : Int32) (x2 : Int32) (x3 : Int32) (x4 : Int32) (S : St),  S = S0 → rec15 x1 x2 x3 x4 S = some r → V l G yX10_level cX10_level 5 (some .int) (v_rm 1 0 0) (QI r (lay G S0)) 0 0 15 [(0, .ref (v_B G + 291)), (1, .int x1), (2, .int x2), (3, .int x3), (4, .int x4)] [] (lay G S)) : ∀ (x1 : Int32) (x3 : Int32) (x4 : Int32) (s0 : Int32) (s1 : Int32) (s2 : Int32) (S : St),  S = S0 → f_X10_level_b52 rec15 N x1 x3 x4 s0 s1 s2 S = some r → V l G yX10_level cX10_level 5 (some .int) (v_rm 1 0 0) (QI r (lay G S0)) 0 0 52 [(0, .ref (v_B G + 291)), (1, .int x1), (3, .int x3), (4, .int x4)] [.int s0, .int s1, .int s2] (lay G S) := by
  intro x1 x3 x4 s0 s1 s2 S  hS0 hh
  unfold f_X10_level_b52 at hh
  refine v_isub dX10_level_52 ?_
  refine v_iadd dX10_level_53 ?_
  refine v_istore_n dX10_level_54 rfl (by decide) rfl ?_
  replace hh := lt_of hh
  refine v_iload_n 3 dX10_level_55 rfl rfl ?_
  refine v_iload_n 0 dX10_level_56 rfl rfl ?_
  obtain ⟨q4, eq4, hh⟩ := bnd_some hh
  refine v_callSi (t_X10_size eq4) dX10_level_57 y_X10_size ml_X10_384 rfl rfl (Nat.le_of_ble_eq_true rfl) ⟨(Nat.le_of_ble_eq_true rfl), (Nat.le_of_ble_eq_true rfl)⟩ ⟨Nat.zero_le _, Nat.zero_le _⟩ ?_
  refine v_iadd dX10_level_60 ?_
  refine v_istore_n dX10_level_61 rfl (by decide) rfl ?_
  replace hh := lt_of hh
  refine v_iinc (v := _ + (1 : Int32)) 4 dX10_level_62 rfl rfl (by decide) rfl ?_
  replace hh := lt_of hh
  refine v_goto (tgt := 15) dX10_level_65 (by decide) ?_
  exact v_sub [3, 4, 2, 1, 0] rfl (hrec15 _ _ _ _ _ hS0 hh)
def f_X10_level_b15 (N : Nat) : Nat → Int32 → Int32 → Int32 → Int32 → St → Option (Int32)
  | 0, _, _, _, _, _ => none
  | n + 1, x1, x2, x3, x4, S =>
  if (12 : Int32) ≤ x4 then
  (some x3)
  else
  (chk (inb ((11 : Int32) + x4) 3015) (
  if (x1 - x1 / (12 : Int32) * (12 : Int32)) ≤ x4 then
  (f_X10_level_b52 (f_X10_level_b15 N n) N x1 x3 x4 (0 : Int32) ((gI S 1000 0 ((11 : Int32) + x4).toNatClampNeg) - (x1 / (12 : Int32))) x2 S)
  else
  (f_X10_level_b52 (f_X10_level_b15 N n) N x1 x3 x4 (1 : Int32) ((gI S 1000 0 ((11 : Int32) + x4).toNatClampNeg) - (x1 / (12 : Int32))) x2 S)))
set_option maxRecDepth 100000 in
set_option maxHeartbeats 4000000 in
theorem tb_X10_level_15 {l : Launch} {G : v_G} {N : Nat}    {r : Int32} {S0 : St}   : ∀ (n : Nat) (x1 : Int32) (x2 : Int32) (x3 : Int32) (x4 : Int32) (S : St),  S = S0 → f_X10_level_b15 N n x1 x2 x3 x4 S = some r → V l G yX10_level cX10_level 5 (some .int) (v_rm 1 0 0) (QI r (lay G S0)) 0 0 15 [(0, .ref (v_B G + 291)), (1, .int x1), (2, .int x2), (3, .int x3), (4, .int x4)] [] (lay G S) := by
  intro n
  induction n with
  | zero =>
    intro x1 x2 x3 x4 S  hS0 hh
    rw [f_X10_level_b15] at hh
    cases hh
  | succ n ih =>
    intro x1 x2 x3 x4 S  hS0 hh
    rw [f_X10_level_b15] at hh
    refine v_iload 4 dX10_level_15 rfl ?_
    refine v_bipush dX10_level_17 (by decide : _ = (12 : Int32)) ?_
    refine v_icmp_ge (tgt := 68) dX10_level_19 (by decide) (fun c => ?_) (fun c => ?_)
    · replace hh := (if_pos c).symm.trans hh
      refine v_iload_n 3 dX10_level_68 rfl rfl ?_
      obtain rfl := Option.some.inj hh
      exact v_iret dX10_level_69 rfl (Nat.zero_le _) (Nat.zero_le _) ⟨rfl, by rw [hS0]⟩
    · replace hh := (if_neg c).symm.trans hh
      refine v_iload_n 2 dX10_level_22 rfl rfl ?_
      refine v_aload_n 0 dX10_level_23 rfl rfl ?_
      refine r_Model_a dX10_level_24 fl_X10_7 ?_
      refine v_bipush dX10_level_27 (by decide : _ = (11 : Int32)) ?_
      refine v_iload 4 dX10_level_29 rfl ?_
      refine v_iadd dX10_level_31 ?_
      obtain ⟨g2, hh⟩ := chk_some hh
      replace g2 := inb_in g2
      refine ld_ma dX10_level_32 g2 ?_
      refine v_iload_n 1 dX10_level_33 rfl rfl ?_
      refine v_bipush dX10_level_34 (by decide : _ = (12 : Int32)) ?_
      refine v_idiv dX10_level_36 (by decide) ?_
      refine v_isub dX10_level_37 ?_
      refine v_iload 4 dX10_level_38 rfl ?_
      refine v_iload_n 1 dX10_level_40 rfl rfl ?_
      refine v_bipush dX10_level_41 (by decide : _ = (12 : Int32)) ?_
      refine v_irem dX10_level_43 (by decide) ?_
      refine v_icmp_ge (tgt := 51) dX10_level_44 (by decide) (fun c => ?_) (fun c => ?_)
      · replace hh := (if_pos c).symm.trans hh
        refine v_iconst dX10_level_51 (by decide : _ = (0 : Int32)) ?_
        exact v_sub [0, 1, 3, 4] rfl (tb_X10_level_52 (fun _ _ _ _ _ hS hh => ih _ _ _ _ _ hS hh) _ _ _ _ _ _ _ hS0 hh)
      · replace hh := (if_neg c).symm.trans hh
        refine v_iconst dX10_level_47 (by decide : _ = (1 : Int32)) ?_
        refine v_goto (tgt := 52) dX10_level_48 (by decide) ?_
        exact v_sub [0, 1, 3, 4] rfl (tb_X10_level_52 (fun _ _ _ _ _ hS hh => ih _ _ _ _ _ hS hh) _ _ _ _ _ _ _ hS0 hh)
def f_X10_level (N : Nat) (S : St)  : Option (Int32) :=
  bnd (f_X10_doughOf N S (0 : Int32) (12 : Int32)) fun q1 =>
 f_X10_level_b15 N N q1 (0 : Int32) (0 : Int32) (0 : Int32) S
set_option maxRecDepth 100000 in
set_option maxHeartbeats 4000000 in
theorem t_X10_level {l : Launch} {G : v_G} {N : Nat} {S : St}    {r : Int32} (hh : f_X10_level N S  = some r) : v_M l G yX10_level cX10_level 5 (some .int) 1 0 0 [.ref (v_B G + 291)] (lay G S) (QI r (lay G S)) := by
  refine v_entry (by decide) (Nat.le_of_ble_eq_true rfl) ?_
  unfold f_X10_level at hh
  show V l G yX10_level cX10_level 5 (some .int) (v_rm 1 0 0) (QI r (lay G S)) 0 0 0 [(0, .ref (v_B G + 291))] [] (lay G S)
  refine v_aload_n 0 dX10_level_0 rfl rfl ?_
  refine v_iconst dX10_level_1 (by decide : _ = (0 : Int32)) ?_
  refine v_bipush dX10_level_2 (by decide : _ = (12 : Int32)) ?_
  obtain ⟨q1, eq1, hh⟩ := bnd_some hh
  refine v_callVi (t_X10_doughOf eq1) dX10_level_4 y_X10_doughOf ml_X10_365 (ci := 9) rfl rfl (e_Model) rfl rfl (Nat.le_of_ble_eq_true rfl) ⟨(Nat.le_of_ble_eq_true rfl), (Nat.le_of_ble_eq_true rfl)⟩ ⟨Nat.zero_le _, Nat.zero_le _⟩ ?_
  refine v_istore_n dX10_level_7 rfl (by decide) rfl ?_
  refine v_iconst dX10_level_8 (by decide : _ = (0 : Int32)) ?_
  refine v_istore_n dX10_level_9 rfl (by decide) rfl ?_
  refine v_iconst dX10_level_10 (by decide : _ = (0 : Int32)) ?_
  refine v_istore_n dX10_level_11 rfl (by decide) rfl ?_
  refine v_iconst dX10_level_12 (by decide : _ = (0 : Int32)) ?_
  refine v_istore dX10_level_13 (by decide) rfl ?_
  exact v_sub [4, 3, 2, 1, 0] rfl (tb_X10_level_15 N _ _ _ _ _ rfl hh)
def f_X10_isShared_b75 (rec16 : (Int32 → Int32 → Int32 → Int32 → St → Option (Int32))) (N : Nat) (x2 : Int32) (x3 : Int32) (x4 : Int32) (x5 : Int32) (x7 : Int32) (S : St) : Option (Int32) :=
  if x5 = x7 then
  (some (0 : Int32))
  else
  (lt (x4 + (1 : Int32)) fun v1 =>
  rec16 x2 x3 v1 x5 S)
set_option maxRecDepth 100000 in
set_option maxHeartbeats 4000000 in
theorem tb_X10_isShared_75 {l : Launch} {G : v_G} {N : Nat}    {r : Int32} {S0 : St} {rec16 : (Int32 → Int32 → Int32 → Int32 → St → Option (Int32))} (hrec16 : ∀ (x2 : Int32) (x3 : Int32) (x4 : Int32) (x5 : Int32) (S : St),  S = S0 → rec16 x2 x3 x4 x5 S = some r → V l G yX10_isShared cX10_isShared 8 (some .boolean) (v_rm 0 0 0) (QI r (lay G S0)) 0 0 16 [(0, .ref (v_B G + 291)), (2, .int x2), (3, .int x3), (4, .int x4), (5, .int x5)] [] (lay G S)) : ∀ (x2 : Int32) (x3 : Int32) (x4 : Int32) (x5 : Int32) (x7 : Int32) (S : St),  S = S0 → f_X10_isShared_b75 rec16 N x2 x3 x4 x5 x7 S = some r → V l G yX10_isShared cX10_isShared 8 (some .boolean) (v_rm 0 0 0) (QI r (lay G S0)) 0 0 75 [(0, .ref (v_B G + 291)), (2, .int x2), (3, .int x3), (4, .int x4), (5, .int x5), (7, .int x7)] [] (lay G S) := by
  intro x2 x3 x4 x5 x7 S  hS0 hh
  unfold f_X10_isShared_b75 at hh
  refine v_iload 4 dX10_isShared_75 rfl ?_
  refine v_iload 5 dX10_isShared_77 rfl ?_
  refine v_icmp_ne (tgt := 84) dX10_isShared_79 (by decide) (fun c => ?_) (fun c => ?_)
  · replace hh := (if_neg c).symm.trans hh
    refine v_iinc (v := _ + (1 : Int32)) 3 dX10_isShared_84 rfl rfl (by decide) rfl ?_
    replace hh := lt_of hh
    refine v_goto (tgt := 16) dX10_isShared_87 (by decide) ?_
    exact v_sub [1, 2, 3, 0, 4] rfl (hrec16 _ _ _ _ _ hS0 hh)
  · replace hh := (if_pos c).symm.trans hh
    refine v_iconst dX10_isShared_82 (by decide : _ = (0 : Int32)) ?_
    obtain rfl := Option.some.inj hh
    exact v_zret dX10_isShared_83 rfl (zb (by decide)).1 (Nat.zero_le _) (Nat.zero_le _) ⟨rfl, by rw [hS0]⟩
def f_X10_isShared_b30 (rec16 : (Int32 → Int32 → Int32 → Int32 → St → Option (Int32))) (N : Nat) : Nat → Int32 → Int32 → Int32 → Int32 → Int32 → Int32 → St → Option (Int32)
  | 0, _, _, _, _, _, _, _ => none
  | n + 1, x2, x3, x4, x5, x6, x7, S =>
  if (12 : Int32) ≤ x5 then
  (f_X10_isShared_b75 rec16 N x2 x3 x4 x5 x7 S)
  else
  (chk (inb ((11 : Int32) + x5) 3015) (
  if x3 < (x6 + (gI S 1000 0 ((11 : Int32) + x5).toNatClampNeg)) then
  (f_X10_isShared_b75 rec16 N x2 x3 x4 x5 x7 S)
  else
  (chk (inb ((11 : Int32) + x5) 3015) (
  lt (x6 + (gI S 1000 0 ((11 : Int32) + x5).toNatClampNeg)) fun v4 =>
  lt (x5 + (1 : Int32)) fun v5 =>
  f_X10_isShared_b30 rec16 N n x2 x3 x4 v5 v4 x7 S))))
set_option maxRecDepth 100000 in
set_option maxHeartbeats 4000000 in
theorem tb_X10_isShared_30 {l : Launch} {G : v_G} {N : Nat}    {r : Int32} {S0 : St} {rec16 : (Int32 → Int32 → Int32 → Int32 → St → Option (Int32))} (hrec16 : ∀ (x2 : Int32) (x3 : Int32) (x4 : Int32) (x5 : Int32) (S : St),  S = S0 → rec16 x2 x3 x4 x5 S = some r → V l G yX10_isShared cX10_isShared 8 (some .boolean) (v_rm 0 0 0) (QI r (lay G S0)) 0 0 16 [(0, .ref (v_B G + 291)), (2, .int x2), (3, .int x3), (4, .int x4), (5, .int x5)] [] (lay G S)) : ∀ (n : Nat) (x2 : Int32) (x3 : Int32) (x4 : Int32) (x5 : Int32) (x6 : Int32) (x7 : Int32) (S : St),  S = S0 → f_X10_isShared_b30 rec16 N n x2 x3 x4 x5 x6 x7 S = some r → V l G yX10_isShared cX10_isShared 8 (some .boolean) (v_rm 0 0 0) (QI r (lay G S0)) 0 0 30 [(0, .ref (v_B G + 291)), (2, .int x2), (3, .int x3), (4, .int x4), (5, .int x5), (6, .int x6), (7, .int x7)] [] (lay G S) := by
  intro n
  induction n with
  | zero =>
    intro x2 x3 x4 x5 x6 x7 S  hS0 hh
    rw [f_X10_isShared_b30] at hh
    cases hh
  | succ n ih =>
    intro x2 x3 x4 x5 x6 x7 S  hS0 hh
    rw [f_X10_isShared_b30] at hh
    refine v_iload 4 dX10_isShared_30 rfl ?_
    refine v_bipush dX10_isShared_32 (by decide : _ = (12 : Int32)) ?_
    refine v_icmp_ge (tgt := 75) dX10_isShared_34 (by decide) (fun c => ?_) (fun c => ?_)
    · replace hh := (if_pos c).symm.trans hh
      exact v_sub [0, 1, 2, 3, 4, 6] rfl (tb_X10_isShared_75 hrec16 _ _ _ _ _ _ hS0 hh)
    · replace hh := (if_neg c).symm.trans hh
      refine v_iload 5 dX10_isShared_37 rfl ?_
      refine v_aload_n 0 dX10_isShared_39 rfl rfl ?_
      refine r_Model_a dX10_isShared_40 fl_X10_7 ?_
      refine v_bipush dX10_isShared_43 (by decide : _ = (11 : Int32)) ?_
      refine v_iload 4 dX10_isShared_45 rfl ?_
      refine v_iadd dX10_isShared_47 ?_
      obtain ⟨g2, hh⟩ := chk_some hh
      replace g2 := inb_in g2
      refine ld_ma dX10_isShared_48 g2 ?_
      refine v_iadd dX10_isShared_49 ?_
      refine v_iload_n 2 dX10_isShared_50 rfl rfl ?_
      refine v_icmp_gt (tgt := 75) dX10_isShared_51 (by decide) (fun c => ?_) (fun c => ?_)
      · replace hh := (if_pos c).symm.trans hh
        exact v_sub [0, 1, 2, 3, 4, 6] rfl (tb_X10_isShared_75 hrec16 _ _ _ _ _ _ hS0 hh)
      · replace hh := (if_neg c).symm.trans hh
        refine v_iload 5 dX10_isShared_54 rfl ?_
        refine v_aload_n 0 dX10_isShared_56 rfl rfl ?_
        refine r_Model_a dX10_isShared_57 fl_X10_7 ?_
        refine v_bipush dX10_isShared_60 (by decide : _ = (11 : Int32)) ?_
        refine v_iload 4 dX10_isShared_62 rfl ?_
        refine v_iadd dX10_isShared_64 ?_
        obtain ⟨g3, hh⟩ := chk_some hh
        replace g3 := inb_in g3
        refine ld_ma dX10_isShared_65 g3 ?_
        refine v_iadd dX10_isShared_66 ?_
        refine v_istore dX10_isShared_67 (by decide) rfl ?_
        replace hh := lt_of hh
        refine v_iinc (v := _ + (1 : Int32)) 5 dX10_isShared_69 rfl rfl (by decide) rfl ?_
        replace hh := lt_of hh
        refine v_goto (tgt := 30) dX10_isShared_72 (by decide) ?_
        exact v_sub [2, 3, 4, 5, 0, 1, 6] rfl (ih _ _ _ _ _ _ _ hS0 hh)
def f_X10_isShared_b16 (N : Nat) : Nat → Int32 → Int32 → Int32 → Int32 → St → Option (Int32)
  | 0, _, _, _, _, _ => none
  | n + 1, x2, x3, x4, x5, S =>
  if (12 : Int32) ≤ x5 then
  (if x2 < x4 then
  (some (0 : Int32))
  else
  (some (1 : Int32)))
  else
  (f_X10_isShared_b30 (f_X10_isShared_b16 N n) N N x2 x3 x4 x5 (0 : Int32) x5 S)
set_option maxRecDepth 100000 in
set_option maxHeartbeats 4000000 in
theorem tb_X10_isShared_16 {l : Launch} {G : v_G} {N : Nat}    {r : Int32} {S0 : St}   : ∀ (n : Nat) (x2 : Int32) (x3 : Int32) (x4 : Int32) (x5 : Int32) (S : St),  S = S0 → f_X10_isShared_b16 N n x2 x3 x4 x5 S = some r → V l G yX10_isShared cX10_isShared 8 (some .boolean) (v_rm 0 0 0) (QI r (lay G S0)) 0 0 16 [(0, .ref (v_B G + 291)), (2, .int x2), (3, .int x3), (4, .int x4), (5, .int x5)] [] (lay G S) := by
  intro n
  induction n with
  | zero =>
    intro x2 x3 x4 x5 S  hS0 hh
    rw [f_X10_isShared_b16] at hh
    cases hh
  | succ n ih =>
    intro x2 x3 x4 x5 S  hS0 hh
    rw [f_X10_isShared_b16] at hh
    refine v_iload 4 dX10_isShared_16 rfl ?_
    refine v_bipush dX10_isShared_18 (by decide : _ = (12 : Int32)) ?_
    refine v_icmp_ge (tgt := 90) dX10_isShared_20 (by decide) (fun c => ?_) (fun c => ?_)
    · replace hh := (if_pos c).symm.trans hh
      refine v_iload 3 dX10_isShared_90 rfl ?_
      refine v_iload_n 1 dX10_isShared_92 rfl rfl ?_
      refine v_icmp_gt (tgt := 100) dX10_isShared_93 (by decide) (fun c => ?_) (fun c => ?_)
      · replace hh := (if_pos c).symm.trans hh
        refine v_iconst dX10_isShared_100 (by decide : _ = (0 : Int32)) ?_
        obtain rfl := Option.some.inj hh
        exact v_zret dX10_isShared_101 rfl (zb (by decide)).1 (Nat.zero_le _) (Nat.zero_le _) ⟨rfl, by rw [hS0]⟩
      · replace hh := (if_neg c).symm.trans hh
        refine v_iconst dX10_isShared_96 (by decide : _ = (1 : Int32)) ?_
        refine v_goto (tgt := 101) dX10_isShared_97 (by decide) ?_
        obtain rfl := Option.some.inj hh
        exact v_zret dX10_isShared_101 rfl (zb (by decide)).1 (Nat.zero_le _) (Nat.zero_le _) ⟨rfl, by rw [hS0]⟩
    · replace hh := (if_neg c).symm.trans hh
      refine v_iconst dX10_isShared_23 (by decide : _ = (0 : Int32)) ?_
      refine v_istore dX10_isShared_24 (by decide) rfl ?_
      refine v_iload 5 dX10_isShared_26 rfl ?_
      refine v_istore dX10_isShared_28 (by decide) rfl ?_
      exact v_sub [2, 3, 4, 5, 6, 1, 0] rfl (tb_X10_isShared_30 (fun _ _ _ _ _ hS hh => ih _ _ _ _ _ hS hh) N _ _ _ _ _ _ _ hS0 hh)
def f_X10_isShared (N : Nat) (S : St) (x1 : Int32) (x2 : Int32) (x3 : Int32) : Option (Int32) :=
  if x2 ≤ ((12 : Int32) - x1) then
  (f_X10_isShared_b16 N N x2 x3 (0 : Int32) x1 S)
  else
  (some (0 : Int32))
set_option maxRecDepth 100000 in
set_option maxHeartbeats 4000000 in
theorem t_X10_isShared {l : Launch} {G : v_G} {N : Nat} {S : St}   {x1 : Int32} {x2 : Int32} {x3 : Int32} {r : Int32} (hh : f_X10_isShared N S x1 x2 x3 = some r) : v_M l G yX10_isShared cX10_isShared 8 (some .boolean) 0 0 0 [.ref (v_B G + 291), .int x1, .int x2, .int x3] (lay G S) (QI r (lay G S)) := by
  refine v_entry (by decide) (Nat.le_of_ble_eq_true rfl) ?_
  unfold f_X10_isShared at hh
  show V l G yX10_isShared cX10_isShared 8 (some .boolean) (v_rm 0 0 0) (QI r (lay G S)) 0 0 0 [(0, .ref (v_B G + 291)), (1, .int x1), (2, .int x2), (3, .int x3)] [] (lay G S)
  refine v_bipush dX10_isShared_0 (by decide : _ = (12 : Int32)) ?_
  refine v_iload_n 1 dX10_isShared_2 rfl rfl ?_
  refine v_isub dX10_isShared_3 ?_
  refine v_iload_n 2 dX10_isShared_4 rfl rfl ?_
  refine v_icmp_ge (tgt := 10) dX10_isShared_5 (by decide) (fun c => ?_) (fun c => ?_)
  · replace hh := (if_pos c).symm.trans hh
    refine v_iconst dX10_isShared_10 (by decide : _ = (0 : Int32)) ?_
    refine v_istore dX10_isShared_11 (by decide) rfl ?_
    refine v_iload_n 2 dX10_isShared_13 rfl rfl ?_
    refine v_istore dX10_isShared_14 (by decide) rfl ?_
    exact v_sub [2, 4, 5, 1, 0] rfl (tb_X10_isShared_16 N _ _ _ _ _ rfl hh)
  · replace hh := (if_neg c).symm.trans hh
    refine v_iconst dX10_isShared_8 (by decide : _ = (0 : Int32)) ?_
    obtain rfl := Option.some.inj hh
    exact v_zret dX10_isShared_9 rfl (zb (by decide)).1 (Nat.zero_le _) (Nat.zero_le _) ⟨rfl, rfl⟩
def f_X10_shared_b70 (rec61 : (Int32 → Int32 → Int32 → Int32 → Int32 → St → Option (Int32))) (N : Nat) : Nat → Int32 → Int32 → Int32 → Int32 → Int32 → St → Option (Int32)
  | 0, _, _, _, _, _, _ => none
  | n + 1, x1, x2, x3, x4, x5, S =>
  bnd (f_X10_isShared N S x4 ((x1 - (1 : Int32)) - x5) x3) fun q6 =>
 if q6 = (0 : Int32) then
  (lt (x4 + (1 : Int32)) fun v8 =>
  f_X10_shared_b70 rec61 N n x1 x2 x3 v8 x5 S)
  else
  (lt (x5 + (1 : Int32)) fun v7 =>
  rec61 x1 x2 x3 x4 v7 S)
set_option maxRecDepth 100000 in
set_option maxHeartbeats 4000000 in
theorem tb_X10_shared_70 {l : Launch} {G : v_G} {N : Nat}    {r : Int32} {S0 : St} {rec61 : (Int32 → Int32 → Int32 → Int32 → Int32 → St → Option (Int32))} (hrec61 : ∀ (x1 : Int32) (x2 : Int32) (x3 : Int32) (x4 : Int32) (x5 : Int32) (S : St),  S = S0 → rec61 x1 x2 x3 x4 x5 S = some r → V l G yX10_shared cX10_shared 6 (some .int) (v_rm 1 0 0) (QI r (lay G S0)) 0 0 61 [(0, .ref (v_B G + 291)), (1, .int x1), (2, .int x2), (3, .int x3), (4, .int x4), (5, .int x5)] [] (lay G S)) : ∀ (n : Nat) (x1 : Int32) (x2 : Int32) (x3 : Int32) (x4 : Int32) (x5 : Int32) (S : St),  S = S0 → f_X10_shared_b70 rec61 N n x1 x2 x3 x4 x5 S = some r → V l G yX10_shared cX10_shared 6 (some .int) (v_rm 1 0 0) (QI r (lay G S0)) 0 0 70 [(0, .ref (v_B G + 291)), (1, .int x1), (2, .int x2), (3, .int x3), (4, .int x4), (5, .int x5)] [] (lay G S) := by
  intro n
  induction n with
  | zero =>
    intro x1 x2 x3 x4 x5 S  hS0 hh
    rw [f_X10_shared_b70] at hh
    cases hh
  | succ n ih =>
    intro x1 x2 x3 x4 x5 S  hS0 hh
    rw [f_X10_shared_b70] at hh
    refine v_aload_n 0 dX10_shared_70 rfl rfl ?_
    refine v_iload 4 dX10_shared_71 rfl ?_
    refine v_iload_n 1 dX10_shared_73 rfl rfl ?_
    refine v_iconst dX10_shared_74 (by decide : _ = (1 : Int32)) ?_
    refine v_isub dX10_shared_75 ?_
    refine v_iload 5 dX10_shared_76 rfl ?_
    refine v_isub dX10_shared_78 ?_
    refine v_iload_n 3 dX10_shared_79 rfl rfl ?_
    obtain ⟨q6, eq6, hh⟩ := bnd_some hh
    refine v_callVi (t_X10_isShared eq6) dX10_shared_80 y_X10_isShared ml_X10_387 (ci := 9) rfl rfl (e_Model) rfl rfl (Nat.le_of_ble_eq_true rfl) ⟨(Nat.le_of_ble_eq_true rfl), (Nat.le_of_ble_eq_true rfl)⟩ ⟨Nat.zero_le _, Nat.zero_le _⟩ ?_
    refine v_if_ne (tgt := 92) dX10_shared_83 (by decide) (fun c => ?_) (fun c => ?_)
    · replace hh := (if_neg c).symm.trans hh
      refine v_iinc (v := _ + (1 : Int32)) 5 dX10_shared_92 rfl rfl (by decide) rfl ?_
      replace hh := lt_of hh
      refine v_goto (tgt := 61) dX10_shared_95 (by decide) ?_
      exact v_sub [1, 2, 3, 4, 5, 0] rfl (hrec61 _ _ _ _ _ _ hS0 hh)
    · replace hh := (if_pos c).symm.trans hh
      refine v_iinc (v := _ + (1 : Int32)) 4 dX10_shared_86 rfl rfl (by decide) rfl ?_
      replace hh := lt_of hh
      refine v_goto (tgt := 70) dX10_shared_89 (by decide) ?_
      exact v_sub [1, 2, 3, 4, 0, 5] rfl (ih _ _ _ _ _ _ hS0 hh)
def f_X10_shared_b61 (N : Nat) : Nat → Int32 → Int32 → Int32 → Int32 → Int32 → St → Option (Int32)
  | 0, _, _, _, _, _, _ => none
  | n + 1, x1, x2, x3, x4, x5, S =>
  if x2 ≤ x5 then
  (some x4)
  else
  (lt (x4 + (1 : Int32)) fun v5 =>
  f_X10_shared_b70 (f_X10_shared_b61 N n) N N x1 x2 x3 v5 x5 S)
set_option maxRecDepth 100000 in
set_option maxHeartbeats 4000000 in
theorem tb_X10_shared_61 {l : Launch} {G : v_G} {N : Nat}    {r : Int32} {S0 : St}   : ∀ (n : Nat) (x1 : Int32) (x2 : Int32) (x3 : Int32) (x4 : Int32) (x5 : Int32) (S : St),  S = S0 → f_X10_shared_b61 N n x1 x2 x3 x4 x5 S = some r → V l G yX10_shared cX10_shared 6 (some .int) (v_rm 1 0 0) (QI r (lay G S0)) 0 0 61 [(0, .ref (v_B G + 291)), (1, .int x1), (2, .int x2), (3, .int x3), (4, .int x4), (5, .int x5)] [] (lay G S) := by
  intro n
  induction n with
  | zero =>
    intro x1 x2 x3 x4 x5 S  hS0 hh
    rw [f_X10_shared_b61] at hh
    cases hh
  | succ n ih =>
    intro x1 x2 x3 x4 x5 S  hS0 hh
    rw [f_X10_shared_b61] at hh
    refine v_iload 5 dX10_shared_61 rfl ?_
    refine v_iload_n 2 dX10_shared_63 rfl rfl ?_
    refine v_icmp_ge (tgt := 98) dX10_shared_64 (by decide) (fun c => ?_) (fun c => ?_)
    · replace hh := (if_pos c).symm.trans hh
      refine v_iload 4 dX10_shared_98 rfl ?_
      obtain rfl := Option.some.inj hh
      exact v_iret dX10_shared_100 rfl (Nat.zero_le _) (Nat.zero_le _) ⟨rfl, by rw [hS0]⟩
    · replace hh := (if_neg c).symm.trans hh
      refine v_iinc (v := _ + (1 : Int32)) 4 dX10_shared_67 rfl rfl (by decide) rfl ?_
      replace hh := lt_of hh
      exact v_sub [1, 2, 3, 4, 0, 5] rfl (tb_X10_shared_70 (fun _ _ _ _ _ _ hS hh => ih _ _ _ _ _ _ hS hh) N _ _ _ _ _ _ hS0 hh)
def f_X10_shared_b32 (N : Nat) : Nat → Int32 → Int32 → Int32 → St → Option (Int32)
  | 0, _, _, _, _ => none
  | n + 1, x1, x2, x3, S =>
  bnd (f_X10_isShared N S (0 : Int32) x1 x3) fun q4 =>
 if q4 = (0 : Int32) then
  (lt (x3 + (1 : Int32)) fun v9 =>
  f_X10_shared_b32 N n x1 x2 v9 S)
  else
  (if x2 = (-1 : Int32) then
  (some x3)
  else
  (f_X10_shared_b61 N N x1 x2 x3 (0 : Int32) (0 : Int32) S))
set_option maxRecDepth 100000 in
set_option maxHeartbeats 4000000 in
theorem tb_X10_shared_32 {l : Launch} {G : v_G} {N : Nat}    {r : Int32} {S0 : St}   : ∀ (n : Nat) (x1 : Int32) (x2 : Int32) (x3 : Int32) (S : St),  S = S0 → f_X10_shared_b32 N n x1 x2 x3 S = some r → V l G yX10_shared cX10_shared 6 (some .int) (v_rm 1 0 0) (QI r (lay G S0)) 0 0 32 [(0, .ref (v_B G + 291)), (1, .int x1), (2, .int x2), (3, .int x3)] [] (lay G S) := by
  intro n
  induction n with
  | zero =>
    intro x1 x2 x3 S  hS0 hh
    rw [f_X10_shared_b32] at hh
    cases hh
  | succ n ih =>
    intro x1 x2 x3 S  hS0 hh
    rw [f_X10_shared_b32] at hh
    refine v_aload_n 0 dX10_shared_32 rfl rfl ?_
    refine v_iconst dX10_shared_33 (by decide : _ = (0 : Int32)) ?_
    refine v_iload_n 1 dX10_shared_34 rfl rfl ?_
    refine v_iload_n 3 dX10_shared_35 rfl rfl ?_
    obtain ⟨q4, eq4, hh⟩ := bnd_some hh
    refine v_callVi (t_X10_isShared eq4) dX10_shared_36 y_X10_isShared ml_X10_387 (ci := 9) rfl rfl (e_Model) rfl rfl (Nat.le_of_ble_eq_true rfl) ⟨(Nat.le_of_ble_eq_true rfl), (Nat.le_of_ble_eq_true rfl)⟩ ⟨Nat.zero_le _, Nat.zero_le _⟩ ?_
    refine v_if_ne (tgt := 48) dX10_shared_39 (by decide) (fun c => ?_) (fun c => ?_)
    · replace hh := (if_neg c).symm.trans hh
      refine v_iload_n 2 dX10_shared_48 rfl rfl ?_
      refine v_iconst dX10_shared_49 (by decide : _ = (-1 : Int32)) ?_
      refine v_icmp_ne (tgt := 55) dX10_shared_50 (by decide) (fun c => ?_) (fun c => ?_)
      · replace hh := (if_neg c).symm.trans hh
        refine v_iconst dX10_shared_55 (by decide : _ = (0 : Int32)) ?_
        refine v_istore dX10_shared_56 (by decide) rfl ?_
        refine v_iconst dX10_shared_58 (by decide : _ = (0 : Int32)) ?_
        refine v_istore dX10_shared_59 (by decide) rfl ?_
        exact v_sub [2, 3, 4, 5, 1, 0] rfl (tb_X10_shared_61 N _ _ _ _ _ _ hS0 hh)
      · replace hh := (if_pos c).symm.trans hh
        refine v_iload_n 3 dX10_shared_53 rfl rfl ?_
        obtain rfl := Option.some.inj hh
        exact v_iret dX10_shared_54 rfl (Nat.zero_le _) (Nat.zero_le _) ⟨rfl, by rw [hS0]⟩
    · replace hh := (if_pos c).symm.trans hh
      refine v_iinc (v := _ + (1 : Int32)) 3 dX10_shared_42 rfl rfl (by decide) rfl ?_
      replace hh := lt_of hh
      refine v_goto (tgt := 32) dX10_shared_45 (by decide) ?_
      exact v_sub [1, 2, 3, 0] rfl (ih _ _ _ _ hS0 hh)
def f_X10_shared (N : Nat) (S : St) (x1 : Int32) (x2 : Int32) : Option (Int32) :=
  bnd (f_X10_isIn S x1 (1 : Int32) (6 : Int32)) fun q1 =>
 if q1 = (0 : Int32) then
  (some (-2 : Int32))
  else
  (bnd (f_X10_isIn S x2 (-1 : Int32) (x1 - (1 : Int32))) fun q2 =>
 if q2 = (0 : Int32) then
  (some (-2 : Int32))
  else
  (bnd (f_X10_mostOf N S (0 : Int32) (12 : Int32)) fun q3 =>
 f_X10_shared_b32 N N x1 x2 q3 S))
set_option maxRecDepth 100000 in
set_option maxHeartbeats 4000000 in
theorem t_X10_shared {l : Launch} {G : v_G} {N : Nat} {S : St}   {x1 : Int32} {x2 : Int32} {r : Int32} (hh : f_X10_shared N S x1 x2 = some r) : v_M l G yX10_shared cX10_shared 6 (some .int) 1 0 0 [.ref (v_B G + 291), .int x1, .int x2] (lay G S) (QI r (lay G S)) := by
  refine v_entry (by decide) (Nat.le_of_ble_eq_true rfl) ?_
  unfold f_X10_shared at hh
  show V l G yX10_shared cX10_shared 6 (some .int) (v_rm 1 0 0) (QI r (lay G S)) 0 0 0 [(0, .ref (v_B G + 291)), (1, .int x1), (2, .int x2)] [] (lay G S)
  refine v_iload_n 1 dX10_shared_0 rfl rfl ?_
  refine v_iconst dX10_shared_1 (by decide : _ = (1 : Int32)) ?_
  refine v_bipush dX10_shared_2 (by decide : _ = (6 : Int32)) ?_
  obtain ⟨q1, eq1, hh⟩ := bnd_some hh
  refine v_callSi (t_X10_isIn eq1) dX10_shared_4 y_X10_isIn ml_X10_63 rfl rfl (Nat.le_of_ble_eq_true rfl) ⟨(Nat.le_of_ble_eq_true rfl), (Nat.le_of_ble_eq_true rfl)⟩ ⟨Nat.zero_le _, Nat.zero_le _⟩ ?_
  refine v_if_eq (tgt := 21) dX10_shared_7 (by decide) (fun c => ?_) (fun c => ?_)
  · replace hh := (if_pos c).symm.trans hh
    refine v_bipush dX10_shared_21 (by decide : _ = (-2 : Int32)) ?_
    obtain rfl := Option.some.inj hh
    exact v_iret dX10_shared_23 rfl (Nat.zero_le _) (Nat.zero_le _) ⟨rfl, rfl⟩
  · replace hh := (if_neg c).symm.trans hh
    refine v_iload_n 2 dX10_shared_10 rfl rfl ?_
    refine v_iconst dX10_shared_11 (by decide : _ = (-1 : Int32)) ?_
    refine v_iload_n 1 dX10_shared_12 rfl rfl ?_
    refine v_iconst dX10_shared_13 (by decide : _ = (1 : Int32)) ?_
    refine v_isub dX10_shared_14 ?_
    obtain ⟨q2, eq2, hh⟩ := bnd_some hh
    refine v_callSi (t_X10_isIn eq2) dX10_shared_15 y_X10_isIn ml_X10_63 rfl rfl (Nat.le_of_ble_eq_true rfl) ⟨(Nat.le_of_ble_eq_true rfl), (Nat.le_of_ble_eq_true rfl)⟩ ⟨Nat.zero_le _, Nat.zero_le _⟩ ?_
    refine v_if_ne (tgt := 24) dX10_shared_18 (by decide) (fun c => ?_) (fun c => ?_)
    · replace hh := (if_neg c).symm.trans hh
      refine v_aload_n 0 dX10_shared_24 rfl rfl ?_
      refine v_iconst dX10_shared_25 (by decide : _ = (0 : Int32)) ?_
      refine v_bipush dX10_shared_26 (by decide : _ = (12 : Int32)) ?_
      obtain ⟨q3, eq3, hh⟩ := bnd_some hh
      refine v_callVi (t_X10_mostOf eq3) dX10_shared_28 y_X10_mostOf ml_X10_378 (ci := 9) rfl rfl (e_Model) rfl rfl (Nat.le_of_ble_eq_true rfl) ⟨(Nat.le_of_ble_eq_true rfl), (Nat.le_of_ble_eq_true rfl)⟩ ⟨Nat.zero_le _, Nat.zero_le _⟩ ?_
      refine v_istore_n dX10_shared_31 rfl (by decide) rfl ?_
      exact v_sub [1, 2, 3, 0] rfl (tb_X10_shared_32 N _ _ _ _ rfl hh)
    · replace hh := (if_pos c).symm.trans hh
      refine v_bipush dX10_shared_21 (by decide : _ = (-2 : Int32)) ?_
      obtain rfl := Option.some.inj hh
      exact v_iret dX10_shared_23 rfl (Nat.zero_le _) (Nat.zero_le _) ⟨rfl, rfl⟩
def f_X10_layGames_b89 (rec2 : (Int32 → St → Option (St))) (rec10 : (Int32 → Int32 → St → Option (St))) (N : Nat) (x1 : Int32) (x2 : Int32) (x3 : Int32) (x4 : Int32) (s0 : Int32) (s1 : Int32) (S : St) : Option (St) :=
  lt (s1 - s0) fun v8 =>
  if x4 < v8 then
  (chk (inb (((12 : Int32) * x2) + x3) 144) (
  lt (sI S 1027 0 ((((12 : Int32) * x2) + x3).toNatClampNeg) v8) fun S10 =>
  lt (x2 + (1 : Int32)) fun v11 =>
  rec10 x1 v11 S10))
  else
  (chk (inb (((12 : Int32) * x2) + x3) 144) (
  lt (sI S 1027 0 ((((12 : Int32) * x2) + x3).toNatClampNeg) x4) fun S13 =>
  lt (x2 + (1 : Int32)) fun v14 =>
  rec10 x1 v14 S13))
set_option maxRecDepth 100000 in
set_option maxHeartbeats 4000000 in
theorem tb_X10_layGames_89 {l : Launch} {G : v_G} {N : Nat}    {r : St} {rec2 : (Int32 → St → Option (St))} {rec10 : (Int32 → Int32 → St → Option (St))} (hrec2 : ∀ (x1 : Int32) (S : St),  rec2 x1 S = some r → V l G yX10_layGames cX10_layGames 6 (none) (v_rm 0 0 0) (QV (lay G r)) 0 0 2 [(0, .ref (v_B G + 291)), (1, .int x1)] [] (lay G S)) (hrec10 : ∀ (x1 : Int32) (x2 : Int32) (S : St),  rec10 x1 x2 S = some r → V l G yX10_layGames cX10_layGames 6 (none) (v_rm 0 0 0) (QV (lay G r)) 0 0 10 [(0, .ref (v_B G + 291)), (1, .int x1), (2, .int x2)] [] (lay G S)) : ∀ (x1 : Int32) (x2 : Int32) (x3 : Int32) (x4 : Int32) (s0 : Int32) (s1 : Int32) (S : St),  f_X10_layGames_b89 rec2 rec10 N x1 x2 x3 x4 s0 s1 S = some r → V l G yX10_layGames cX10_layGames 6 (none) (v_rm 0 0 0) (QV (lay G r)) 0 0 89 [(0, .ref (v_B G + 291)), (1, .int x1), (2, .int x2), (3, .int x3), (4, .int x4)] [.int s0, .int s1] (lay G S) := by
  intro x1 x2 x3 x4 s0 s1 S  hh
  unfold f_X10_layGames_b89 at hh
  refine v_isub dX10_layGames_89 ?_
  refine v_istore dX10_layGames_90 (by decide) rfl ?_
  replace hh := lt_of hh
  refine v_aload_n 1 dX10_layGames_92 rfl rfl ?_
  refine r_Model_games dX10_layGames_93 fl_X10_53 ?_
  refine v_bipush dX10_layGames_96 (by decide : _ = (12 : Int32)) ?_
  refine v_iload_n 3 dX10_layGames_98 rfl rfl ?_
  refine v_imul dX10_layGames_99 ?_
  refine v_iload_n 4 dX10_layGames_100 rfl rfl ?_
  refine v_iadd dX10_layGames_101 ?_
  refine v_iload 5 dX10_layGames_102 rfl ?_
  refine v_iload 0 dX10_layGames_104 rfl ?_
  refine v_icmp_lt (tgt := 114) dX10_layGames_106 (by decide) (fun c => ?_) (fun c => ?_)
  · replace hh := (if_pos c).symm.trans hh
    refine v_iload 0 dX10_layGames_114 rfl ?_
    obtain ⟨g9, hh⟩ := chk_some hh
    replace g9 := inb_in g9
    refine st_games dX10_layGames_116 g9 ?_
    replace hh := lt_of hh
    refine v_iinc (v := _ + (1 : Int32)) 3 dX10_layGames_117 rfl rfl (by decide) rfl ?_
    replace hh := lt_of hh
    refine v_goto (tgt := 10) dX10_layGames_120 (by decide) ?_
    exact v_sub [2, 3, 0] rfl (hrec10 _ _ _ hh)
  · replace hh := (if_neg c).symm.trans hh
    refine v_iload 5 dX10_layGames_109 rfl ?_
    refine v_goto (tgt := 116) dX10_layGames_111 (by decide) ?_
    obtain ⟨g12, hh⟩ := chk_some hh
    replace g12 := inb_in g12
    refine st_games dX10_layGames_116 g12 ?_
    replace hh := lt_of hh
    refine v_iinc (v := _ + (1 : Int32)) 3 dX10_layGames_117 rfl rfl (by decide) rfl ?_
    replace hh := lt_of hh
    refine v_goto (tgt := 10) dX10_layGames_120 (by decide) ?_
    exact v_sub [2, 3, 0] rfl (hrec10 _ _ _ hh)
def f_X10_layGames_b55 (rec2 : (Int32 → St → Option (St))) (rec10 : (Int32 → Int32 → St → Option (St))) (N : Nat) (x1 : Int32) (x2 : Int32) (x3 : Int32) (s0 : Int32) (s1 : Int32) (S : St) : Option (St) :=
  lt (s1 - s0) fun v5 =>
  chk (inb ((11 : Int32) + x3) 3015) (
  if x1 = (1 : Int32) then
  (f_X10_layGames_b89 rec2 rec10 N x1 x2 x3 v5 (0 : Int32) (gI S 1000 0 ((11 : Int32) + x3).toNatClampNeg) S)
  else
  (chk (inb ((((12 : Int32) * x2) + x3) - (1 : Int32)) 144) (
  f_X10_layGames_b89 rec2 rec10 N x1 x2 x3 v5 (gI S 1027 0 ((((12 : Int32) * x2) + x3) - (1 : Int32)).toNatClampNeg) (gI S 1000 0 ((11 : Int32) + x3).toNatClampNeg) S)))
set_option maxRecDepth 100000 in
set_option maxHeartbeats 4000000 in
theorem tb_X10_layGames_55 {l : Launch} {G : v_G} {N : Nat}    {r : St} {rec2 : (Int32 → St → Option (St))} {rec10 : (Int32 → Int32 → St → Option (St))} (hrec2 : ∀ (x1 : Int32) (S : St),  rec2 x1 S = some r → V l G yX10_layGames cX10_layGames 6 (none) (v_rm 0 0 0) (QV (lay G r)) 0 0 2 [(0, .ref (v_B G + 291)), (1, .int x1)] [] (lay G S)) (hrec10 : ∀ (x1 : Int32) (x2 : Int32) (S : St),  rec10 x1 x2 S = some r → V l G yX10_layGames cX10_layGames 6 (none) (v_rm 0 0 0) (QV (lay G r)) 0 0 10 [(0, .ref (v_B G + 291)), (1, .int x1), (2, .int x2)] [] (lay G S)) : ∀ (x1 : Int32) (x2 : Int32) (x3 : Int32) (s0 : Int32) (s1 : Int32) (S : St),  f_X10_layGames_b55 rec2 rec10 N x1 x2 x3 s0 s1 S = some r → V l G yX10_layGames cX10_layGames 6 (none) (v_rm 0 0 0) (QV (lay G r)) 0 0 55 [(0, .ref (v_B G + 291)), (1, .int x1), (2, .int x2), (3, .int x3)] [.int s0, .int s1] (lay G S) := by
  intro x1 x2 x3 s0 s1 S  hh
  unfold f_X10_layGames_b55 at hh
  refine v_isub dX10_layGames_55 ?_
  refine v_istore dX10_layGames_56 (by decide) rfl ?_
  replace hh := lt_of hh
  refine v_aload_n 1 dX10_layGames_58 rfl rfl ?_
  refine r_Model_a dX10_layGames_59 fl_X10_7 ?_
  refine v_bipush dX10_layGames_62 (by decide : _ = (11 : Int32)) ?_
  refine v_iload_n 4 dX10_layGames_64 rfl rfl ?_
  refine v_iadd dX10_layGames_65 ?_
  obtain ⟨g6, hh⟩ := chk_some hh
  replace g6 := inb_in g6
  refine ld_ma dX10_layGames_66 g6 ?_
  refine v_iload_n 2 dX10_layGames_67 rfl rfl ?_
  refine v_iconst dX10_layGames_68 (by decide : _ = (1 : Int32)) ?_
  refine v_icmp_ne (tgt := 76) dX10_layGames_69 (by decide) (fun c => ?_) (fun c => ?_)
  · replace hh := (if_neg c).symm.trans hh
    refine v_aload_n 1 dX10_layGames_76 rfl rfl ?_
    refine r_Model_games dX10_layGames_77 fl_X10_53 ?_
    refine v_bipush dX10_layGames_80 (by decide : _ = (12 : Int32)) ?_
    refine v_iload_n 3 dX10_layGames_82 rfl rfl ?_
    refine v_imul dX10_layGames_83 ?_
    refine v_iload_n 4 dX10_layGames_84 rfl rfl ?_
    refine v_iadd dX10_layGames_85 ?_
    refine v_iconst dX10_layGames_86 (by decide : _ = (1 : Int32)) ?_
    refine v_isub dX10_layGames_87 ?_
    obtain ⟨g7, hh⟩ := chk_some hh
    replace g7 := inb_in g7
    refine ld_games dX10_layGames_88 g7 ?_
    exact v_sub [1, 2, 3, 4, 0] rfl (tb_X10_layGames_89 hrec2 hrec10 _ _ _ _ _ _ _ hh)
  · replace hh := (if_pos c).symm.trans hh
    refine v_iconst dX10_layGames_72 (by decide : _ = (0 : Int32)) ?_
    refine v_goto (tgt := 89) dX10_layGames_73 (by decide) ?_
    exact v_sub [1, 2, 3, 4, 0] rfl (tb_X10_layGames_89 hrec2 hrec10 _ _ _ _ _ _ _ hh)
def f_X10_layGames_b10 (rec2 : (Int32 → St → Option (St))) (N : Nat) : Nat → Int32 → Int32 → St → Option (St)
  | 0, _, _, _ => none
  | n + 1, x1, x2, S =>
  if (12 : Int32) < (x2 + x1) then
  (lt (x1 + (1 : Int32)) fun v1 =>
  rec2 v1 S)
  else
  (lt ((x2 + x1) - (1 : Int32)) fun v2 =>
  chk (inb ((11 : Int32) + x2) 3015) (
  if x1 = (1 : Int32) then
  (f_X10_layGames_b55 rec2 (f_X10_layGames_b10 rec2 N n) N x1 x2 v2 (0 : Int32) (gI S 1000 0 ((11 : Int32) + x2).toNatClampNeg) S)
  else
  (chk (inb (((12 : Int32) * (x2 + (1 : Int32))) + v2) 144) (
  f_X10_layGames_b55 rec2 (f_X10_layGames_b10 rec2 N n) N x1 x2 v2 (gI S 1027 0 (((12 : Int32) * (x2 + (1 : Int32))) + v2).toNatClampNeg) (gI S 1000 0 ((11 : Int32) + x2).toNatClampNeg) S))))
set_option maxRecDepth 100000 in
set_option maxHeartbeats 4000000 in
theorem tb_X10_layGames_10 {l : Launch} {G : v_G} {N : Nat}    {r : St} {rec2 : (Int32 → St → Option (St))} (hrec2 : ∀ (x1 : Int32) (S : St),  rec2 x1 S = some r → V l G yX10_layGames cX10_layGames 6 (none) (v_rm 0 0 0) (QV (lay G r)) 0 0 2 [(0, .ref (v_B G + 291)), (1, .int x1)] [] (lay G S)) : ∀ (n : Nat) (x1 : Int32) (x2 : Int32) (S : St),  f_X10_layGames_b10 rec2 N n x1 x2 S = some r → V l G yX10_layGames cX10_layGames 6 (none) (v_rm 0 0 0) (QV (lay G r)) 0 0 10 [(0, .ref (v_B G + 291)), (1, .int x1), (2, .int x2)] [] (lay G S) := by
  intro n
  induction n with
  | zero =>
    intro x1 x2 S  hh
    rw [f_X10_layGames_b10] at hh
    cases hh
  | succ n ih =>
    intro x1 x2 S  hh
    rw [f_X10_layGames_b10] at hh
    refine v_iload_n 2 dX10_layGames_10 rfl rfl ?_
    refine v_iload_n 1 dX10_layGames_11 rfl rfl ?_
    refine v_iadd dX10_layGames_12 ?_
    refine v_bipush dX10_layGames_13 (by decide : _ = (12 : Int32)) ?_
    refine v_icmp_gt (tgt := 123) dX10_layGames_15 (by decide) (fun c => ?_) (fun c => ?_)
    · replace hh := (if_pos c).symm.trans hh
      refine v_iinc (v := _ + (1 : Int32)) 1 dX10_layGames_123 rfl rfl (by decide) rfl ?_
      replace hh := lt_of hh
      refine v_goto (tgt := 2) dX10_layGames_126 (by decide) ?_
      exact v_sub [1, 0] rfl (hrec2 _ _ hh)
    · replace hh := (if_neg c).symm.trans hh
      refine v_iload_n 2 dX10_layGames_18 rfl rfl ?_
      refine v_iload_n 1 dX10_layGames_19 rfl rfl ?_
      refine v_iadd dX10_layGames_20 ?_
      refine v_iconst dX10_layGames_21 (by decide : _ = (1 : Int32)) ?_
      refine v_isub dX10_layGames_22 ?_
      refine v_istore_n dX10_layGames_23 rfl (by decide) rfl ?_
      replace hh := lt_of hh
      refine v_aload_n 1 dX10_layGames_24 rfl rfl ?_
      refine r_Model_a dX10_layGames_25 fl_X10_7 ?_
      refine v_bipush dX10_layGames_28 (by decide : _ = (11 : Int32)) ?_
      refine v_iload_n 3 dX10_layGames_30 rfl rfl ?_
      refine v_iadd dX10_layGames_31 ?_
      obtain ⟨g3, hh⟩ := chk_some hh
      replace g3 := inb_in g3
      refine ld_ma dX10_layGames_32 g3 ?_
      refine v_iload_n 2 dX10_layGames_33 rfl rfl ?_
      refine v_iconst dX10_layGames_34 (by decide : _ = (1 : Int32)) ?_
      refine v_icmp_ne (tgt := 42) dX10_layGames_35 (by decide) (fun c => ?_) (fun c => ?_)
      · replace hh := (if_neg c).symm.trans hh
        refine v_aload_n 1 dX10_layGames_42 rfl rfl ?_
        refine r_Model_games dX10_layGames_43 fl_X10_53 ?_
        refine v_bipush dX10_layGames_46 (by decide : _ = (12 : Int32)) ?_
        refine v_iload_n 3 dX10_layGames_48 rfl rfl ?_
        refine v_iconst dX10_layGames_49 (by decide : _ = (1 : Int32)) ?_
        refine v_iadd dX10_layGames_50 ?_
        refine v_imul dX10_layGames_51 ?_
        refine v_iload_n 0 dX10_layGames_52 rfl rfl ?_
        refine v_iadd dX10_layGames_53 ?_
        obtain ⟨g4, hh⟩ := chk_some hh
        replace g4 := inb_in g4
        refine ld_games dX10_layGames_54 g4 ?_
        exact v_sub [1, 2, 3, 0] rfl (tb_X10_layGames_55 hrec2 (fun _ _ _ hh => ih _ _ _ hh) _ _ _ _ _ _ hh)
      · replace hh := (if_pos c).symm.trans hh
        refine v_iconst dX10_layGames_38 (by decide : _ = (0 : Int32)) ?_
        refine v_goto (tgt := 55) dX10_layGames_39 (by decide) ?_
        exact v_sub [1, 2, 3, 0] rfl (tb_X10_layGames_55 hrec2 (fun _ _ _ hh => ih _ _ _ hh) _ _ _ _ _ _ hh)
def f_X10_layGames_b2 (N : Nat) : Nat → Int32 → St → Option (St)
  | 0, _, _ => none
  | n + 1, x1, S =>
  if (12 : Int32) < x1 then
  (some S)
  else
  (f_X10_layGames_b10 (f_X10_layGames_b2 N n) N N x1 (0 : Int32) S)
set_option maxRecDepth 100000 in
set_option maxHeartbeats 4000000 in
theorem tb_X10_layGames_2 {l : Launch} {G : v_G} {N : Nat}    {r : St}   : ∀ (n : Nat) (x1 : Int32) (S : St),  f_X10_layGames_b2 N n x1 S = some r → V l G yX10_layGames cX10_layGames 6 (none) (v_rm 0 0 0) (QV (lay G r)) 0 0 2 [(0, .ref (v_B G + 291)), (1, .int x1)] [] (lay G S) := by
  intro n
  induction n with
  | zero =>
    intro x1 S  hh
    rw [f_X10_layGames_b2] at hh
    cases hh
  | succ n ih =>
    intro x1 S  hh
    rw [f_X10_layGames_b2] at hh
    refine v_iload_n 1 dX10_layGames_2 rfl rfl ?_
    refine v_bipush dX10_layGames_3 (by decide : _ = (12 : Int32)) ?_
    refine v_icmp_gt (tgt := 129) dX10_layGames_5 (by decide) (fun c => ?_) (fun c => ?_)
    · replace hh := (if_pos c).symm.trans hh
      obtain rfl := Option.some.inj hh
      exact v_vret dX10_layGames_129 rfl (Nat.zero_le _) (Nat.zero_le _) ⟨rfl, rfl⟩
    · replace hh := (if_neg c).symm.trans hh
      refine v_iconst dX10_layGames_8 (by decide : _ = (0 : Int32)) ?_
      refine v_istore_n dX10_layGames_9 rfl (by decide) rfl ?_
      exact v_sub [1, 2, 0] rfl (tb_X10_layGames_10 (fun _ _ hh => ih _ _ hh) N _ _ _ hh)
def f_X10_layGames (N : Nat) (S : St)  : Option (St) :=
  f_X10_layGames_b2 N N (1 : Int32) S
set_option maxRecDepth 100000 in
set_option maxHeartbeats 4000000 in
theorem t_X10_layGames {l : Launch} {G : v_G} {N : Nat} {S : St}    {r : St} (hh : f_X10_layGames N S  = some r) : v_M l G yX10_layGames cX10_layGames 6 (none) 0 0 0 [.ref (v_B G + 291)] (lay G S) (QV (lay G r)) := by
  refine v_entry (by decide) (Nat.le_of_ble_eq_true rfl) ?_
  unfold f_X10_layGames at hh
  show V l G yX10_layGames cX10_layGames 6 (none) (v_rm 0 0 0) (QV (lay G r)) 0 0 0 [(0, .ref (v_B G + 291))] [] (lay G S)
  refine v_iconst dX10_layGames_0 (by decide : _ = (1 : Int32)) ?_
  refine v_istore_n dX10_layGames_1 rfl (by decide) rfl ?_
  exact v_sub [1, 0] rfl (tb_X10_layGames_2 N _ _ hh)
def f_X10_areCells  (S : St) (x0 : Int32) (x1 : Int32) : Option (Int32) :=
  bnd (f_X10_isCell S x0) fun q1 =>
 if q1 = (0 : Int32) then
  (some (0 : Int32))
  else
  (bnd (f_X10_isCell S x1) fun q2 =>
 if q2 = (0 : Int32) then
  (some (0 : Int32))
  else
  (if x1 < x0 then
  (some (0 : Int32))
  else
  (some (1 : Int32))))
set_option maxRecDepth 100000 in
set_option maxHeartbeats 4000000 in
theorem t_X10_areCells {l : Launch} {G : v_G} {S : St}   {x0 : Int32} {x1 : Int32} {r : Int32} (hh : f_X10_areCells  S x0 x1 = some r) : v_M l G yX10_areCells cX10_areCells 2 (some .boolean) 2 0 0 [.int x0, .int x1] (lay G S) (QI r (lay G S)) := by
  refine v_entry (by decide) (Nat.le_of_ble_eq_true rfl) ?_
  unfold f_X10_areCells at hh
  show V l G yX10_areCells cX10_areCells 2 (some .boolean) (v_rm 2 0 0) (QI r (lay G S)) 0 0 0 [(0, .int x0), (1, .int x1)] [] (lay G S)
  refine v_iload_n 0 dX10_areCells_0 rfl rfl ?_
  obtain ⟨q1, eq1, hh⟩ := bnd_some hh
  refine v_callSi (t_X10_isCell eq1) dX10_areCells_1 y_X10_isCell ml_X10_67 rfl rfl (Nat.le_of_ble_eq_true rfl) ⟨(Nat.le_of_ble_eq_true rfl), (Nat.le_of_ble_eq_true rfl)⟩ ⟨Nat.zero_le _, Nat.zero_le _⟩ ?_
  refine v_if_eq (tgt := 23) dX10_areCells_4 (by decide) (fun c => ?_) (fun c => ?_)
  · replace hh := (if_pos c).symm.trans hh
    refine v_iconst dX10_areCells_23 (by decide : _ = (0 : Int32)) ?_
    obtain rfl := Option.some.inj hh
    exact v_zret dX10_areCells_24 rfl (zb (by decide)).1 (Nat.zero_le _) (Nat.zero_le _) ⟨rfl, rfl⟩
  · replace hh := (if_neg c).symm.trans hh
    refine v_iload_n 1 dX10_areCells_7 rfl rfl ?_
    obtain ⟨q2, eq2, hh⟩ := bnd_some hh
    refine v_callSi (t_X10_isCell eq2) dX10_areCells_8 y_X10_isCell ml_X10_67 rfl rfl (Nat.le_of_ble_eq_true rfl) ⟨(Nat.le_of_ble_eq_true rfl), (Nat.le_of_ble_eq_true rfl)⟩ ⟨Nat.zero_le _, Nat.zero_le _⟩ ?_
    refine v_if_eq (tgt := 23) dX10_areCells_11 (by decide) (fun c => ?_) (fun c => ?_)
    · replace hh := (if_pos c).symm.trans hh
      refine v_iconst dX10_areCells_23 (by decide : _ = (0 : Int32)) ?_
      obtain rfl := Option.some.inj hh
      exact v_zret dX10_areCells_24 rfl (zb (by decide)).1 (Nat.zero_le _) (Nat.zero_le _) ⟨rfl, rfl⟩
    · replace hh := (if_neg c).symm.trans hh
      refine v_iload_n 0 dX10_areCells_14 rfl rfl ?_
      refine v_iload_n 1 dX10_areCells_15 rfl rfl ?_
      refine v_icmp_gt (tgt := 23) dX10_areCells_16 (by decide) (fun c => ?_) (fun c => ?_)
      · replace hh := (if_pos c).symm.trans hh
        refine v_iconst dX10_areCells_23 (by decide : _ = (0 : Int32)) ?_
        obtain rfl := Option.some.inj hh
        exact v_zret dX10_areCells_24 rfl (zb (by decide)).1 (Nat.zero_le _) (Nat.zero_le _) ⟨rfl, rfl⟩
      · replace hh := (if_neg c).symm.trans hh
        refine v_iconst dX10_areCells_19 (by decide : _ = (1 : Int32)) ?_
        refine v_goto (tgt := 24) dX10_areCells_20 (by decide) ?_
        obtain rfl := Option.some.inj hh
        exact v_zret dX10_areCells_24 rfl (zb (by decide)).1 (Nat.zero_le _) (Nat.zero_le _) ⟨rfl, rfl⟩
def f_X10_ends (N : Nat) (S : St) (x1 : Int32) (x2 : Int32) : Option (Int32 × St) :=
  bnd (f_X10_areCells S x1 x2) fun q1 =>
 if q1 = (0 : Int32) then
  (some ((-9999 : Int32), S))
  else
  (bnd (f_X10_layGames N S ) fun q2 =>
 chk (inb (((12 : Int32) * x1) + x2) 144) (
  some (gI q2 1027 0 (((12 : Int32) * x1) + x2).toNatClampNeg, q2)))
set_option maxRecDepth 100000 in
set_option maxHeartbeats 4000000 in
theorem t_X10_ends {l : Launch} {G : v_G} {N : Nat} {S : St}   {x1 : Int32} {x2 : Int32} {r : Int32 × St} (hh : f_X10_ends N S x1 x2 = some r) : v_M l G yX10_ends cX10_ends 3 (some .int) 3 0 0 [.ref (v_B G + 291), .int x1, .int x2] (lay G S) (QI r.1 (lay G r.2)) := by
  refine v_entry (by decide) (Nat.le_of_ble_eq_true rfl) ?_
  unfold f_X10_ends at hh
  show V l G yX10_ends cX10_ends 3 (some .int) (v_rm 3 0 0) (QI r.1 (lay G r.2)) 0 0 0 [(0, .ref (v_B G + 291)), (1, .int x1), (2, .int x2)] [] (lay G S)
  refine v_iload_n 1 dX10_ends_0 rfl rfl ?_
  refine v_iload_n 2 dX10_ends_1 rfl rfl ?_
  obtain ⟨q1, eq1, hh⟩ := bnd_some hh
  refine v_callSi (t_X10_areCells eq1) dX10_ends_2 y_X10_areCells ml_X10_390 rfl rfl (Nat.le_of_ble_eq_true rfl) ⟨(Nat.le_of_ble_eq_true rfl), (Nat.le_of_ble_eq_true rfl)⟩ ⟨Nat.zero_le _, Nat.zero_le _⟩ ?_
  refine v_if_ne (tgt := 12) dX10_ends_5 (by decide) (fun c => ?_) (fun c => ?_)
  · replace hh := (if_neg c).symm.trans hh
    refine v_aload_n 0 dX10_ends_12 rfl rfl ?_
    obtain ⟨q2, eq2, hh⟩ := bnd_some hh
    refine v_callVv (t_X10_layGames eq2) dX10_ends_13 y_X10_layGames ml_X10_393 (ci := 9) rfl rfl (e_Model) rfl rfl (Nat.le_of_ble_eq_true rfl) ⟨(Nat.le_of_ble_eq_true rfl), (Nat.le_of_ble_eq_true rfl)⟩ ⟨Nat.zero_le _, Nat.zero_le _⟩ ?_
    refine v_aload_n 0 dX10_ends_16 rfl rfl ?_
    refine r_Model_games dX10_ends_17 fl_X10_53 ?_
    refine v_bipush dX10_ends_20 (by decide : _ = (12 : Int32)) ?_
    refine v_iload_n 1 dX10_ends_22 rfl rfl ?_
    refine v_imul dX10_ends_23 ?_
    refine v_iload_n 2 dX10_ends_24 rfl rfl ?_
    refine v_iadd dX10_ends_25 ?_
    obtain ⟨g3, hh⟩ := chk_some hh
    replace g3 := inb_in g3
    refine ld_games dX10_ends_26 g3 ?_
    obtain rfl := Option.some.inj hh
    exact v_iret dX10_ends_27 rfl (Nat.zero_le _) (Nat.zero_le _) ⟨rfl, rfl⟩
  · replace hh := (if_pos c).symm.trans hh
    refine v_sipush dX10_ends_8 (by decide : _ = (-9999 : Int32)) ?_
    obtain rfl := Option.some.inj hh
    exact v_iret dX10_ends_11 rfl (Nat.zero_le _) (Nat.zero_le _) ⟨rfl, rfl⟩
def f_X10_endsFirst (N : Nat) (S : St) (x1 : Int32) (x2 : Int32) : Option (Int32 × St) :=
  bnd (f_X10_areCells S x1 x2) fun q1 =>
 if q1 = (0 : Int32) then
  (some ((-1 : Int32), S))
  else
  (bnd (f_X10_layGames N S ) fun q2 =>
 if x1 = x2 then
  (some (x1, q2))
  else
  (chk (inb ((11 : Int32) + x1) 3015) (
  chk (inb (((12 : Int32) * (x1 + (1 : Int32))) + x2) 144) (
  chk (inb (((12 : Int32) * x1) + x2) 144) (
  if ((gI q2 1000 0 ((11 : Int32) + x1).toNatClampNeg) - (gI q2 1027 0 (((12 : Int32) * (x1 + (1 : Int32))) + x2).toNatClampNeg)) = (gI q2 1027 0 (((12 : Int32) * x1) + x2).toNatClampNeg) then
  (some (x1, q2))
  else
  (some (x2, q2)))))))
set_option maxRecDepth 100000 in
set_option maxHeartbeats 4000000 in
theorem t_X10_endsFirst {l : Launch} {G : v_G} {N : Nat} {S : St}   {x1 : Int32} {x2 : Int32} {r : Int32 × St} (hh : f_X10_endsFirst N S x1 x2 = some r) : v_M l G yX10_endsFirst cX10_endsFirst 3 (some .int) 3 0 0 [.ref (v_B G + 291), .int x1, .int x2] (lay G S) (QI r.1 (lay G r.2)) := by
  refine v_entry (by decide) (Nat.le_of_ble_eq_true rfl) ?_
  unfold f_X10_endsFirst at hh
  show V l G yX10_endsFirst cX10_endsFirst 3 (some .int) (v_rm 3 0 0) (QI r.1 (lay G r.2)) 0 0 0 [(0, .ref (v_B G + 291)), (1, .int x1), (2, .int x2)] [] (lay G S)
  refine v_iload_n 1 dX10_endsFirst_0 rfl rfl ?_
  refine v_iload_n 2 dX10_endsFirst_1 rfl rfl ?_
  obtain ⟨q1, eq1, hh⟩ := bnd_some hh
  refine v_callSi (t_X10_areCells eq1) dX10_endsFirst_2 y_X10_areCells ml_X10_390 rfl rfl (Nat.le_of_ble_eq_true rfl) ⟨(Nat.le_of_ble_eq_true rfl), (Nat.le_of_ble_eq_true rfl)⟩ ⟨Nat.zero_le _, Nat.zero_le _⟩ ?_
  refine v_if_ne (tgt := 10) dX10_endsFirst_5 (by decide) (fun c => ?_) (fun c => ?_)
  · replace hh := (if_neg c).symm.trans hh
    refine v_aload_n 0 dX10_endsFirst_10 rfl rfl ?_
    obtain ⟨q2, eq2, hh⟩ := bnd_some hh
    refine v_callVv (t_X10_layGames eq2) dX10_endsFirst_11 y_X10_layGames ml_X10_393 (ci := 9) rfl rfl (e_Model) rfl rfl (Nat.le_of_ble_eq_true rfl) ⟨(Nat.le_of_ble_eq_true rfl), (Nat.le_of_ble_eq_true rfl)⟩ ⟨Nat.zero_le _, Nat.zero_le _⟩ ?_
    refine v_iload_n 1 dX10_endsFirst_14 rfl rfl ?_
    refine v_iload_n 2 dX10_endsFirst_15 rfl rfl ?_
    refine v_icmp_eq (tgt := 56) dX10_endsFirst_16 (by decide) (fun c => ?_) (fun c => ?_)
    · replace hh := (if_pos c).symm.trans hh
      refine v_iload_n 1 dX10_endsFirst_56 rfl rfl ?_
      refine v_goto (tgt := 61) dX10_endsFirst_57 (by decide) ?_
      obtain rfl := Option.some.inj hh
      exact v_iret dX10_endsFirst_61 rfl (Nat.zero_le _) (Nat.zero_le _) ⟨rfl, rfl⟩
    · replace hh := (if_neg c).symm.trans hh
      refine v_aload_n 0 dX10_endsFirst_19 rfl rfl ?_
      refine r_Model_a dX10_endsFirst_20 fl_X10_7 ?_
      refine v_bipush dX10_endsFirst_23 (by decide : _ = (11 : Int32)) ?_
      refine v_iload_n 1 dX10_endsFirst_25 rfl rfl ?_
      refine v_iadd dX10_endsFirst_26 ?_
      obtain ⟨g3, hh⟩ := chk_some hh
      replace g3 := inb_in g3
      refine ld_ma dX10_endsFirst_27 g3 ?_
      refine v_aload_n 0 dX10_endsFirst_28 rfl rfl ?_
      refine r_Model_games dX10_endsFirst_29 fl_X10_53 ?_
      refine v_bipush dX10_endsFirst_32 (by decide : _ = (12 : Int32)) ?_
      refine v_iload_n 1 dX10_endsFirst_34 rfl rfl ?_
      refine v_iconst dX10_endsFirst_35 (by decide : _ = (1 : Int32)) ?_
      refine v_iadd dX10_endsFirst_36 ?_
      refine v_imul dX10_endsFirst_37 ?_
      refine v_iload_n 2 dX10_endsFirst_38 rfl rfl ?_
      refine v_iadd dX10_endsFirst_39 ?_
      obtain ⟨g4, hh⟩ := chk_some hh
      replace g4 := inb_in g4
      refine ld_games dX10_endsFirst_40 g4 ?_
      refine v_isub dX10_endsFirst_41 ?_
      refine v_aload_n 0 dX10_endsFirst_42 rfl rfl ?_
      refine r_Model_games dX10_endsFirst_43 fl_X10_53 ?_
      refine v_bipush dX10_endsFirst_46 (by decide : _ = (12 : Int32)) ?_
      refine v_iload_n 1 dX10_endsFirst_48 rfl rfl ?_
      refine v_imul dX10_endsFirst_49 ?_
      refine v_iload_n 2 dX10_endsFirst_50 rfl rfl ?_
      refine v_iadd dX10_endsFirst_51 ?_
      obtain ⟨g5, hh⟩ := chk_some hh
      replace g5 := inb_in g5
      refine ld_games dX10_endsFirst_52 g5 ?_
      refine v_icmp_ne (tgt := 60) dX10_endsFirst_53 (by decide) (fun c => ?_) (fun c => ?_)
      · replace hh := (if_neg c).symm.trans hh
        refine v_iload_n 2 dX10_endsFirst_60 rfl rfl ?_
        obtain rfl := Option.some.inj hh
        exact v_iret dX10_endsFirst_61 rfl (Nat.zero_le _) (Nat.zero_le _) ⟨rfl, rfl⟩
      · replace hh := (if_pos c).symm.trans hh
        refine v_iload_n 1 dX10_endsFirst_56 rfl rfl ?_
        refine v_goto (tgt := 61) dX10_endsFirst_57 (by decide) ?_
        obtain rfl := Option.some.inj hh
        exact v_iret dX10_endsFirst_61 rfl (Nat.zero_le _) (Nat.zero_le _) ⟨rfl, rfl⟩
  · replace hh := (if_pos c).symm.trans hh
    refine v_iconst dX10_endsFirst_8 (by decide : _ = (-1 : Int32)) ?_
    obtain rfl := Option.some.inj hh
    exact v_iret dX10_endsFirst_9 rfl (Nat.zero_le _) (Nat.zero_le _) ⟨rfl, rfl⟩
def f_X10_patches_b92 (rec26 : (Int32 → Int32 → Int32 → Int32 → St → Option (Int32 × St))) (N : Nat) (x1 : Int32) (x2 : Int32) (x3 : Int32) (x4 : Int32) (x5 : Int32) (s0 : Int32) (s1 : Int32) (S : St) : Option (Int32 × St) :=
  lt (s1 + s0) fun v9 =>
  chk (inb ((23 : Int32) + x4) 3015) (
  if (gI S 1000 0 ((23 : Int32) + x4).toNatClampNeg) = (0 : Int32) then
  (chk (inb (x4 + (1 : Int32)) 19) (
  chk (inb x4 19) (
  lt (sI S 1028 0 x4.toNatClampNeg (gI S 1028 0 (x4 + (1 : Int32)).toNatClampNeg)) fun S19 =>
  lt (x4 + (-1 : Int32)) fun v20 =>
  rec26 x1 x2 x3 v20 S19)))
  else
  (if v9 ≤ x5 then
  (chk (inb x4 19) (
  lt (sI S 1028 0 x4.toNatClampNeg v9) fun S12 =>
  lt (x4 + (-1 : Int32)) fun v13 =>
  rec26 x1 x2 x3 v13 S12))
  else
  (chk (inb x4 19) (
  lt (sI S 1028 0 x4.toNatClampNeg x5) fun S15 =>
  lt (x4 + (-1 : Int32)) fun v16 =>
  rec26 x1 x2 x3 v16 S15))))
set_option maxRecDepth 100000 in
set_option maxHeartbeats 4000000 in
theorem tb_X10_patches_92 {l : Launch} {G : v_G} {N : Nat}    {r : Int32 × St} {rec26 : (Int32 → Int32 → Int32 → Int32 → St → Option (Int32 × St))} (hrec26 : ∀ (x1 : Int32) (x2 : Int32) (x3 : Int32) (x4 : Int32) (S : St),  rec26 x1 x2 x3 x4 S = some r → V l G yX10_patches cX10_patches 7 (some .int) (v_rm 1 0 0) (QI r.1 (lay G r.2)) 0 0 26 [(0, .ref (v_B G + 291)), (1, .int x1), (2, .int x2), (3, .int x3), (4, .int x4)] [] (lay G S)) : ∀ (x1 : Int32) (x2 : Int32) (x3 : Int32) (x4 : Int32) (x5 : Int32) (s0 : Int32) (s1 : Int32) (S : St),  f_X10_patches_b92 rec26 N x1 x2 x3 x4 x5 s0 s1 S = some r → V l G yX10_patches cX10_patches 7 (some .int) (v_rm 1 0 0) (QI r.1 (lay G r.2)) 0 0 92 [(0, .ref (v_B G + 291)), (1, .int x1), (2, .int x2), (3, .int x3), (4, .int x4), (5, .int x5)] [.int s0, .int s1] (lay G S) := by
  intro x1 x2 x3 x4 x5 s0 s1 S  hh
  unfold f_X10_patches_b92 at hh
  refine v_iadd dX10_patches_92 ?_
  refine v_istore dX10_patches_93 (by decide) rfl ?_
  replace hh := lt_of hh
  refine v_aload_n 1 dX10_patches_95 rfl rfl ?_
  refine r_Model_covers dX10_patches_96 fl_X10_56 ?_
  refine v_iload 5 dX10_patches_99 rfl ?_
  refine v_aload_n 1 dX10_patches_101 rfl rfl ?_
  refine r_Model_a dX10_patches_102 fl_X10_7 ?_
  refine v_bipush dX10_patches_105 (by decide : _ = (23 : Int32)) ?_
  refine v_iload 5 dX10_patches_107 rfl ?_
  refine v_iadd dX10_patches_109 ?_
  obtain ⟨g10, hh⟩ := chk_some hh
  replace g10 := inb_in g10
  refine ld_ma dX10_patches_110 g10 ?_
  refine v_if_ne (tgt := 126) dX10_patches_111 (by decide) (fun c => ?_) (fun c => ?_)
  · replace hh := (if_neg c).symm.trans hh
    refine v_iload 6 dX10_patches_126 rfl ?_
    refine v_iload 0 dX10_patches_128 rfl ?_
    refine v_icmp_ge (tgt := 138) dX10_patches_130 (by decide) (fun c => ?_) (fun c => ?_)
    · replace hh := (if_pos c).symm.trans hh
      refine v_iload 0 dX10_patches_138 rfl ?_
      obtain ⟨g11, hh⟩ := chk_some hh
      replace g11 := inb_in g11
      refine st_covers dX10_patches_140 g11 ?_
      replace hh := lt_of hh
      refine v_iinc (v := _ + (-1 : Int32)) 5 dX10_patches_141 rfl rfl (by decide) rfl ?_
      replace hh := lt_of hh
      refine v_goto (tgt := 26) dX10_patches_144 (by decide) ?_
      exact v_sub [2, 3, 4, 5, 0] rfl (hrec26 _ _ _ _ _ hh)
    · replace hh := (if_neg c).symm.trans hh
      refine v_iload 6 dX10_patches_133 rfl ?_
      refine v_goto (tgt := 140) dX10_patches_135 (by decide) ?_
      obtain ⟨g14, hh⟩ := chk_some hh
      replace g14 := inb_in g14
      refine st_covers dX10_patches_140 g14 ?_
      replace hh := lt_of hh
      refine v_iinc (v := _ + (-1 : Int32)) 5 dX10_patches_141 rfl rfl (by decide) rfl ?_
      replace hh := lt_of hh
      refine v_goto (tgt := 26) dX10_patches_144 (by decide) ?_
      exact v_sub [2, 3, 4, 5, 0] rfl (hrec26 _ _ _ _ _ hh)
  · replace hh := (if_pos c).symm.trans hh
    refine v_aload_n 1 dX10_patches_114 rfl rfl ?_
    refine r_Model_covers dX10_patches_115 fl_X10_56 ?_
    refine v_iload 5 dX10_patches_118 rfl ?_
    refine v_iconst dX10_patches_120 (by decide : _ = (1 : Int32)) ?_
    refine v_iadd dX10_patches_121 ?_
    obtain ⟨g17, hh⟩ := chk_some hh
    replace g17 := inb_in g17
    refine ld_covers dX10_patches_122 g17 ?_
    refine v_goto (tgt := 140) dX10_patches_123 (by decide) ?_
    obtain ⟨g18, hh⟩ := chk_some hh
    replace g18 := inb_in g18
    refine st_covers dX10_patches_140 g18 ?_
    replace hh := lt_of hh
    refine v_iinc (v := _ + (-1 : Int32)) 5 dX10_patches_141 rfl rfl (by decide) rfl ?_
    replace hh := lt_of hh
    refine v_goto (tgt := 26) dX10_patches_144 (by decide) ?_
    exact v_sub [2, 3, 4, 5, 0] rfl (hrec26 _ _ _ _ _ hh)
def f_X10_patches_b69 (rec26 : (Int32 → Int32 → Int32 → Int32 → St → Option (Int32 × St))) (N : Nat) (x1 : Int32) (x2 : Int32) (x3 : Int32) (x4 : Int32) (s0 : Int32) (s1 : Int32) (S : St) : Option (Int32 × St) :=
  lt (s1 + s0) fun v7 =>
  chk (inb (x4 + x2) 19) (
  if x3 = (0 : Int32) then
  (f_X10_patches_b92 rec26 N x1 x2 x3 x4 v7 (1 : Int32) (gI S 1028 0 (x4 + x2).toNatClampNeg) S)
  else
  (f_X10_patches_b92 rec26 N x1 x2 x3 x4 v7 (x2 + (2 : Int32)) (gI S 1028 0 (x4 + x2).toNatClampNeg) S))
set_option maxRecDepth 100000 in
set_option maxHeartbeats 4000000 in
theorem tb_X10_patches_69 {l : Launch} {G : v_G} {N : Nat}    {r : Int32 × St} {rec26 : (Int32 → Int32 → Int32 → Int32 → St → Option (Int32 × St))} (hrec26 : ∀ (x1 : Int32) (x2 : Int32) (x3 : Int32) (x4 : Int32) (S : St),  rec26 x1 x2 x3 x4 S = some r → V l G yX10_patches cX10_patches 7 (some .int) (v_rm 1 0 0) (QI r.1 (lay G r.2)) 0 0 26 [(0, .ref (v_B G + 291)), (1, .int x1), (2, .int x2), (3, .int x3), (4, .int x4)] [] (lay G S)) : ∀ (x1 : Int32) (x2 : Int32) (x3 : Int32) (x4 : Int32) (s0 : Int32) (s1 : Int32) (S : St),  f_X10_patches_b69 rec26 N x1 x2 x3 x4 s0 s1 S = some r → V l G yX10_patches cX10_patches 7 (some .int) (v_rm 1 0 0) (QI r.1 (lay G r.2)) 0 0 69 [(0, .ref (v_B G + 291)), (1, .int x1), (2, .int x2), (3, .int x3), (4, .int x4)] [.int s0, .int s1] (lay G S) := by
  intro x1 x2 x3 x4 s0 s1 S  hh
  unfold f_X10_patches_b69 at hh
  refine v_iadd dX10_patches_69 ?_
  refine v_istore dX10_patches_70 (by decide) rfl ?_
  replace hh := lt_of hh
  refine v_aload_n 1 dX10_patches_72 rfl rfl ?_
  refine r_Model_covers dX10_patches_73 fl_X10_56 ?_
  refine v_iload 5 dX10_patches_76 rfl ?_
  refine v_iload_n 3 dX10_patches_78 rfl rfl ?_
  refine v_iadd dX10_patches_79 ?_
  obtain ⟨g8, hh⟩ := chk_some hh
  replace g8 := inb_in g8
  refine ld_covers dX10_patches_80 g8 ?_
  refine v_iload_n 4 dX10_patches_81 rfl rfl ?_
  refine v_if_eq (tgt := 91) dX10_patches_82 (by decide) (fun c => ?_) (fun c => ?_)
  · replace hh := (if_pos c).symm.trans hh
    refine v_iconst dX10_patches_91 (by decide : _ = (1 : Int32)) ?_
    exact v_sub [1, 2, 3, 4, 5, 0] rfl (tb_X10_patches_92 hrec26 _ _ _ _ _ _ _ _ hh)
  · replace hh := (if_neg c).symm.trans hh
    refine v_iload_n 3 dX10_patches_85 rfl rfl ?_
    refine v_iconst dX10_patches_86 (by decide : _ = (2 : Int32)) ?_
    refine v_iadd dX10_patches_87 ?_
    refine v_goto (tgt := 92) dX10_patches_88 (by decide) ?_
    exact v_sub [1, 2, 3, 4, 5, 0] rfl (tb_X10_patches_92 hrec26 _ _ _ _ _ _ _ _ hh)
def f_X10_patches_b26 (N : Nat) : Nat → Int32 → Int32 → Int32 → Int32 → St → Option (Int32 × St)
  | 0, _, _, _, _, _ => none
  | n + 1, x1, x2, x3, x4, S =>
  if x4 < (0 : Int32) then
  (some (gI S 1028 0 0, S))
  else
  (chk (inb x4 19) (
  lt (sI S 1028 0 x4.toNatClampNeg (0 : Int32)) fun S5 =>
  if x4 < (12 : Int32) then
  (chk (inb (x4 + x1) 19) (
  if x3 = (0 : Int32) then
  (f_X10_patches_b69 (f_X10_patches_b26 N n) N x1 x2 x3 x4 (1 : Int32) (gI S5 1028 0 (x4 + x1).toNatClampNeg) S5)
  else
  (f_X10_patches_b69 (f_X10_patches_b26 N n) N x1 x2 x3 x4 (x1 + (2 : Int32)) (gI S5 1028 0 (x4 + x1).toNatClampNeg) S5)))
  else
  (lt (x4 + (-1 : Int32)) fun v21 =>
  f_X10_patches_b26 N n x1 x2 x3 v21 S5)))
set_option maxRecDepth 100000 in
set_option maxHeartbeats 4000000 in
theorem tb_X10_patches_26 {l : Launch} {G : v_G} {N : Nat}    {r : Int32 × St}   : ∀ (n : Nat) (x1 : Int32) (x2 : Int32) (x3 : Int32) (x4 : Int32) (S : St),  f_X10_patches_b26 N n x1 x2 x3 x4 S = some r → V l G yX10_patches cX10_patches 7 (some .int) (v_rm 1 0 0) (QI r.1 (lay G r.2)) 0 0 26 [(0, .ref (v_B G + 291)), (1, .int x1), (2, .int x2), (3, .int x3), (4, .int x4)] [] (lay G S) := by
  intro n
  induction n with
  | zero =>
    intro x1 x2 x3 x4 S  hh
    rw [f_X10_patches_b26] at hh
    cases hh
  | succ n ih =>
    intro x1 x2 x3 x4 S  hh
    rw [f_X10_patches_b26] at hh
    refine v_iload 4 dX10_patches_26 rfl ?_
    refine v_if_lt (tgt := 147) dX10_patches_28 (by decide) (fun c => ?_) (fun c => ?_)
    · replace hh := (if_pos c).symm.trans hh
      refine v_aload_n 0 dX10_patches_147 rfl rfl ?_
      refine r_Model_covers dX10_patches_148 fl_X10_56 ?_
      refine v_iconst dX10_patches_151 (by decide : _ = (0 : Int32)) ?_
      refine ld_covers dX10_patches_152 (inb_in (by decide)) ?_
      obtain rfl := Option.some.inj hh
      exact v_iret dX10_patches_153 rfl (Nat.zero_le _) (Nat.zero_le _) ⟨rfl, rfl⟩
    · replace hh := (if_neg c).symm.trans hh
      refine v_aload_n 0 dX10_patches_31 rfl rfl ?_
      refine r_Model_covers dX10_patches_32 fl_X10_56 ?_
      refine v_iload 4 dX10_patches_35 rfl ?_
      refine v_iconst dX10_patches_37 (by decide : _ = (0 : Int32)) ?_
      obtain ⟨g4, hh⟩ := chk_some hh
      replace g4 := inb_in g4
      refine st_covers dX10_patches_38 g4 ?_
      replace hh := lt_of hh
      refine v_iload 4 dX10_patches_39 rfl ?_
      refine v_bipush dX10_patches_41 (by decide : _ = (12 : Int32)) ?_
      refine v_icmp_lt (tgt := 49) dX10_patches_43 (by decide) (fun c => ?_) (fun c => ?_)
      · replace hh := (if_pos c).symm.trans hh
        refine v_aload_n 0 dX10_patches_49 rfl rfl ?_
        refine r_Model_covers dX10_patches_50 fl_X10_56 ?_
        refine v_iload 4 dX10_patches_53 rfl ?_
        refine v_iload_n 1 dX10_patches_55 rfl rfl ?_
        refine v_iadd dX10_patches_56 ?_
        obtain ⟨g6, hh⟩ := chk_some hh
        replace g6 := inb_in g6
        refine ld_covers dX10_patches_57 g6 ?_
        refine v_iload_n 3 dX10_patches_58 rfl rfl ?_
        refine v_if_eq (tgt := 68) dX10_patches_59 (by decide) (fun c => ?_) (fun c => ?_)
        · replace hh := (if_pos c).symm.trans hh
          refine v_iconst dX10_patches_68 (by decide : _ = (1 : Int32)) ?_
          exact v_sub [0, 1, 2, 3, 4] rfl (tb_X10_patches_69 (fun _ _ _ _ _ hh => ih _ _ _ _ _ hh) _ _ _ _ _ _ _ hh)
        · replace hh := (if_neg c).symm.trans hh
          refine v_iload_n 1 dX10_patches_62 rfl rfl ?_
          refine v_iconst dX10_patches_63 (by decide : _ = (2 : Int32)) ?_
          refine v_iadd dX10_patches_64 ?_
          refine v_goto (tgt := 69) dX10_patches_65 (by decide) ?_
          exact v_sub [0, 1, 2, 3, 4] rfl (tb_X10_patches_69 (fun _ _ _ _ _ hh => ih _ _ _ _ _ hh) _ _ _ _ _ _ _ hh)
      · replace hh := (if_neg c).symm.trans hh
        refine v_goto (tgt := 141) dX10_patches_46 (by decide) ?_
        refine v_iinc (v := _ + (-1 : Int32)) 4 dX10_patches_141 rfl rfl (by decide) rfl ?_
        replace hh := lt_of hh
        refine v_goto (tgt := 26) dX10_patches_144 (by decide) ?_
        exact v_sub [1, 2, 3, 4, 0] rfl (ih _ _ _ _ _ hh)
def f_X10_patches (N : Nat) (S : St) (x1 : Int32) (x2 : Int32) (x3 : Int32) : Option (Int32 × St) :=
  bnd (f_X10_isIn S x1 (1 : Int32) (6 : Int32)) fun q1 =>
 if q1 = (0 : Int32) then
  (some ((-1 : Int32), S))
  else
  (bnd (f_X10_isIn S x2 (1 : Int32) (6 : Int32)) fun q2 =>
 if q2 = (0 : Int32) then
  (some ((-1 : Int32), S))
  else
  (f_X10_patches_b26 N N x1 x2 x3 (18 : Int32) S))
set_option maxRecDepth 100000 in
set_option maxHeartbeats 4000000 in
theorem t_X10_patches {l : Launch} {G : v_G} {N : Nat} {S : St}   {x1 : Int32} {x2 : Int32} {x3 : Int32} {r : Int32 × St} (hh : f_X10_patches N S x1 x2 x3 = some r) : v_M l G yX10_patches cX10_patches 7 (some .int) 1 0 0 [.ref (v_B G + 291), .int x1, .int x2, .int x3] (lay G S) (QI r.1 (lay G r.2)) := by
  refine v_entry (by decide) (Nat.le_of_ble_eq_true rfl) ?_
  unfold f_X10_patches at hh
  show V l G yX10_patches cX10_patches 7 (some .int) (v_rm 1 0 0) (QI r.1 (lay G r.2)) 0 0 0 [(0, .ref (v_B G + 291)), (1, .int x1), (2, .int x2), (3, .int x3)] [] (lay G S)
  refine v_iload_n 1 dX10_patches_0 rfl rfl ?_
  refine v_iconst dX10_patches_1 (by decide : _ = (1 : Int32)) ?_
  refine v_bipush dX10_patches_2 (by decide : _ = (6 : Int32)) ?_
  obtain ⟨q1, eq1, hh⟩ := bnd_some hh
  refine v_callSi (t_X10_isIn eq1) dX10_patches_4 y_X10_isIn ml_X10_63 rfl rfl (Nat.le_of_ble_eq_true rfl) ⟨(Nat.le_of_ble_eq_true rfl), (Nat.le_of_ble_eq_true rfl)⟩ ⟨Nat.zero_le _, Nat.zero_le _⟩ ?_
  refine v_if_eq (tgt := 20) dX10_patches_7 (by decide) (fun c => ?_) (fun c => ?_)
  · replace hh := (if_pos c).symm.trans hh
    refine v_iconst dX10_patches_20 (by decide : _ = (-1 : Int32)) ?_
    obtain rfl := Option.some.inj hh
    exact v_iret dX10_patches_21 rfl (Nat.zero_le _) (Nat.zero_le _) ⟨rfl, rfl⟩
  · replace hh := (if_neg c).symm.trans hh
    refine v_iload_n 2 dX10_patches_10 rfl rfl ?_
    refine v_iconst dX10_patches_11 (by decide : _ = (1 : Int32)) ?_
    refine v_bipush dX10_patches_12 (by decide : _ = (6 : Int32)) ?_
    obtain ⟨q2, eq2, hh⟩ := bnd_some hh
    refine v_callSi (t_X10_isIn eq2) dX10_patches_14 y_X10_isIn ml_X10_63 rfl rfl (Nat.le_of_ble_eq_true rfl) ⟨(Nat.le_of_ble_eq_true rfl), (Nat.le_of_ble_eq_true rfl)⟩ ⟨Nat.zero_le _, Nat.zero_le _⟩ ?_
    refine v_if_ne (tgt := 22) dX10_patches_17 (by decide) (fun c => ?_) (fun c => ?_)
    · replace hh := (if_neg c).symm.trans hh
      refine v_bipush dX10_patches_22 (by decide : _ = (18 : Int32)) ?_
      refine v_istore dX10_patches_24 (by decide) rfl ?_
      exact v_sub [1, 2, 3, 4, 0] rfl (tb_X10_patches_26 N _ _ _ _ _ hh)
    · replace hh := (if_pos c).symm.trans hh
      refine v_iconst dX10_patches_20 (by decide : _ = (-1 : Int32)) ?_
      obtain rfl := Option.some.inj hh
      exact v_iret dX10_patches_21 rfl (Nat.zero_le _) (Nat.zero_le _) ⟨rfl, rfl⟩
def f_X10_isStroked_b33 (N : Nat) (s0 : Int32) (s1 : Int32) (s2 : Int32) (S : St) : Option (Int32 × St) :=
  bnd (f_X10_strokeNow N S s2 s1 s0) fun q2 =>
 if q2.1 < (0 : Int32) then
  (some ((0 : Int32), q2.2))
  else
  (some ((1 : Int32), q2.2))
set_option maxRecDepth 100000 in
set_option maxHeartbeats 4000000 in
theorem tb_X10_isStroked_33 {l : Launch} {G : v_G} {N : Nat}    {r : Int32 × St}   : ∀ (s0 : Int32) (s1 : Int32) (s2 : Int32) (S : St),  f_X10_isStroked_b33 N s0 s1 s2 S = some r → V l G yX10_isStroked cX10_isStroked 3 (some .boolean) (v_rm 7 0 0) (QI r.1 (lay G r.2)) 0 0 33 [] [.int s0, .int s1, .int s2, .ref (v_B G + 291)] (lay G S) := by
  intro s0 s1 s2 S  hh
  unfold f_X10_isStroked_b33 at hh
  obtain ⟨q2, eq2, hh⟩ := bnd_some hh
  refine v_callVi (t_X10_strokeNow eq2) dX10_isStroked_33 y_X10_strokeNow ml_X10_307 (ci := 9) rfl rfl (e_Model) rfl rfl (Nat.le_of_ble_eq_true rfl) ⟨(Nat.le_of_ble_eq_true rfl), (Nat.le_of_ble_eq_true rfl)⟩ ⟨Nat.zero_le _, Nat.zero_le _⟩ ?_
  refine v_if_lt (tgt := 43) dX10_isStroked_36 (by decide) (fun c => ?_) (fun c => ?_)
  · replace hh := (if_pos c).symm.trans hh
    refine v_iconst dX10_isStroked_43 (by decide : _ = (0 : Int32)) ?_
    obtain rfl := Option.some.inj hh
    exact v_zret dX10_isStroked_44 rfl (zb (by decide)).1 (Nat.zero_le _) (Nat.zero_le _) ⟨rfl, rfl⟩
  · replace hh := (if_neg c).symm.trans hh
    refine v_iconst dX10_isStroked_39 (by decide : _ = (1 : Int32)) ?_
    refine v_goto (tgt := 44) dX10_isStroked_40 (by decide) ?_
    obtain rfl := Option.some.inj hh
    exact v_zret dX10_isStroked_44 rfl (zb (by decide)).1 (Nat.zero_le _) (Nat.zero_le _) ⟨rfl, rfl⟩
def f_X10_isStroked (N : Nat) (S : St) (x1 : Int32) (x2 : Int32) : Option (Int32 × St) :=
  chk (inb ((11 : Int32) + (x2 / (2 : Int32))) 3015) (
  if (gI S 1000 0 ((11 : Int32) + (x2 / (2 : Int32))).toNatClampNeg) = (0 : Int32) then
  (some ((0 : Int32), S))
  else
  (if (x2 - x2 / (2 : Int32) * (2 : Int32)) = (1 : Int32) then
  (f_X10_isStroked_b33 N (1 : Int32) (x2 / (2 : Int32)) x1 S)
  else
  (f_X10_isStroked_b33 N (0 : Int32) (x2 / (2 : Int32)) x1 S)))
set_option maxRecDepth 100000 in
set_option maxHeartbeats 4000000 in
theorem t_X10_isStroked {l : Launch} {G : v_G} {N : Nat} {S : St}   {x1 : Int32} {x2 : Int32} {r : Int32 × St} (hh : f_X10_isStroked N S x1 x2 = some r) : v_M l G yX10_isStroked cX10_isStroked 3 (some .boolean) 7 0 0 [.ref (v_B G + 291), .int x1, .int x2] (lay G S) (QI r.1 (lay G r.2)) := by
  refine v_entry (by decide) (Nat.le_of_ble_eq_true rfl) ?_
  unfold f_X10_isStroked at hh
  show V l G yX10_isStroked cX10_isStroked 3 (some .boolean) (v_rm 7 0 0) (QI r.1 (lay G r.2)) 0 0 0 [(0, .ref (v_B G + 291)), (1, .int x1), (2, .int x2)] [] (lay G S)
  refine v_aload_n 0 dX10_isStroked_0 rfl rfl ?_
  refine r_Model_a dX10_isStroked_1 fl_X10_7 ?_
  refine v_bipush dX10_isStroked_4 (by decide : _ = (11 : Int32)) ?_
  refine v_iload_n 2 dX10_isStroked_6 rfl rfl ?_
  refine v_iconst dX10_isStroked_7 (by decide : _ = (2 : Int32)) ?_
  refine v_idiv dX10_isStroked_8 (by decide) ?_
  refine v_iadd dX10_isStroked_9 ?_
  obtain ⟨g1, hh⟩ := chk_some hh
  replace g1 := inb_in g1
  refine ld_ma dX10_isStroked_10 g1 ?_
  refine v_if_ne (tgt := 16) dX10_isStroked_11 (by decide) (fun c => ?_) (fun c => ?_)
  · replace hh := (if_neg c).symm.trans hh
    refine v_aload_n 0 dX10_isStroked_16 rfl rfl ?_
    refine v_iload_n 1 dX10_isStroked_17 rfl rfl ?_
    refine v_iload_n 2 dX10_isStroked_18 rfl rfl ?_
    refine v_iconst dX10_isStroked_19 (by decide : _ = (2 : Int32)) ?_
    refine v_idiv dX10_isStroked_20 (by decide) ?_
    refine v_iload_n 2 dX10_isStroked_21 rfl rfl ?_
    refine v_iconst dX10_isStroked_22 (by decide : _ = (2 : Int32)) ?_
    refine v_irem dX10_isStroked_23 (by decide) ?_
    refine v_iconst dX10_isStroked_24 (by decide : _ = (1 : Int32)) ?_
    refine v_icmp_ne (tgt := 32) dX10_isStroked_25 (by decide) (fun c => ?_) (fun c => ?_)
    · replace hh := (if_neg c).symm.trans hh
      refine v_iconst dX10_isStroked_32 (by decide : _ = (0 : Int32)) ?_
      exact v_sub [] rfl (tb_X10_isStroked_33 _ _ _ _ hh)
    · replace hh := (if_pos c).symm.trans hh
      refine v_iconst dX10_isStroked_28 (by decide : _ = (1 : Int32)) ?_
      refine v_goto (tgt := 33) dX10_isStroked_29 (by decide) ?_
      exact v_sub [] rfl (tb_X10_isStroked_33 _ _ _ _ hh)
  · replace hh := (if_pos c).symm.trans hh
    refine v_iconst dX10_isStroked_14 (by decide : _ = (0 : Int32)) ?_
    obtain rfl := Option.some.inj hh
    exact v_zret dX10_isStroked_15 rfl (zb (by decide)).1 (Nat.zero_le _) (Nat.zero_le _) ⟨rfl, rfl⟩
def f_X10_areStroked_b28 (N : Nat) : Nat → Int32 → Int32 → Int32 → Int32 → Int32 → St → Option (Int32 × St)
  | 0, _, _, _, _, _, _ => none
  | n + 1, x1, x2, x3, x4, x5, S =>
  if x3 ≤ x5 then
  (some ((1 : Int32), S))
  else
  (chk (nz x4) (
  bnd (f_X10_isStroked N S x1 ((x2 / x4) - (x2 / x4) / (24 : Int32) * (24 : Int32))) fun q1 =>
 if q1.1 = (0 : Int32) then
  (some ((0 : Int32), q1.2))
  else
  (if x4 ≤ (1 : Int32) then
  (lt (x5 + (1 : Int32)) fun v2 =>
  f_X10_areStroked_b28 N n x1 x2 x3 (1 : Int32) v2 q1.2)
  else
  (lt (x4 / (24 : Int32)) fun v3 =>
  lt (x5 + (1 : Int32)) fun v4 =>
  f_X10_areStroked_b28 N n x1 x2 x3 v3 v4 q1.2))))
set_option maxRecDepth 100000 in
set_option maxHeartbeats 4000000 in
theorem tb_X10_areStroked_28 {l : Launch} {G : v_G} {N : Nat}    {r : Int32 × St}   : ∀ (n : Nat) (x1 : Int32) (x2 : Int32) (x3 : Int32) (x4 : Int32) (x5 : Int32) (S : St),  f_X10_areStroked_b28 N n x1 x2 x3 x4 x5 S = some r → V l G yX10_areStroked cX10_areStroked 6 (some .boolean) (v_rm 8 0 0) (QI r.1 (lay G r.2)) 0 0 28 [(0, .ref (v_B G + 291)), (1, .int x1), (2, .int x2), (3, .int x3), (4, .int x4), (5, .int x5)] [] (lay G S) := by
  intro n
  induction n with
  | zero =>
    intro x1 x2 x3 x4 x5 S  hh
    rw [f_X10_areStroked_b28] at hh
    cases hh
  | succ n ih =>
    intro x1 x2 x3 x4 x5 S  hh
    rw [f_X10_areStroked_b28] at hh
    refine v_iload 5 dX10_areStroked_28 rfl ?_
    refine v_iload_n 3 dX10_areStroked_30 rfl rfl ?_
    refine v_icmp_ge (tgt := 74) dX10_areStroked_31 (by decide) (fun c => ?_) (fun c => ?_)
    · replace hh := (if_pos c).symm.trans hh
      refine v_iconst dX10_areStroked_74 (by decide : _ = (1 : Int32)) ?_
      obtain rfl := Option.some.inj hh
      exact v_zret dX10_areStroked_75 rfl (zb (by decide)).1 (Nat.zero_le _) (Nat.zero_le _) ⟨rfl, rfl⟩
    · replace hh := (if_neg c).symm.trans hh
      refine v_aload_n 0 dX10_areStroked_34 rfl rfl ?_
      refine v_iload_n 1 dX10_areStroked_35 rfl rfl ?_
      refine v_iload_n 2 dX10_areStroked_36 rfl rfl ?_
      refine v_iload 4 dX10_areStroked_37 rfl ?_
      obtain ⟨g, hh⟩ := chk_some hh
      refine v_idiv dX10_areStroked_39 (nz_ne g) ?_
      refine v_bipush dX10_areStroked_40 (by decide : _ = (24 : Int32)) ?_
      refine v_irem dX10_areStroked_42 (by decide) ?_
      obtain ⟨q1, eq1, hh⟩ := bnd_some hh
      refine v_callVi (t_X10_isStroked eq1) dX10_areStroked_43 y_X10_isStroked ml_X10_396 (ci := 9) rfl rfl (e_Model) rfl rfl (Nat.le_of_ble_eq_true rfl) ⟨(Nat.le_of_ble_eq_true rfl), (Nat.le_of_ble_eq_true rfl)⟩ ⟨Nat.zero_le _, Nat.zero_le _⟩ ?_
      refine v_if_ne (tgt := 51) dX10_areStroked_46 (by decide) (fun c => ?_) (fun c => ?_)
      · replace hh := (if_neg c).symm.trans hh
        refine v_iload 4 dX10_areStroked_51 rfl ?_
        refine v_iconst dX10_areStroked_53 (by decide : _ = (1 : Int32)) ?_
        refine v_icmp_le (tgt := 65) dX10_areStroked_54 (by decide) (fun c => ?_) (fun c => ?_)
        · replace hh := (if_pos c).symm.trans hh
          refine v_iconst dX10_areStroked_65 (by decide : _ = (1 : Int32)) ?_
          refine v_istore dX10_areStroked_66 (by decide) rfl ?_
          refine v_iinc (v := _ + (1 : Int32)) 5 dX10_areStroked_68 rfl rfl (by decide) rfl ?_
          replace hh := lt_of hh
          refine v_goto (tgt := 28) dX10_areStroked_71 (by decide) ?_
          exact v_sub [2, 3, 4, 5, 1, 0] rfl (ih _ _ _ _ _ _ hh)
        · replace hh := (if_neg c).symm.trans hh
          refine v_iload 4 dX10_areStroked_57 rfl ?_
          refine v_bipush dX10_areStroked_59 (by decide : _ = (24 : Int32)) ?_
          refine v_idiv dX10_areStroked_61 (by decide) ?_
          refine v_goto (tgt := 66) dX10_areStroked_62 (by decide) ?_
          refine v_istore dX10_areStroked_66 (by decide) rfl ?_
          replace hh := lt_of hh
          refine v_iinc (v := _ + (1 : Int32)) 5 dX10_areStroked_68 rfl rfl (by decide) rfl ?_
          replace hh := lt_of hh
          refine v_goto (tgt := 28) dX10_areStroked_71 (by decide) ?_
          exact v_sub [2, 3, 4, 5, 1, 0] rfl (ih _ _ _ _ _ _ hh)
      · replace hh := (if_pos c).symm.trans hh
        refine v_iconst dX10_areStroked_49 (by decide : _ = (0 : Int32)) ?_
        obtain rfl := Option.some.inj hh
        exact v_zret dX10_areStroked_50 rfl (zb (by decide)).1 (Nat.zero_le _) (Nat.zero_le _) ⟨rfl, rfl⟩
def f_X10_areStroked_b6 (N : Nat) : Nat → Int32 → Int32 → Int32 → Int32 → Int32 → St → Option (Int32 × St)
  | 0, _, _, _, _, _, _ => none
  | n + 1, x1, x2, x3, x4, x5, S =>
  if x3 ≤ x5 then
  (f_X10_areStroked_b28 N N x1 x2 x3 x4 (0 : Int32) S)
  else
  (lt (x4 * (24 : Int32)) fun v5 =>
  lt (x5 + (1 : Int32)) fun v6 =>
  f_X10_areStroked_b6 N n x1 x2 x3 v5 v6 S)
set_option maxRecDepth 100000 in
set_option maxHeartbeats 4000000 in
theorem tb_X10_areStroked_6 {l : Launch} {G : v_G} {N : Nat}    {r : Int32 × St}   : ∀ (n : Nat) (x1 : Int32) (x2 : Int32) (x3 : Int32) (x4 : Int32) (x5 : Int32) (S : St),  f_X10_areStroked_b6 N n x1 x2 x3 x4 x5 S = some r → V l G yX10_areStroked cX10_areStroked 6 (some .boolean) (v_rm 8 0 0) (QI r.1 (lay G r.2)) 0 0 6 [(0, .ref (v_B G + 291)), (1, .int x1), (2, .int x2), (3, .int x3), (4, .int x4), (5, .int x5)] [] (lay G S) := by
  intro n
  induction n with
  | zero =>
    intro x1 x2 x3 x4 x5 S  hh
    rw [f_X10_areStroked_b6] at hh
    cases hh
  | succ n ih =>
    intro x1 x2 x3 x4 x5 S  hh
    rw [f_X10_areStroked_b6] at hh
    refine v_iload 5 dX10_areStroked_6 rfl ?_
    refine v_iload_n 3 dX10_areStroked_8 rfl rfl ?_
    refine v_icmp_ge (tgt := 25) dX10_areStroked_9 (by decide) (fun c => ?_) (fun c => ?_)
    · replace hh := (if_pos c).symm.trans hh
      refine v_iconst dX10_areStroked_25 (by decide : _ = (0 : Int32)) ?_
      refine v_istore dX10_areStroked_26 (by decide) rfl ?_
      exact v_sub [1, 2, 3, 4, 5, 0] rfl (tb_X10_areStroked_28 N _ _ _ _ _ _ hh)
    · replace hh := (if_neg c).symm.trans hh
      refine v_iload 4 dX10_areStroked_12 rfl ?_
      refine v_bipush dX10_areStroked_14 (by decide : _ = (24 : Int32)) ?_
      refine v_imul dX10_areStroked_16 ?_
      refine v_istore dX10_areStroked_17 (by decide) rfl ?_
      replace hh := lt_of hh
      refine v_iinc (v := _ + (1 : Int32)) 5 dX10_areStroked_19 rfl rfl (by decide) rfl ?_
      replace hh := lt_of hh
      refine v_goto (tgt := 6) dX10_areStroked_22 (by decide) ?_
      exact v_sub [2, 3, 4, 5, 1, 0] rfl (ih _ _ _ _ _ _ hh)
def f_X10_areStroked (N : Nat) (S : St) (x1 : Int32) (x2 : Int32) (x3 : Int32) : Option (Int32 × St) :=
  f_X10_areStroked_b6 N N x1 x2 x3 (1 : Int32) (1 : Int32) S
set_option maxRecDepth 100000 in
set_option maxHeartbeats 4000000 in
theorem t_X10_areStroked {l : Launch} {G : v_G} {N : Nat} {S : St}   {x1 : Int32} {x2 : Int32} {x3 : Int32} {r : Int32 × St} (hh : f_X10_areStroked N S x1 x2 x3 = some r) : v_M l G yX10_areStroked cX10_areStroked 6 (some .boolean) 8 0 0 [.ref (v_B G + 291), .int x1, .int x2, .int x3] (lay G S) (QI r.1 (lay G r.2)) := by
  refine v_entry (by decide) (Nat.le_of_ble_eq_true rfl) ?_
  unfold f_X10_areStroked at hh
  show V l G yX10_areStroked cX10_areStroked 6 (some .boolean) (v_rm 8 0 0) (QI r.1 (lay G r.2)) 0 0 0 [(0, .ref (v_B G + 291)), (1, .int x1), (2, .int x2), (3, .int x3)] [] (lay G S)
  refine v_iconst dX10_areStroked_0 (by decide : _ = (1 : Int32)) ?_
  refine v_istore dX10_areStroked_1 (by decide) rfl ?_
  refine v_iconst dX10_areStroked_3 (by decide : _ = (1 : Int32)) ?_
  refine v_istore dX10_areStroked_4 (by decide) rfl ?_
  exact v_sub [2, 3, 4, 5, 1, 0] rfl (tb_X10_areStroked_6 N _ _ _ _ _ _ hh)
def f_X10_isPlan_b49 (N : Nat) (s0 : Int32) (S : St) : Option (Int32 × St) :=
  bnd (f_X10_putBack N S ) fun q4 =>
 chk (isz s0) (some (s0, q4))
set_option maxRecDepth 100000 in
set_option maxHeartbeats 4000000 in
theorem tb_X10_isPlan_49 {l : Launch} {G : v_G} {N : Nat}    {r : Int32 × St}   : ∀ (s0 : Int32) (S : St),  f_X10_isPlan_b49 N s0 S = some r → V l G yX10_isPlan cX10_isPlan 7 (some .boolean) (v_rm 9 0 0) (QI r.1 (lay G r.2)) 0 0 49 [(0, .ref (v_B G + 291))] [.int s0] (lay G S) := by
  intro s0 S  hh
  unfold f_X10_isPlan_b49 at hh
  refine v_istore dX10_isPlan_49 (by decide) rfl ?_
  refine v_aload_n 1 dX10_isPlan_51 rfl rfl ?_
  obtain ⟨q4, eq4, hh⟩ := bnd_some hh
  refine v_callVv (t_X10_putBack eq4) dX10_isPlan_52 y_X10_putBack ml_X10_375 (ci := 9) rfl rfl (e_Model) rfl rfl (Nat.le_of_ble_eq_true rfl) ⟨(Nat.le_of_ble_eq_true rfl), (Nat.le_of_ble_eq_true rfl)⟩ ⟨Nat.zero_le _, Nat.zero_le _⟩ ?_
  refine v_iload 0 dX10_isPlan_55 rfl ?_
  obtain ⟨g, hh⟩ := chk_some hh
  obtain rfl := Option.some.inj hh
  exact v_zret dX10_isPlan_57 rfl (zb (isz_or g)).1 (Nat.zero_le _) (Nat.zero_le _) ⟨rfl, rfl⟩
def f_X10_isPlan_b48 (N : Nat)  (S : St) : Option (Int32 × St) :=
  f_X10_isPlan_b49 N (0 : Int32) S
set_option maxRecDepth 100000 in
set_option maxHeartbeats 4000000 in
theorem tb_X10_isPlan_48 {l : Launch} {G : v_G} {N : Nat}    {r : Int32 × St}   : ∀  (S : St),  f_X10_isPlan_b48 N  S = some r → V l G yX10_isPlan cX10_isPlan 7 (some .boolean) (v_rm 9 0 0) (QI r.1 (lay G r.2)) 0 0 48 [(0, .ref (v_B G + 291))] [] (lay G S) := by
  intro  S  hh
  unfold f_X10_isPlan_b48 at hh
  refine v_iconst dX10_isPlan_48 (by decide : _ = (0 : Int32)) ?_
  exact v_sub [0] rfl (tb_X10_isPlan_49 _ _ hh)
def f_X10_isPlan (N : Nat) (S : St) (x1 : Int32) (x2 : Int32) (x3 : Int32) (x4 : Int32) : Option (Int32 × St) :=
  bnd (f_X10_tornNow N S ) fun q1 =>
 bnd (f_X10_setAside N S ) fun q2 =>
 bnd (f_X10_areStroked N q2 x1 x2 x3) fun q3 =>
 if q3.1 = (0 : Int32) then
  (f_X10_isPlan_b48 N q3.2)
  else
  (bnd (f_X10_tornNow N q3.2 ) fun q5 =>
 if (q5 &&& (q1 ^^^ (-1 : Int32))) = (0 : Int32) then
  (bnd (f_X10_mostOf N q3.2 (0 : Int32) (12 : Int32)) fun q6 =>
 if x4 < q6 then
  (f_X10_isPlan_b48 N q3.2)
  else
  (f_X10_isPlan_b49 N (1 : Int32) q3.2))
  else
  (f_X10_isPlan_b48 N q3.2))
set_option maxRecDepth 100000 in
set_option maxHeartbeats 4000000 in
theorem t_X10_isPlan {l : Launch} {G : v_G} {N : Nat} {S : St}   {x1 : Int32} {x2 : Int32} {x3 : Int32} {x4 : Int32} {r : Int32 × St} (hh : f_X10_isPlan N S x1 x2 x3 x4 = some r) : v_M l G yX10_isPlan cX10_isPlan 7 (some .boolean) 9 0 0 [.ref (v_B G + 291), .int x1, .int x2, .int x3, .int x4] (lay G S) (QI r.1 (lay G r.2)) := by
  refine v_entry (by decide) (Nat.le_of_ble_eq_true rfl) ?_
  unfold f_X10_isPlan at hh
  show V l G yX10_isPlan cX10_isPlan 7 (some .boolean) (v_rm 9 0 0) (QI r.1 (lay G r.2)) 0 0 0 [(0, .ref (v_B G + 291)), (1, .int x1), (2, .int x2), (3, .int x3), (4, .int x4)] [] (lay G S)
  refine v_aload_n 0 dX10_isPlan_0 rfl rfl ?_
  obtain ⟨q1, eq1, hh⟩ := bnd_some hh
  refine v_callVi (t_X10_tornNow eq1) dX10_isPlan_1 y_X10_tornNow ml_X10_362 (ci := 9) rfl rfl (e_Model) rfl rfl (Nat.le_of_ble_eq_true rfl) ⟨(Nat.le_of_ble_eq_true rfl), (Nat.le_of_ble_eq_true rfl)⟩ ⟨Nat.zero_le _, Nat.zero_le _⟩ ?_
  refine v_istore dX10_isPlan_4 (by decide) rfl ?_
  refine v_aload_n 1 dX10_isPlan_6 rfl rfl ?_
  obtain ⟨q2, eq2, hh⟩ := bnd_some hh
  refine v_callVv (t_X10_setAside eq2) dX10_isPlan_7 y_X10_setAside ml_X10_372 (ci := 9) rfl rfl (e_Model) rfl rfl (Nat.le_of_ble_eq_true rfl) ⟨(Nat.le_of_ble_eq_true rfl), (Nat.le_of_ble_eq_true rfl)⟩ ⟨Nat.zero_le _, Nat.zero_le _⟩ ?_
  refine v_aload_n 1 dX10_isPlan_10 rfl rfl ?_
  refine v_iload_n 2 dX10_isPlan_11 rfl rfl ?_
  refine v_iload_n 3 dX10_isPlan_12 rfl rfl ?_
  refine v_iload_n 4 dX10_isPlan_13 rfl rfl ?_
  obtain ⟨q3, eq3, hh⟩ := bnd_some hh
  refine v_callVi (t_X10_areStroked eq3) dX10_isPlan_14 y_X10_areStroked ml_X10_399 (ci := 9) rfl rfl (e_Model) rfl rfl (Nat.le_of_ble_eq_true rfl) ⟨(Nat.le_of_ble_eq_true rfl), (Nat.le_of_ble_eq_true rfl)⟩ ⟨Nat.zero_le _, Nat.zero_le _⟩ ?_
  refine v_if_eq (tgt := 48) dX10_isPlan_17 (by decide) (fun c => ?_) (fun c => ?_)
  · replace hh := (if_pos c).symm.trans hh
    exact v_sub [1] rfl (tb_X10_isPlan_48 _ hh)
  · replace hh := (if_neg c).symm.trans hh
    refine v_aload_n 1 dX10_isPlan_20 rfl rfl ?_
    obtain ⟨q5, eq5, hh⟩ := bnd_some hh
    refine v_callVi (t_X10_tornNow eq5) dX10_isPlan_21 y_X10_tornNow ml_X10_362 (ci := 9) rfl rfl (e_Model) rfl rfl (Nat.le_of_ble_eq_true rfl) ⟨(Nat.le_of_ble_eq_true rfl), (Nat.le_of_ble_eq_true rfl)⟩ ⟨Nat.zero_le _, Nat.zero_le _⟩ ?_
    refine v_iload 0 dX10_isPlan_24 rfl ?_
    refine v_iconst dX10_isPlan_26 (by decide : _ = (-1 : Int32)) ?_
    refine v_ixor dX10_isPlan_27 ?_
    refine v_iand dX10_isPlan_28 ?_
    refine v_if_ne (tgt := 48) dX10_isPlan_29 (by decide) (fun c => ?_) (fun c => ?_)
    · replace hh := (if_neg c).symm.trans hh
      exact v_sub [1] rfl (tb_X10_isPlan_48 _ hh)
    · replace hh := (if_pos c).symm.trans hh
      refine v_aload_n 1 dX10_isPlan_32 rfl rfl ?_
      refine v_iconst dX10_isPlan_33 (by decide : _ = (0 : Int32)) ?_
      refine v_bipush dX10_isPlan_34 (by decide : _ = (12 : Int32)) ?_
      obtain ⟨q6, eq6, hh⟩ := bnd_some hh
      refine v_callVi (t_X10_mostOf eq6) dX10_isPlan_36 y_X10_mostOf ml_X10_378 (ci := 9) rfl rfl (e_Model) rfl rfl (Nat.le_of_ble_eq_true rfl) ⟨(Nat.le_of_ble_eq_true rfl), (Nat.le_of_ble_eq_true rfl)⟩ ⟨Nat.zero_le _, Nat.zero_le _⟩ ?_
      refine v_iload 5 dX10_isPlan_39 rfl ?_
      refine v_icmp_gt (tgt := 48) dX10_isPlan_41 (by decide) (fun c => ?_) (fun c => ?_)
      · replace hh := (if_pos c).symm.trans hh
        exact v_sub [1] rfl (tb_X10_isPlan_48 _ hh)
      · replace hh := (if_neg c).symm.trans hh
        refine v_iconst dX10_isPlan_44 (by decide : _ = (1 : Int32)) ?_
        refine v_goto (tgt := 49) dX10_isPlan_45 (by decide) ?_
        exact v_sub [1] rfl (tb_X10_isPlan_49 _ _ hh)
def f_X10_plan_b87 (N : Nat) : Nat → Int32 → Int32 → Int32 → Int32 → St → Option (Int32 × St)
  | 0, _, _, _, _, _ => none
  | n + 1, x3, x5, x7, x8, S =>
  if x8 ≤ x3 then
  (if x5 ≤ x3 then
  (some ((-2 : Int32), S))
  else
  (some (x7 - x7 / (24 : Int32) * (24 : Int32), S)))
  else
  (lt (x7 / (24 : Int32)) fun v8 =>
  lt (x8 + (-1 : Int32)) fun v9 =>
  f_X10_plan_b87 N n x3 x5 v8 v9 S)
set_option maxRecDepth 100000 in
set_option maxHeartbeats 4000000 in
theorem tb_X10_plan_87 {l : Launch} {G : v_G} {N : Nat}    {r : Int32 × St}   : ∀ (n : Nat) (x3 : Int32) (x5 : Int32) (x7 : Int32) (x8 : Int32) (S : St),  f_X10_plan_b87 N n x3 x5 x7 x8 S = some r → V l G yX10_plan cX10_plan 9 (some .int) (v_rm 10 0 0) (QI r.1 (lay G r.2)) 0 0 87 [(3, .int x3), (5, .int x5), (7, .int x7), (8, .int x8)] [] (lay G S) := by
  intro n
  induction n with
  | zero =>
    intro x3 x5 x7 x8 S  hh
    rw [f_X10_plan_b87] at hh
    cases hh
  | succ n ih =>
    intro x3 x5 x7 x8 S  hh
    rw [f_X10_plan_b87] at hh
    refine v_iload 3 dX10_plan_87 rfl ?_
    refine v_iload_n 0 dX10_plan_89 rfl rfl ?_
    refine v_icmp_le (tgt := 106) dX10_plan_90 (by decide) (fun c => ?_) (fun c => ?_)
    · replace hh := (if_pos c).symm.trans hh
      refine v_iload_n 0 dX10_plan_106 rfl rfl ?_
      refine v_iload 1 dX10_plan_107 rfl ?_
      refine v_icmp_ge (tgt := 120) dX10_plan_109 (by decide) (fun c => ?_) (fun c => ?_)
      · replace hh := (if_pos c).symm.trans hh
        refine v_bipush dX10_plan_120 (by decide : _ = (-2 : Int32)) ?_
        obtain rfl := Option.some.inj hh
        exact v_iret dX10_plan_122 rfl (Nat.zero_le _) (Nat.zero_le _) ⟨rfl, rfl⟩
      · replace hh := (if_neg c).symm.trans hh
        refine v_iload 2 dX10_plan_112 rfl ?_
        refine v_bipush dX10_plan_114 (by decide : _ = (24 : Int32)) ?_
        refine v_irem dX10_plan_116 (by decide) ?_
        refine v_goto (tgt := 122) dX10_plan_117 (by decide) ?_
        obtain rfl := Option.some.inj hh
        exact v_iret dX10_plan_122 rfl (Nat.zero_le _) (Nat.zero_le _) ⟨rfl, rfl⟩
    · replace hh := (if_neg c).symm.trans hh
      refine v_iload 2 dX10_plan_93 rfl ?_
      refine v_bipush dX10_plan_95 (by decide : _ = (24 : Int32)) ?_
      refine v_idiv dX10_plan_97 (by decide) ?_
      refine v_istore dX10_plan_98 (by decide) rfl ?_
      replace hh := lt_of hh
      refine v_iinc (v := _ + (-1 : Int32)) 3 dX10_plan_100 rfl rfl (by decide) rfl ?_
      replace hh := lt_of hh
      refine v_goto (tgt := 87) dX10_plan_103 (by decide) ?_
      exact v_sub [2, 3, 1, 0] rfl (ih _ _ _ _ _ hh)
def f_X10_plan_b46 (rec37 : (Int32 → Int32 → Int32 → Int32 → Int32 → St → Option (Int32 × St))) (N : Nat) : Nat → Int32 → Int32 → Int32 → Int32 → Int32 → Int32 → St → Option (Int32 × St)
  | 0, _, _, _, _, _, _, _ => none
  | n + 1, x1, x2, x3, x4, x5, x6, S =>
  if x4 ≤ x6 then
  (lt (x4 * (24 : Int32)) fun v4 =>
  lt (x5 + (1 : Int32)) fun v5 =>
  rec37 x1 x2 x3 v4 v5 S)
  else
  (bnd (f_X10_isPlan N S x1 x6 x5 x2) fun q6 =>
 if q6.1 = (0 : Int32) then
  (lt (x6 + (1 : Int32)) fun v10 =>
  f_X10_plan_b46 rec37 N n x1 x2 x3 x4 x5 v10 q6.2)
  else
  (if x3 = (-1 : Int32) then
  (some (x5, q6.2))
  else
  (lt (x5 - (1 : Int32)) fun v7 =>
  f_X10_plan_b87 N N x3 x5 x6 v7 q6.2)))
set_option maxRecDepth 100000 in
set_option maxHeartbeats 4000000 in
theorem tb_X10_plan_46 {l : Launch} {G : v_G} {N : Nat}    {r : Int32 × St} {rec37 : (Int32 → Int32 → Int32 → Int32 → Int32 → St → Option (Int32 × St))} (hrec37 : ∀ (x1 : Int32) (x2 : Int32) (x3 : Int32) (x4 : Int32) (x5 : Int32) (S : St),  rec37 x1 x2 x3 x4 x5 S = some r → V l G yX10_plan cX10_plan 9 (some .int) (v_rm 10 0 0) (QI r.1 (lay G r.2)) 0 0 37 [(0, .ref (v_B G + 291)), (1, .int x1), (2, .int x2), (3, .int x3), (4, .int x4), (5, .int x5)] [] (lay G S)) : ∀ (n : Nat) (x1 : Int32) (x2 : Int32) (x3 : Int32) (x4 : Int32) (x5 : Int32) (x6 : Int32) (S : St),  f_X10_plan_b46 rec37 N n x1 x2 x3 x4 x5 x6 S = some r → V l G yX10_plan cX10_plan 9 (some .int) (v_rm 10 0 0) (QI r.1 (lay G r.2)) 0 0 46 [(0, .ref (v_B G + 291)), (1, .int x1), (2, .int x2), (3, .int x3), (4, .int x4), (5, .int x5), (6, .int x6)] [] (lay G S) := by
  intro n
  induction n with
  | zero =>
    intro x1 x2 x3 x4 x5 x6 S  hh
    rw [f_X10_plan_b46] at hh
    cases hh
  | succ n ih =>
    intro x1 x2 x3 x4 x5 x6 S  hh
    rw [f_X10_plan_b46] at hh
    refine v_iload 6 dX10_plan_46 rfl ?_
    refine v_iload 4 dX10_plan_48 rfl ?_
    refine v_icmp_ge (tgt := 129) dX10_plan_50 (by decide) (fun c => ?_) (fun c => ?_)
    · replace hh := (if_pos c).symm.trans hh
      refine v_iload 4 dX10_plan_129 rfl ?_
      refine v_bipush dX10_plan_131 (by decide : _ = (24 : Int32)) ?_
      refine v_imul dX10_plan_133 ?_
      refine v_istore dX10_plan_134 (by decide) rfl ?_
      replace hh := lt_of hh
      refine v_iinc (v := _ + (1 : Int32)) 5 dX10_plan_136 rfl rfl (by decide) rfl ?_
      replace hh := lt_of hh
      refine v_goto (tgt := 37) dX10_plan_139 (by decide) ?_
      exact v_sub [2, 3, 4, 5, 1, 0] rfl (hrec37 _ _ _ _ _ _ hh)
    · replace hh := (if_neg c).symm.trans hh
      refine v_aload_n 0 dX10_plan_53 rfl rfl ?_
      refine v_iload_n 1 dX10_plan_54 rfl rfl ?_
      refine v_iload 6 dX10_plan_55 rfl ?_
      refine v_iload 5 dX10_plan_57 rfl ?_
      refine v_iload_n 2 dX10_plan_59 rfl rfl ?_
      obtain ⟨q6, eq6, hh⟩ := bnd_some hh
      refine v_callVi (t_X10_isPlan eq6) dX10_plan_60 y_X10_isPlan ml_X10_402 (ci := 9) rfl rfl (e_Model) rfl rfl (Nat.le_of_ble_eq_true rfl) ⟨(Nat.le_of_ble_eq_true rfl), (Nat.le_of_ble_eq_true rfl)⟩ ⟨Nat.zero_le _, Nat.zero_le _⟩ ?_
      refine v_if_ne (tgt := 69) dX10_plan_63 (by decide) (fun c => ?_) (fun c => ?_)
      · replace hh := (if_neg c).symm.trans hh
        refine v_iload_n 3 dX10_plan_69 rfl rfl ?_
        refine v_iconst dX10_plan_70 (by decide : _ = (-1 : Int32)) ?_
        refine v_icmp_ne (tgt := 77) dX10_plan_71 (by decide) (fun c => ?_) (fun c => ?_)
        · replace hh := (if_neg c).symm.trans hh
          refine v_iload 6 dX10_plan_77 rfl ?_
          refine v_istore dX10_plan_79 (by decide) rfl ?_
          refine v_iload 6 dX10_plan_81 rfl ?_
          refine v_iconst dX10_plan_83 (by decide : _ = (1 : Int32)) ?_
          refine v_isub dX10_plan_84 ?_
          refine v_istore dX10_plan_85 (by decide) rfl ?_
          replace hh := lt_of hh
          exact v_sub [5, 7, 1, 0] rfl (tb_X10_plan_87 N _ _ _ _ _ hh)
        · replace hh := (if_pos c).symm.trans hh
          refine v_iload 5 dX10_plan_74 rfl ?_
          obtain rfl := Option.some.inj hh
          exact v_iret dX10_plan_76 rfl (Nat.zero_le _) (Nat.zero_le _) ⟨rfl, rfl⟩
      · replace hh := (if_pos c).symm.trans hh
        refine v_goto (tgt := 123) dX10_plan_66 (by decide) ?_
        refine v_iinc (v := _ + (1 : Int32)) 6 dX10_plan_123 rfl rfl (by decide) rfl ?_
        replace hh := lt_of hh
        refine v_goto (tgt := 46) dX10_plan_126 (by decide) ?_
        exact v_sub [1, 2, 3, 4, 5, 6, 0] rfl (ih _ _ _ _ _ _ _ hh)
def f_X10_plan_b37 (N : Nat) : Nat → Int32 → Int32 → Int32 → Int32 → Int32 → St → Option (Int32 × St)
  | 0, _, _, _, _, _, _ => none
  | n + 1, x1, x2, x3, x4, x5, S =>
  if (4 : Int32) ≤ x5 then
  (some ((-2 : Int32), S))
  else
  (f_X10_plan_b46 (f_X10_plan_b37 N n) N N x1 x2 x3 x4 x5 (0 : Int32) S)
set_option maxRecDepth 100000 in
set_option maxHeartbeats 4000000 in
theorem tb_X10_plan_37 {l : Launch} {G : v_G} {N : Nat}    {r : Int32 × St}   : ∀ (n : Nat) (x1 : Int32) (x2 : Int32) (x3 : Int32) (x4 : Int32) (x5 : Int32) (S : St),  f_X10_plan_b37 N n x1 x2 x3 x4 x5 S = some r → V l G yX10_plan cX10_plan 9 (some .int) (v_rm 10 0 0) (QI r.1 (lay G r.2)) 0 0 37 [(0, .ref (v_B G + 291)), (1, .int x1), (2, .int x2), (3, .int x3), (4, .int x4), (5, .int x5)] [] (lay G S) := by
  intro n
  induction n with
  | zero =>
    intro x1 x2 x3 x4 x5 S  hh
    rw [f_X10_plan_b37] at hh
    cases hh
  | succ n ih =>
    intro x1 x2 x3 x4 x5 S  hh
    rw [f_X10_plan_b37] at hh
    refine v_iload 5 dX10_plan_37 rfl ?_
    refine v_iconst dX10_plan_39 (by decide : _ = (4 : Int32)) ?_
    refine v_icmp_ge (tgt := 142) dX10_plan_40 (by decide) (fun c => ?_) (fun c => ?_)
    · replace hh := (if_pos c).symm.trans hh
      refine v_bipush dX10_plan_142 (by decide : _ = (-2 : Int32)) ?_
      obtain rfl := Option.some.inj hh
      exact v_iret dX10_plan_144 rfl (Nat.zero_le _) (Nat.zero_le _) ⟨rfl, rfl⟩
    · replace hh := (if_neg c).symm.trans hh
      refine v_iconst dX10_plan_43 (by decide : _ = (0 : Int32)) ?_
      refine v_istore dX10_plan_44 (by decide) rfl ?_
      exact v_sub [1, 2, 3, 4, 5, 6, 0] rfl (tb_X10_plan_46 (fun _ _ _ _ _ _ hh => ih _ _ _ _ _ _ hh) N _ _ _ _ _ _ _ hh)
def f_X10_plan (N : Nat) (S : St) (x1 : Int32) (x2 : Int32) (x3 : Int32) : Option (Int32 × St) :=
  bnd (f_X10_isHand S x1) fun q1 =>
 if q1 = (0 : Int32) then
  (some ((-2 : Int32), S))
  else
  (bnd (f_X10_isIn S x2 (0 : Int32) (9999 : Int32)) fun q2 =>
 if q2 = (0 : Int32) then
  (some ((-2 : Int32), S))
  else
  (bnd (f_X10_isIn S x3 (-1 : Int32) (2 : Int32)) fun q3 =>
 if q3 = (0 : Int32) then
  (some ((-2 : Int32), S))
  else
  (f_X10_plan_b37 N N x1 x2 x3 (1 : Int32) (0 : Int32) S)))
set_option maxRecDepth 100000 in
set_option maxHeartbeats 4000000 in
theorem t_X10_plan {l : Launch} {G : v_G} {N : Nat} {S : St}   {x1 : Int32} {x2 : Int32} {x3 : Int32} {r : Int32 × St} (hh : f_X10_plan N S x1 x2 x3 = some r) : v_M l G yX10_plan cX10_plan 9 (some .int) 10 0 0 [.ref (v_B G + 291), .int x1, .int x2, .int x3] (lay G S) (QI r.1 (lay G r.2)) := by
  refine v_entry (by decide) (Nat.le_of_ble_eq_true rfl) ?_
  unfold f_X10_plan at hh
  show V l G yX10_plan cX10_plan 9 (some .int) (v_rm 10 0 0) (QI r.1 (lay G r.2)) 0 0 0 [(0, .ref (v_B G + 291)), (1, .int x1), (2, .int x2), (3, .int x3)] [] (lay G S)
  refine v_aload_n 0 dX10_plan_0 rfl rfl ?_
  refine v_iload_n 1 dX10_plan_1 rfl rfl ?_
  obtain ⟨q1, eq1, hh⟩ := bnd_some hh
  refine v_callVi (t_X10_isHand eq1) dX10_plan_2 y_X10_isHand ml_X10_311 (ci := 9) rfl rfl (e_Model) rfl rfl (Nat.le_of_ble_eq_true rfl) ⟨(Nat.le_of_ble_eq_true rfl), (Nat.le_of_ble_eq_true rfl)⟩ ⟨Nat.zero_le _, Nat.zero_le _⟩ ?_
  refine v_if_eq (tgt := 28) dX10_plan_5 (by decide) (fun c => ?_) (fun c => ?_)
  · replace hh := (if_pos c).symm.trans hh
    refine v_bipush dX10_plan_28 (by decide : _ = (-2 : Int32)) ?_
    obtain rfl := Option.some.inj hh
    exact v_iret dX10_plan_30 rfl (Nat.zero_le _) (Nat.zero_le _) ⟨rfl, rfl⟩
  · replace hh := (if_neg c).symm.trans hh
    refine v_iload_n 2 dX10_plan_8 rfl rfl ?_
    refine v_iconst dX10_plan_9 (by decide : _ = (0 : Int32)) ?_
    refine v_sipush dX10_plan_10 (by decide : _ = (9999 : Int32)) ?_
    obtain ⟨q2, eq2, hh⟩ := bnd_some hh
    refine v_callSi (t_X10_isIn eq2) dX10_plan_13 y_X10_isIn ml_X10_63 rfl rfl (Nat.le_of_ble_eq_true rfl) ⟨(Nat.le_of_ble_eq_true rfl), (Nat.le_of_ble_eq_true rfl)⟩ ⟨Nat.zero_le _, Nat.zero_le _⟩ ?_
    refine v_if_eq (tgt := 28) dX10_plan_16 (by decide) (fun c => ?_) (fun c => ?_)
    · replace hh := (if_pos c).symm.trans hh
      refine v_bipush dX10_plan_28 (by decide : _ = (-2 : Int32)) ?_
      obtain rfl := Option.some.inj hh
      exact v_iret dX10_plan_30 rfl (Nat.zero_le _) (Nat.zero_le _) ⟨rfl, rfl⟩
    · replace hh := (if_neg c).symm.trans hh
      refine v_iload_n 3 dX10_plan_19 rfl rfl ?_
      refine v_iconst dX10_plan_20 (by decide : _ = (-1 : Int32)) ?_
      refine v_iconst dX10_plan_21 (by decide : _ = (2 : Int32)) ?_
      obtain ⟨q3, eq3, hh⟩ := bnd_some hh
      refine v_callSi (t_X10_isIn eq3) dX10_plan_22 y_X10_isIn ml_X10_63 rfl rfl (Nat.le_of_ble_eq_true rfl) ⟨(Nat.le_of_ble_eq_true rfl), (Nat.le_of_ble_eq_true rfl)⟩ ⟨Nat.zero_le _, Nat.zero_le _⟩ ?_
      refine v_if_ne (tgt := 31) dX10_plan_25 (by decide) (fun c => ?_) (fun c => ?_)
      · replace hh := (if_neg c).symm.trans hh
        refine v_iconst dX10_plan_31 (by decide : _ = (1 : Int32)) ?_
        refine v_istore dX10_plan_32 (by decide) rfl ?_
        refine v_iconst dX10_plan_34 (by decide : _ = (0 : Int32)) ?_
        refine v_istore dX10_plan_35 (by decide) rfl ?_
        exact v_sub [2, 3, 4, 5, 1, 0] rfl (tb_X10_plan_37 N _ _ _ _ _ _ hh)
      · replace hh := (if_pos c).symm.trans hh
        refine v_bipush dX10_plan_28 (by decide : _ = (-2 : Int32)) ?_
        obtain rfl := Option.some.inj hh
        exact v_iret dX10_plan_30 rfl (Nat.zero_le _) (Nat.zero_le _) ⟨rfl, rfl⟩
def f_X10_best_b19 (N : Nat) : Nat → Int32 → Int32 → Int32 → Int32 → St → Option (Int32 × St)
  | 0, _, _, _, _, _ => none
  | n + 1, x1, x2, x3, x4, S =>
  if (24 : Int32) ≤ x4 then
  (some (x2, S))
  else
  (bnd (f_X10_setAside N S ) fun q2 =>
 bnd (f_X10_isStroked N q2 x1 x4) fun q3 =>
 bnd (f_X10_mostOf N q3.2 (0 : Int32) (12 : Int32)) fun q4 =>
 bnd (f_X10_putBack N q3.2 ) fun q5 =>
 if q3.1 = (0 : Int32) then
  (lt (x4 + (1 : Int32)) fun v6 =>
  f_X10_best_b19 N n x1 x2 x3 v6 q5)
  else
  (if q4 < x3 then
  (lt (x4 + (1 : Int32)) fun v7 =>
  f_X10_best_b19 N n x1 x4 q4 v7 q5)
  else
  (lt (x4 + (1 : Int32)) fun v8 =>
  f_X10_best_b19 N n x1 x2 x3 v8 q5)))
set_option maxRecDepth 100000 in
set_option maxHeartbeats 4000000 in
theorem tb_X10_best_19 {l : Launch} {G : v_G} {N : Nat}    {r : Int32 × St}   : ∀ (n : Nat) (x1 : Int32) (x2 : Int32) (x3 : Int32) (x4 : Int32) (S : St),  f_X10_best_b19 N n x1 x2 x3 x4 S = some r → V l G yX10_best cX10_best 7 (some .int) (v_rm 8 0 0) (QI r.1 (lay G r.2)) 0 0 19 [(0, .ref (v_B G + 291)), (1, .int x1), (2, .int x2), (3, .int x3), (4, .int x4)] [] (lay G S) := by
  intro n
  induction n with
  | zero =>
    intro x1 x2 x3 x4 S  hh
    rw [f_X10_best_b19] at hh
    cases hh
  | succ n ih =>
    intro x1 x2 x3 x4 S  hh
    rw [f_X10_best_b19] at hh
    refine v_iload 4 dX10_best_19 rfl ?_
    refine v_bipush dX10_best_21 (by decide : _ = (24 : Int32)) ?_
    refine v_icmp_ge (tgt := 78) dX10_best_23 (by decide) (fun c => ?_) (fun c => ?_)
    · replace hh := (if_pos c).symm.trans hh
      refine v_iload_n 2 dX10_best_78 rfl rfl ?_
      obtain rfl := Option.some.inj hh
      exact v_iret dX10_best_79 rfl (Nat.zero_le _) (Nat.zero_le _) ⟨rfl, rfl⟩
    · replace hh := (if_neg c).symm.trans hh
      refine v_aload_n 0 dX10_best_26 rfl rfl ?_
      obtain ⟨q2, eq2, hh⟩ := bnd_some hh
      refine v_callVv (t_X10_setAside eq2) dX10_best_27 y_X10_setAside ml_X10_372 (ci := 9) rfl rfl (e_Model) rfl rfl (Nat.le_of_ble_eq_true rfl) ⟨(Nat.le_of_ble_eq_true rfl), (Nat.le_of_ble_eq_true rfl)⟩ ⟨Nat.zero_le _, Nat.zero_le _⟩ ?_
      refine v_aload_n 0 dX10_best_30 rfl rfl ?_
      refine v_iload_n 1 dX10_best_31 rfl rfl ?_
      refine v_iload 4 dX10_best_32 rfl ?_
      obtain ⟨q3, eq3, hh⟩ := bnd_some hh
      refine v_callVi (t_X10_isStroked eq3) dX10_best_34 y_X10_isStroked ml_X10_396 (ci := 9) rfl rfl (e_Model) rfl rfl (Nat.le_of_ble_eq_true rfl) ⟨(Nat.le_of_ble_eq_true rfl), (Nat.le_of_ble_eq_true rfl)⟩ ⟨Nat.zero_le _, Nat.zero_le _⟩ ?_
      refine v_istore dX10_best_37 (by decide) rfl ?_
      refine v_aload_n 1 dX10_best_39 rfl rfl ?_
      refine v_iconst dX10_best_40 (by decide : _ = (0 : Int32)) ?_
      refine v_bipush dX10_best_41 (by decide : _ = (12 : Int32)) ?_
      obtain ⟨q4, eq4, hh⟩ := bnd_some hh
      refine v_callVi (t_X10_mostOf eq4) dX10_best_43 y_X10_mostOf ml_X10_378 (ci := 9) rfl rfl (e_Model) rfl rfl (Nat.le_of_ble_eq_true rfl) ⟨(Nat.le_of_ble_eq_true rfl), (Nat.le_of_ble_eq_true rfl)⟩ ⟨Nat.zero_le _, Nat.zero_le _⟩ ?_
      refine v_istore dX10_best_46 (by decide) rfl ?_
      refine v_aload_n 2 dX10_best_48 rfl rfl ?_
      obtain ⟨q5, eq5, hh⟩ := bnd_some hh
      refine v_callVv (t_X10_putBack eq5) dX10_best_49 y_X10_putBack ml_X10_375 (ci := 9) rfl rfl (e_Model) rfl rfl (Nat.le_of_ble_eq_true rfl) ⟨(Nat.le_of_ble_eq_true rfl), (Nat.le_of_ble_eq_true rfl)⟩ ⟨Nat.zero_le _, Nat.zero_le _⟩ ?_
      refine v_iload 1 dX10_best_52 rfl ?_
      refine v_if_eq (tgt := 72) dX10_best_54 (by decide) (fun c => ?_) (fun c => ?_)
      · replace hh := (if_pos c).symm.trans hh
        refine v_iinc (v := _ + (1 : Int32)) 6 dX10_best_72 rfl rfl (by decide) rfl ?_
        replace hh := lt_of hh
        refine v_goto (tgt := 19) dX10_best_75 (by decide) ?_
        exact v_sub [3, 4, 5, 6, 0] rfl (ih _ _ _ _ _ hh)
      · replace hh := (if_neg c).symm.trans hh
        refine v_iload 0 dX10_best_57 rfl ?_
        refine v_iload_n 5 dX10_best_59 rfl rfl ?_
        refine v_icmp_lt (tgt := 66) dX10_best_60 (by decide) (fun c => ?_) (fun c => ?_)
        · replace hh := (if_pos c).symm.trans hh
          refine v_iload 0 dX10_best_66 rfl ?_
          refine v_istore_n dX10_best_68 rfl (by decide) rfl ?_
          refine v_iload 6 dX10_best_69 rfl ?_
          refine v_istore_n dX10_best_71 rfl (by decide) rfl ?_
          refine v_iinc (v := _ + (1 : Int32)) 6 dX10_best_72 rfl rfl (by decide) rfl ?_
          replace hh := lt_of hh
          refine v_goto (tgt := 19) dX10_best_75 (by decide) ?_
          exact v_sub [5, 6, 1, 2, 0] rfl (ih _ _ _ _ _ hh)
        · replace hh := (if_neg c).symm.trans hh
          refine v_goto (tgt := 72) dX10_best_63 (by decide) ?_
          refine v_iinc (v := _ + (1 : Int32)) 6 dX10_best_72 rfl rfl (by decide) rfl ?_
          replace hh := lt_of hh
          refine v_goto (tgt := 19) dX10_best_75 (by decide) ?_
          exact v_sub [3, 4, 5, 6, 0] rfl (ih _ _ _ _ _ hh)
def f_X10_best (N : Nat) (S : St) (x1 : Int32) : Option (Int32 × St) :=
  bnd (f_X10_isHand S x1) fun q1 =>
 if q1 = (0 : Int32) then
  (some ((-1 : Int32), S))
  else
  (f_X10_best_b19 N N x1 (-1 : Int32) (2147483647 : Int32) (0 : Int32) S)
set_option maxRecDepth 100000 in
set_option maxHeartbeats 4000000 in
theorem t_X10_best {l : Launch} {G : v_G} {N : Nat} {S : St}   {x1 : Int32} {r : Int32 × St} (hh : f_X10_best N S x1 = some r) : v_M l G yX10_best cX10_best 7 (some .int) 8 0 0 [.ref (v_B G + 291), .int x1] (lay G S) (QI r.1 (lay G r.2)) := by
  refine v_entry (by decide) (Nat.le_of_ble_eq_true rfl) ?_
  unfold f_X10_best at hh
  show V l G yX10_best cX10_best 7 (some .int) (v_rm 8 0 0) (QI r.1 (lay G r.2)) 0 0 0 [(0, .ref (v_B G + 291)), (1, .int x1)] [] (lay G S)
  refine v_aload_n 0 dX10_best_0 rfl rfl ?_
  refine v_iload_n 1 dX10_best_1 rfl rfl ?_
  obtain ⟨q1, eq1, hh⟩ := bnd_some hh
  refine v_callVi (t_X10_isHand eq1) dX10_best_2 y_X10_isHand ml_X10_311 (ci := 9) rfl rfl (e_Model) rfl rfl (Nat.le_of_ble_eq_true rfl) ⟨(Nat.le_of_ble_eq_true rfl), (Nat.le_of_ble_eq_true rfl)⟩ ⟨Nat.zero_le _, Nat.zero_le _⟩ ?_
  refine v_if_ne (tgt := 10) dX10_best_5 (by decide) (fun c => ?_) (fun c => ?_)
  · replace hh := (if_neg c).symm.trans hh
    refine v_iconst dX10_best_10 (by decide : _ = (-1 : Int32)) ?_
    refine v_istore_n dX10_best_11 rfl (by decide) rfl ?_
    refine v_ldcw dX10_best_12 co_X10_371 ?_
    refine v_istore_n dX10_best_15 rfl (by decide) rfl ?_
    refine v_iconst dX10_best_16 (by decide : _ = (0 : Int32)) ?_
    refine v_istore dX10_best_17 (by decide) rfl ?_
    exact v_sub [3, 4, 2, 1, 0] rfl (tb_X10_best_19 N _ _ _ _ _ hh)
  · replace hh := (if_pos c).symm.trans hh
    refine v_iconst dX10_best_8 (by decide : _ = (-1 : Int32)) ?_
    obtain rfl := Option.some.inj hh
    exact v_iret dX10_best_9 rfl (Nat.zero_le _) (Nat.zero_le _) ⟨rfl, rfl⟩
def f_X10_isMade_b126 (N : Nat) (s0 : Int32) (s1 : Int32) (S : St) : Option (Int32 × St) :=
  lt (s1 &&& s0) fun v8 =>
  bnd (f_X10_putBack N S ) fun q9 =>
 chk (isz v8) (some (v8, q9))
set_option maxRecDepth 100000 in
set_option maxHeartbeats 4000000 in
theorem tb_X10_isMade_126 {l : Launch} {G : v_G} {N : Nat}    {r : Int32 × St}   : ∀ (s0 : Int32) (s1 : Int32) (S : St),  f_X10_isMade_b126 N s0 s1 S = some r → V l G yX10_isMade cX10_isMade 6 (some .boolean) (v_rm 9 0 0) (QI r.1 (lay G r.2)) 0 0 126 [(0, .ref (v_B G + 291))] [.int s0, .int s1] (lay G S) := by
  intro s0 s1 S  hh
  unfold f_X10_isMade_b126 at hh
  refine v_iand dX10_isMade_126 ?_
  refine v_istore dX10_isMade_127 (by decide) rfl ?_
  replace hh := lt_of hh
  refine v_aload_n 1 dX10_isMade_129 rfl rfl ?_
  obtain ⟨q9, eq9, hh⟩ := bnd_some hh
  refine v_callVv (t_X10_putBack eq9) dX10_isMade_130 y_X10_putBack ml_X10_375 (ci := 9) rfl rfl (e_Model) rfl rfl (Nat.le_of_ble_eq_true rfl) ⟨(Nat.le_of_ble_eq_true rfl), (Nat.le_of_ble_eq_true rfl)⟩ ⟨Nat.zero_le _, Nat.zero_le _⟩ ?_
  refine v_iload 0 dX10_isMade_133 rfl ?_
  obtain ⟨g, hh⟩ := chk_some hh
  obtain rfl := Option.some.inj hh
  exact v_zret dX10_isMade_135 rfl (zb (isz_or g)).1 (Nat.zero_le _) (Nat.zero_le _) ⟨rfl, rfl⟩
def f_X10_isMade_b62 (N : Nat) : Nat → Int32 → Int32 → St → Option (Int32 × St)
  | 0, _, _, _ => none
  | n + 1, x4, x5, S =>
  if (35 : Int32) ≤ x5 then
  (if (gI S 1000 0 9) = (gI S 1025 0 9) then
  (f_X10_isMade_b126 N (1 : Int32) x4 S)
  else
  (f_X10_isMade_b126 N (0 : Int32) x4 S))
  else
  (chk (inb x5 3015) (
  chk (inb x5 41) (
  if (gI S 1000 0 x5.toNatClampNeg) = (gI S 1025 0 x5.toNatClampNeg) then
  (lt (x4 &&& (1 : Int32)) fun v14 =>
  lt (x5 + (1 : Int32)) fun v15 =>
  f_X10_isMade_b62 N n v14 v15 S)
  else
  (lt (x4 &&& (0 : Int32)) fun v12 =>
  lt (x5 + (1 : Int32)) fun v13 =>
  f_X10_isMade_b62 N n v12 v13 S))))
set_option maxRecDepth 100000 in
set_option maxHeartbeats 4000000 in
theorem tb_X10_isMade_62 {l : Launch} {G : v_G} {N : Nat}    {r : Int32 × St}   : ∀ (n : Nat) (x4 : Int32) (x5 : Int32) (S : St),  f_X10_isMade_b62 N n x4 x5 S = some r → V l G yX10_isMade cX10_isMade 6 (some .boolean) (v_rm 9 0 0) (QI r.1 (lay G r.2)) 0 0 62 [(0, .ref (v_B G + 291)), (4, .int x4), (5, .int x5)] [] (lay G S) := by
  intro n
  induction n with
  | zero =>
    intro x4 x5 S  hh
    rw [f_X10_isMade_b62] at hh
    cases hh
  | succ n ih =>
    intro x4 x5 S  hh
    rw [f_X10_isMade_b62] at hh
    refine v_iload 2 dX10_isMade_62 rfl ?_
    refine v_bipush dX10_isMade_64 (by decide : _ = (35 : Int32)) ?_
    refine v_icmp_ge (tgt := 102) dX10_isMade_66 (by decide) (fun c => ?_) (fun c => ?_)
    · replace hh := (if_pos c).symm.trans hh
      refine v_iload 1 dX10_isMade_102 rfl ?_
      refine v_aload_n 0 dX10_isMade_104 rfl rfl ?_
      refine r_Model_a dX10_isMade_105 fl_X10_7 ?_
      refine v_bipush dX10_isMade_108 (by decide : _ = (9 : Int32)) ?_
      refine ld_ma dX10_isMade_110 (inb_in (by decide)) ?_
      refine v_aload_n 0 dX10_isMade_111 rfl rfl ?_
      refine r_Model_aside dX10_isMade_112 fl_X10_47 ?_
      refine v_bipush dX10_isMade_115 (by decide : _ = (9 : Int32)) ?_
      refine ld_aside dX10_isMade_117 (inb_in (by decide)) ?_
      refine v_icmp_ne (tgt := 125) dX10_isMade_118 (by decide) (fun c => ?_) (fun c => ?_)
      · replace hh := (if_neg c).symm.trans hh
        refine v_iconst dX10_isMade_125 (by decide : _ = (0 : Int32)) ?_
        exact v_sub [0] rfl (tb_X10_isMade_126 _ _ _ hh)
      · replace hh := (if_pos c).symm.trans hh
        refine v_iconst dX10_isMade_121 (by decide : _ = (1 : Int32)) ?_
        refine v_goto (tgt := 126) dX10_isMade_122 (by decide) ?_
        exact v_sub [0] rfl (tb_X10_isMade_126 _ _ _ hh)
    · replace hh := (if_neg c).symm.trans hh
      refine v_iload 1 dX10_isMade_69 rfl ?_
      refine v_aload_n 0 dX10_isMade_71 rfl rfl ?_
      refine r_Model_a dX10_isMade_72 fl_X10_7 ?_
      refine v_iload 2 dX10_isMade_75 rfl ?_
      obtain ⟨g10, hh⟩ := chk_some hh
      replace g10 := inb_in g10
      refine ld_ma dX10_isMade_77 g10 ?_
      refine v_aload_n 0 dX10_isMade_78 rfl rfl ?_
      refine r_Model_aside dX10_isMade_79 fl_X10_47 ?_
      refine v_iload 2 dX10_isMade_82 rfl ?_
      obtain ⟨g11, hh⟩ := chk_some hh
      replace g11 := inb_in g11
      refine ld_aside dX10_isMade_84 g11 ?_
      refine v_icmp_ne (tgt := 92) dX10_isMade_85 (by decide) (fun c => ?_) (fun c => ?_)
      · replace hh := (if_neg c).symm.trans hh
        refine v_iconst dX10_isMade_92 (by decide : _ = (0 : Int32)) ?_
        refine v_iand dX10_isMade_93 ?_
        refine v_istore dX10_isMade_94 (by decide) rfl ?_
        replace hh := lt_of hh
        refine v_iinc (v := _ + (1 : Int32)) 2 dX10_isMade_96 rfl rfl (by decide) rfl ?_
        replace hh := lt_of hh
        refine v_goto (tgt := 62) dX10_isMade_99 (by decide) ?_
        exact v_sub [2, 1, 0] rfl (ih _ _ _ hh)
      · replace hh := (if_pos c).symm.trans hh
        refine v_iconst dX10_isMade_88 (by decide : _ = (1 : Int32)) ?_
        refine v_goto (tgt := 93) dX10_isMade_89 (by decide) ?_
        refine v_iand dX10_isMade_93 ?_
        refine v_istore dX10_isMade_94 (by decide) rfl ?_
        replace hh := lt_of hh
        refine v_iinc (v := _ + (1 : Int32)) 2 dX10_isMade_96 rfl rfl (by decide) rfl ?_
        replace hh := lt_of hh
        refine v_goto (tgt := 62) dX10_isMade_99 (by decide) ?_
        exact v_sub [2, 1, 0] rfl (ih _ _ _ hh)
def f_X10_isMade_b8 (N : Nat) : Nat → Int32 → Int32 → Int32 → Int32 → St → Option (Int32 × St)
  | 0, _, _, _, _, _ => none
  | n + 1, x1, x2, x3, x4, S =>
  if (35 : Int32) ≤ x4 then
  (lt (sI S 1000 0 9 (gI S 1001 0 9)) fun S4 =>
  bnd (f_X10_areStroked N S4 x1 x2 x3) fun q5 =>
 f_X10_isMade_b62 N N q5.1 (11 : Int32) q5.2)
  else
  (chk (inb x4 3015) (
  chk (inb x4 3015) (
  lt (sI S 1000 0 x4.toNatClampNeg (gI S 1001 0 x4.toNatClampNeg)) fun S18 =>
  lt (x4 + (1 : Int32)) fun v19 =>
  f_X10_isMade_b8 N n x1 x2 x3 v19 S18)))
set_option maxRecDepth 100000 in
set_option maxHeartbeats 4000000 in
theorem tb_X10_isMade_8 {l : Launch} {G : v_G} {N : Nat}    {r : Int32 × St}   : ∀ (n : Nat) (x1 : Int32) (x2 : Int32) (x3 : Int32) (x4 : Int32) (S : St),  f_X10_isMade_b8 N n x1 x2 x3 x4 S = some r → V l G yX10_isMade cX10_isMade 6 (some .boolean) (v_rm 9 0 0) (QI r.1 (lay G r.2)) 0 0 8 [(0, .ref (v_B G + 291)), (1, .int x1), (2, .int x2), (3, .int x3), (4, .int x4)] [] (lay G S) := by
  intro n
  induction n with
  | zero =>
    intro x1 x2 x3 x4 S  hh
    rw [f_X10_isMade_b8] at hh
    cases hh
  | succ n ih =>
    intro x1 x2 x3 x4 S  hh
    rw [f_X10_isMade_b8] at hh
    refine v_iload 4 dX10_isMade_8 rfl ?_
    refine v_bipush dX10_isMade_10 (by decide : _ = (35 : Int32)) ?_
    refine v_icmp_ge (tgt := 35) dX10_isMade_12 (by decide) (fun c => ?_) (fun c => ?_)
    · replace hh := (if_pos c).symm.trans hh
      refine v_aload_n 0 dX10_isMade_35 rfl rfl ?_
      refine r_Model_a dX10_isMade_36 fl_X10_7 ?_
      refine v_bipush dX10_isMade_39 (by decide : _ = (9 : Int32)) ?_
      refine v_aload_n 0 dX10_isMade_41 rfl rfl ?_
      refine r_Model_image dX10_isMade_42 fl_X10_13 ?_
      refine v_bipush dX10_isMade_45 (by decide : _ = (9 : Int32)) ?_
      refine ld_mimage dX10_isMade_47 (inb_in (by decide)) ?_
      refine st_ma dX10_isMade_48 (inb_in (by decide)) ?_
      replace hh := lt_of hh
      refine v_aload_n 0 dX10_isMade_49 rfl rfl ?_
      refine v_iload_n 1 dX10_isMade_50 rfl rfl ?_
      refine v_iload_n 2 dX10_isMade_51 rfl rfl ?_
      refine v_iload_n 3 dX10_isMade_52 rfl rfl ?_
      obtain ⟨q5, eq5, hh⟩ := bnd_some hh
      refine v_callVi (t_X10_areStroked eq5) dX10_isMade_53 y_X10_areStroked ml_X10_399 (ci := 9) rfl rfl (e_Model) rfl rfl (Nat.le_of_ble_eq_true rfl) ⟨(Nat.le_of_ble_eq_true rfl), (Nat.le_of_ble_eq_true rfl)⟩ ⟨Nat.zero_le _, Nat.zero_le _⟩ ?_
      refine v_istore dX10_isMade_56 (by decide) rfl ?_
      refine v_bipush dX10_isMade_58 (by decide : _ = (11 : Int32)) ?_
      refine v_istore dX10_isMade_60 (by decide) rfl ?_
      exact v_sub [2, 1, 0] rfl (tb_X10_isMade_62 N _ _ _ hh)
    · replace hh := (if_neg c).symm.trans hh
      refine v_aload_n 0 dX10_isMade_15 rfl rfl ?_
      refine r_Model_a dX10_isMade_16 fl_X10_7 ?_
      refine v_iload 4 dX10_isMade_19 rfl ?_
      refine v_aload_n 0 dX10_isMade_21 rfl rfl ?_
      refine r_Model_image dX10_isMade_22 fl_X10_13 ?_
      refine v_iload 4 dX10_isMade_25 rfl ?_
      obtain ⟨g16, hh⟩ := chk_some hh
      replace g16 := inb_in g16
      refine ld_mimage dX10_isMade_27 g16 ?_
      obtain ⟨g17, hh⟩ := chk_some hh
      replace g17 := inb_in g17
      refine st_ma dX10_isMade_28 g17 ?_
      replace hh := lt_of hh
      refine v_iinc (v := _ + (1 : Int32)) 4 dX10_isMade_29 rfl rfl (by decide) rfl ?_
      replace hh := lt_of hh
      refine v_goto (tgt := 8) dX10_isMade_32 (by decide) ?_
      exact v_sub [1, 2, 3, 4, 0] rfl (ih _ _ _ _ _ hh)
def f_X10_isMade (N : Nat) (S : St) (x1 : Int32) (x2 : Int32) (x3 : Int32) : Option (Int32 × St) :=
  bnd (f_X10_setAside N S ) fun q1 =>
 f_X10_isMade_b8 N N x1 x2 x3 (11 : Int32) q1
set_option maxRecDepth 100000 in
set_option maxHeartbeats 4000000 in
theorem t_X10_isMade {l : Launch} {G : v_G} {N : Nat} {S : St}   {x1 : Int32} {x2 : Int32} {x3 : Int32} {r : Int32 × St} (hh : f_X10_isMade N S x1 x2 x3 = some r) : v_M l G yX10_isMade cX10_isMade 6 (some .boolean) 9 0 0 [.ref (v_B G + 291), .int x1, .int x2, .int x3] (lay G S) (QI r.1 (lay G r.2)) := by
  refine v_entry (by decide) (Nat.le_of_ble_eq_true rfl) ?_
  unfold f_X10_isMade at hh
  show V l G yX10_isMade cX10_isMade 6 (some .boolean) (v_rm 9 0 0) (QI r.1 (lay G r.2)) 0 0 0 [(0, .ref (v_B G + 291)), (1, .int x1), (2, .int x2), (3, .int x3)] [] (lay G S)
  refine v_aload_n 0 dX10_isMade_0 rfl rfl ?_
  obtain ⟨q1, eq1, hh⟩ := bnd_some hh
  refine v_callVv (t_X10_setAside eq1) dX10_isMade_1 y_X10_setAside ml_X10_372 (ci := 9) rfl rfl (e_Model) rfl rfl (Nat.le_of_ble_eq_true rfl) ⟨(Nat.le_of_ble_eq_true rfl), (Nat.le_of_ble_eq_true rfl)⟩ ⟨Nat.zero_le _, Nat.zero_le _⟩ ?_
  refine v_bipush dX10_isMade_4 (by decide : _ = (11 : Int32)) ?_
  refine v_istore dX10_isMade_6 (by decide) rfl ?_
  exact v_sub [1, 2, 3, 4, 0] rfl (tb_X10_isMade_8 N _ _ _ _ _ hh)
def f_X10_which_b67 (N : Nat) : Nat → Int32 → Int32 → Int32 → Int32 → Int32 → St → Option (Int32 × St)
  | 0, _, _, _, _, _, _ => none
  | n + 1, x1, x2, x3, x4, x5, S =>
  if (576 : Int32) ≤ x5 then
  (if x2 = (0 : Int32) then
  (some (x3, S))
  else
  (some (x4, S)))
  else
  (bnd (f_X10_isMade N S x1 x5 (2 : Int32)) fun q2 =>
 if q2.1 = (0 : Int32) then
  (lt (x5 + (1 : Int32)) fun v7 =>
  f_X10_which_b67 N n x1 x2 x3 x4 v7 q2.2)
  else
  (lt (x3 + (1 : Int32)) fun v3 =>
  if x4 = (-1 : Int32) then
  (lt (x5 / (24 : Int32)) fun v5 =>
  lt (x5 + (1 : Int32)) fun v6 =>
  f_X10_which_b67 N n x1 x2 v3 v5 v6 q2.2)
  else
  (lt (x5 + (1 : Int32)) fun v4 =>
  f_X10_which_b67 N n x1 x2 v3 x4 v4 q2.2)))
set_option maxRecDepth 100000 in
set_option maxHeartbeats 4000000 in
theorem tb_X10_which_67 {l : Launch} {G : v_G} {N : Nat}    {r : Int32 × St}   : ∀ (n : Nat) (x1 : Int32) (x2 : Int32) (x3 : Int32) (x4 : Int32) (x5 : Int32) (S : St),  f_X10_which_b67 N n x1 x2 x3 x4 x5 S = some r → V l G yX10_which cX10_which 6 (some .int) (v_rm 10 0 0) (QI r.1 (lay G r.2)) 0 0 67 [(0, .ref (v_B G + 291)), (1, .int x1), (2, .int x2), (3, .int x3), (4, .int x4), (5, .int x5)] [] (lay G S) := by
  intro n
  induction n with
  | zero =>
    intro x1 x2 x3 x4 x5 S  hh
    rw [f_X10_which_b67] at hh
    cases hh
  | succ n ih =>
    intro x1 x2 x3 x4 x5 S  hh
    rw [f_X10_which_b67] at hh
    refine v_iload 5 dX10_which_67 rfl ?_
    refine v_sipush dX10_which_69 (by decide : _ = (576 : Int32)) ?_
    refine v_icmp_ge (tgt := 116) dX10_which_72 (by decide) (fun c => ?_) (fun c => ?_)
    · replace hh := (if_pos c).symm.trans hh
      refine v_iload_n 2 dX10_which_116 rfl rfl ?_
      refine v_if_eq (tgt := 125) dX10_which_117 (by decide) (fun c => ?_) (fun c => ?_)
      · replace hh := (if_pos c).symm.trans hh
        refine v_iload_n 3 dX10_which_125 rfl rfl ?_
        obtain rfl := Option.some.inj hh
        exact v_iret dX10_which_126 rfl (Nat.zero_le _) (Nat.zero_le _) ⟨rfl, rfl⟩
      · replace hh := (if_neg c).symm.trans hh
        refine v_iload 4 dX10_which_120 rfl ?_
        refine v_goto (tgt := 126) dX10_which_122 (by decide) ?_
        obtain rfl := Option.some.inj hh
        exact v_iret dX10_which_126 rfl (Nat.zero_le _) (Nat.zero_le _) ⟨rfl, rfl⟩
    · replace hh := (if_neg c).symm.trans hh
      refine v_aload_n 0 dX10_which_75 rfl rfl ?_
      refine v_iload_n 1 dX10_which_76 rfl rfl ?_
      refine v_iload 5 dX10_which_77 rfl ?_
      refine v_iconst dX10_which_79 (by decide : _ = (2 : Int32)) ?_
      obtain ⟨q2, eq2, hh⟩ := bnd_some hh
      refine v_callVi (t_X10_isMade eq2) dX10_which_80 y_X10_isMade ml_X10_406 (ci := 9) rfl rfl (e_Model) rfl rfl (Nat.le_of_ble_eq_true rfl) ⟨(Nat.le_of_ble_eq_true rfl), (Nat.le_of_ble_eq_true rfl)⟩ ⟨Nat.zero_le _, Nat.zero_le _⟩ ?_
      refine v_if_ne (tgt := 89) dX10_which_83 (by decide) (fun c => ?_) (fun c => ?_)
      · replace hh := (if_neg c).symm.trans hh
        refine v_iinc (v := _ + (1 : Int32)) 3 dX10_which_89 rfl rfl (by decide) rfl ?_
        replace hh := lt_of hh
        refine v_iload 4 dX10_which_92 rfl ?_
        refine v_iconst dX10_which_94 (by decide : _ = (-1 : Int32)) ?_
        refine v_icmp_ne (tgt := 106) dX10_which_95 (by decide) (fun c => ?_) (fun c => ?_)
        · replace hh := (if_neg c).symm.trans hh
          refine v_iload 4 dX10_which_106 rfl ?_
          refine v_istore dX10_which_108 (by decide) rfl ?_
          refine v_iinc (v := _ + (1 : Int32)) 5 dX10_which_110 rfl rfl (by decide) rfl ?_
          replace hh := lt_of hh
          refine v_goto (tgt := 67) dX10_which_113 (by decide) ?_
          exact v_sub [3, 4, 5, 2, 1, 0] rfl (ih _ _ _ _ _ _ hh)
        · replace hh := (if_pos c).symm.trans hh
          refine v_iload 5 dX10_which_98 rfl ?_
          refine v_bipush dX10_which_100 (by decide : _ = (24 : Int32)) ?_
          refine v_idiv dX10_which_102 (by decide) ?_
          refine v_goto (tgt := 108) dX10_which_103 (by decide) ?_
          refine v_istore dX10_which_108 (by decide) rfl ?_
          replace hh := lt_of hh
          refine v_iinc (v := _ + (1 : Int32)) 5 dX10_which_110 rfl rfl (by decide) rfl ?_
          replace hh := lt_of hh
          refine v_goto (tgt := 67) dX10_which_113 (by decide) ?_
          exact v_sub [3, 4, 5, 2, 1, 0] rfl (ih _ _ _ _ _ _ hh)
      · replace hh := (if_pos c).symm.trans hh
        refine v_goto (tgt := 110) dX10_which_86 (by decide) ?_
        refine v_iinc (v := _ + (1 : Int32)) 5 dX10_which_110 rfl rfl (by decide) rfl ?_
        replace hh := lt_of hh
        refine v_goto (tgt := 67) dX10_which_113 (by decide) ?_
        exact v_sub [1, 2, 3, 4, 5, 0] rfl (ih _ _ _ _ _ _ hh)
def f_X10_which_b19 (N : Nat) : Nat → Int32 → Int32 → Int32 → Int32 → Int32 → St → Option (Int32 × St)
  | 0, _, _, _, _, _, _ => none
  | n + 1, x1, x2, x3, x4, x5, S =>
  if (24 : Int32) ≤ x5 then
  (f_X10_which_b67 N N x1 x2 x3 x4 (0 : Int32) S)
  else
  (bnd (f_X10_isMade N S x1 x5 (1 : Int32)) fun q8 =>
 if q8.1 = (0 : Int32) then
  (lt (x5 + (1 : Int32)) fun v12 =>
  f_X10_which_b19 N n x1 x2 x3 x4 v12 q8.2)
  else
  (lt (x3 + (1 : Int32)) fun v9 =>
  if x4 = (-1 : Int32) then
  (lt (x5 + (1 : Int32)) fun v11 =>
  f_X10_which_b19 N n x1 x2 v9 x5 v11 q8.2)
  else
  (lt (x5 + (1 : Int32)) fun v10 =>
  f_X10_which_b19 N n x1 x2 v9 x4 v10 q8.2)))
set_option maxRecDepth 100000 in
set_option maxHeartbeats 4000000 in
theorem tb_X10_which_19 {l : Launch} {G : v_G} {N : Nat}    {r : Int32 × St}   : ∀ (n : Nat) (x1 : Int32) (x2 : Int32) (x3 : Int32) (x4 : Int32) (x5 : Int32) (S : St),  f_X10_which_b19 N n x1 x2 x3 x4 x5 S = some r → V l G yX10_which cX10_which 6 (some .int) (v_rm 10 0 0) (QI r.1 (lay G r.2)) 0 0 19 [(0, .ref (v_B G + 291)), (1, .int x1), (2, .int x2), (3, .int x3), (4, .int x4), (5, .int x5)] [] (lay G S) := by
  intro n
  induction n with
  | zero =>
    intro x1 x2 x3 x4 x5 S  hh
    rw [f_X10_which_b19] at hh
    cases hh
  | succ n ih =>
    intro x1 x2 x3 x4 x5 S  hh
    rw [f_X10_which_b19] at hh
    refine v_iload 5 dX10_which_19 rfl ?_
    refine v_bipush dX10_which_21 (by decide : _ = (24 : Int32)) ?_
    refine v_icmp_ge (tgt := 64) dX10_which_23 (by decide) (fun c => ?_) (fun c => ?_)
    · replace hh := (if_pos c).symm.trans hh
      refine v_iconst dX10_which_64 (by decide : _ = (0 : Int32)) ?_
      refine v_istore dX10_which_65 (by decide) rfl ?_
      exact v_sub [1, 2, 3, 4, 5, 0] rfl (tb_X10_which_67 N _ _ _ _ _ _ hh)
    · replace hh := (if_neg c).symm.trans hh
      refine v_aload_n 0 dX10_which_26 rfl rfl ?_
      refine v_iload_n 1 dX10_which_27 rfl rfl ?_
      refine v_iload 5 dX10_which_28 rfl ?_
      refine v_iconst dX10_which_30 (by decide : _ = (1 : Int32)) ?_
      obtain ⟨q8, eq8, hh⟩ := bnd_some hh
      refine v_callVi (t_X10_isMade eq8) dX10_which_31 y_X10_isMade ml_X10_406 (ci := 9) rfl rfl (e_Model) rfl rfl (Nat.le_of_ble_eq_true rfl) ⟨(Nat.le_of_ble_eq_true rfl), (Nat.le_of_ble_eq_true rfl)⟩ ⟨Nat.zero_le _, Nat.zero_le _⟩ ?_
      refine v_if_ne (tgt := 40) dX10_which_34 (by decide) (fun c => ?_) (fun c => ?_)
      · replace hh := (if_neg c).symm.trans hh
        refine v_iinc (v := _ + (1 : Int32)) 3 dX10_which_40 rfl rfl (by decide) rfl ?_
        replace hh := lt_of hh
        refine v_iload 4 dX10_which_43 rfl ?_
        refine v_iconst dX10_which_45 (by decide : _ = (-1 : Int32)) ?_
        refine v_icmp_ne (tgt := 54) dX10_which_46 (by decide) (fun c => ?_) (fun c => ?_)
        · replace hh := (if_neg c).symm.trans hh
          refine v_iload 4 dX10_which_54 rfl ?_
          refine v_istore dX10_which_56 (by decide) rfl ?_
          refine v_iinc (v := _ + (1 : Int32)) 5 dX10_which_58 rfl rfl (by decide) rfl ?_
          replace hh := lt_of hh
          refine v_goto (tgt := 19) dX10_which_61 (by decide) ?_
          exact v_sub [3, 4, 5, 2, 1, 0] rfl (ih _ _ _ _ _ _ hh)
        · replace hh := (if_pos c).symm.trans hh
          refine v_iload 5 dX10_which_49 rfl ?_
          refine v_goto (tgt := 56) dX10_which_51 (by decide) ?_
          refine v_istore dX10_which_56 (by decide) rfl ?_
          refine v_iinc (v := _ + (1 : Int32)) 5 dX10_which_58 rfl rfl (by decide) rfl ?_
          replace hh := lt_of hh
          refine v_goto (tgt := 19) dX10_which_61 (by decide) ?_
          exact v_sub [3, 4, 5, 2, 1, 0] rfl (ih _ _ _ _ _ _ hh)
      · replace hh := (if_pos c).symm.trans hh
        refine v_goto (tgt := 58) dX10_which_37 (by decide) ?_
        refine v_iinc (v := _ + (1 : Int32)) 5 dX10_which_58 rfl rfl (by decide) rfl ?_
        replace hh := lt_of hh
        refine v_goto (tgt := 19) dX10_which_61 (by decide) ?_
        exact v_sub [1, 2, 3, 4, 5, 0] rfl (ih _ _ _ _ _ _ hh)
def f_X10_which (N : Nat) (S : St) (x1 : Int32) (x2 : Int32) : Option (Int32 × St) :=
  bnd (f_X10_isHand S x1) fun q1 =>
 if q1 = (0 : Int32) then
  (some ((-2 : Int32), S))
  else
  (f_X10_which_b19 N N x1 x2 (0 : Int32) (-1 : Int32) (0 : Int32) S)
set_option maxRecDepth 100000 in
set_option maxHeartbeats 4000000 in
theorem t_X10_which {l : Launch} {G : v_G} {N : Nat} {S : St}   {x1 : Int32} {x2 : Int32} {r : Int32 × St} (hh : f_X10_which N S x1 x2 = some r) : v_M l G yX10_which cX10_which 6 (some .int) 10 0 0 [.ref (v_B G + 291), .int x1, .int x2] (lay G S) (QI r.1 (lay G r.2)) := by
  refine v_entry (by decide) (Nat.le_of_ble_eq_true rfl) ?_
  unfold f_X10_which at hh
  show V l G yX10_which cX10_which 6 (some .int) (v_rm 10 0 0) (QI r.1 (lay G r.2)) 0 0 0 [(0, .ref (v_B G + 291)), (1, .int x1), (2, .int x2)] [] (lay G S)
  refine v_aload_n 0 dX10_which_0 rfl rfl ?_
  refine v_iload_n 1 dX10_which_1 rfl rfl ?_
  obtain ⟨q1, eq1, hh⟩ := bnd_some hh
  refine v_callVi (t_X10_isHand eq1) dX10_which_2 y_X10_isHand ml_X10_311 (ci := 9) rfl rfl (e_Model) rfl rfl (Nat.le_of_ble_eq_true rfl) ⟨(Nat.le_of_ble_eq_true rfl), (Nat.le_of_ble_eq_true rfl)⟩ ⟨Nat.zero_le _, Nat.zero_le _⟩ ?_
  refine v_if_ne (tgt := 11) dX10_which_5 (by decide) (fun c => ?_) (fun c => ?_)
  · replace hh := (if_neg c).symm.trans hh
    refine v_iconst dX10_which_11 (by decide : _ = (0 : Int32)) ?_
    refine v_istore_n dX10_which_12 rfl (by decide) rfl ?_
    refine v_iconst dX10_which_13 (by decide : _ = (-1 : Int32)) ?_
    refine v_istore dX10_which_14 (by decide) rfl ?_
    refine v_iconst dX10_which_16 (by decide : _ = (0 : Int32)) ?_
    refine v_istore dX10_which_17 (by decide) rfl ?_
    exact v_sub [3, 4, 5, 2, 1, 0] rfl (tb_X10_which_19 N _ _ _ _ _ _ hh)
  · replace hh := (if_pos c).symm.trans hh
    refine v_bipush dX10_which_8 (by decide : _ = (-2 : Int32)) ?_
    obtain rfl := Option.some.inj hh
    exact v_iret dX10_which_10 rfl (Nat.zero_le _) (Nat.zero_le _) ⟨rfl, rfl⟩
def f_X10_likely_b76 (N : Nat) : Nat → Int32 → Int32 → Int32 → Int32 → St → Option (Int32 × St)
  | 0, _, _, _, _, _ => none
  | n + 1, x2, x3, x5, x6, S =>
  if x6 = (0 : Int32) then
  (if x2 = (0 : Int32) then
  (chk (nz x5) (
  some (x3 / x5, S)))
  else
  (chk (nz x5) (
  some ((24 : Int32) / x5, S))))
  else
  (chk (nz x6) (
  lt (x5 - x5 / x6 * x6) fun v3 =>
  f_X10_likely_b76 N n x2 x3 x6 v3 S))
set_option maxRecDepth 100000 in
set_option maxHeartbeats 4000000 in
theorem tb_X10_likely_76 {l : Launch} {G : v_G} {N : Nat}    {r : Int32 × St}   : ∀ (n : Nat) (x2 : Int32) (x3 : Int32) (x5 : Int32) (x6 : Int32) (S : St),  f_X10_likely_b76 N n x2 x3 x5 x6 S = some r → V l G yX10_likely cX10_likely 8 (some .int) (v_rm 8 0 0) (QI r.1 (lay G r.2)) 0 0 76 [(2, .int x2), (3, .int x3), (5, .int x5), (6, .int x6)] [] (lay G S) := by
  intro n
  induction n with
  | zero =>
    intro x2 x3 x5 x6 S  hh
    rw [f_X10_likely_b76] at hh
    cases hh
  | succ n ih =>
    intro x2 x3 x5 x6 S  hh
    rw [f_X10_likely_b76] at hh
    refine v_iload 3 dX10_likely_76 rfl ?_
    refine v_if_eq (tgt := 99) dX10_likely_78 (by decide) (fun c => ?_) (fun c => ?_)
    · replace hh := (if_pos c).symm.trans hh
      refine v_iload_n 0 dX10_likely_99 rfl rfl ?_
      refine v_if_eq (tgt := 108) dX10_likely_100 (by decide) (fun c => ?_) (fun c => ?_)
      · replace hh := (if_pos c).symm.trans hh
        refine v_iload_n 1 dX10_likely_108 rfl rfl ?_
        refine v_iload 2 dX10_likely_109 rfl ?_
        obtain ⟨g, hh⟩ := chk_some hh
        refine v_idiv dX10_likely_111 (nz_ne g) ?_
        obtain rfl := Option.some.inj hh
        exact v_iret dX10_likely_112 rfl (Nat.zero_le _) (Nat.zero_le _) ⟨rfl, rfl⟩
      · replace hh := (if_neg c).symm.trans hh
        refine v_bipush dX10_likely_103 (by decide : _ = (24 : Int32)) ?_
        refine v_goto (tgt := 109) dX10_likely_105 (by decide) ?_
        refine v_iload 2 dX10_likely_109 rfl ?_
        obtain ⟨g, hh⟩ := chk_some hh
        refine v_idiv dX10_likely_111 (nz_ne g) ?_
        obtain rfl := Option.some.inj hh
        exact v_iret dX10_likely_112 rfl (Nat.zero_le _) (Nat.zero_le _) ⟨rfl, rfl⟩
    · replace hh := (if_neg c).symm.trans hh
      refine v_iload 2 dX10_likely_81 rfl ?_
      refine v_iload 3 dX10_likely_83 rfl ?_
      obtain ⟨g, hh⟩ := chk_some hh
      refine v_irem dX10_likely_85 (nz_ne g) ?_
      refine v_istore dX10_likely_86 (by decide) rfl ?_
      replace hh := lt_of hh
      refine v_iload 4 dX10_likely_88 rfl ?_
      refine v_istore dX10_likely_90 (by decide) rfl ?_
      refine v_iload 1 dX10_likely_92 rfl ?_
      refine v_istore dX10_likely_94 (by decide) rfl ?_
      refine v_goto (tgt := 76) dX10_likely_96 (by decide) ?_
      exact v_sub [3, 4, 1, 0] rfl (ih _ _ _ _ _ hh)
def f_X10_likely_b57 (rec21 : (Int32 → Int32 → Int32 → Int32 → Int32 → St → Option (Int32 × St))) (N : Nat) (x1 : Int32) (x2 : Int32) (x4 : Int32) (x5 : Int32) (s0 : Int32) (s1 : Int32) (S : St) : Option (Int32 × St) :=
  lt (s1 + s0) fun v6 =>
  bnd (f_X10_putBack N S ) fun q7 =>
 lt (x5 + (1 : Int32)) fun v8 =>
  rec21 x1 x2 v6 x4 v8 q7
set_option maxRecDepth 100000 in
set_option maxHeartbeats 4000000 in
theorem tb_X10_likely_57 {l : Launch} {G : v_G} {N : Nat}    {r : Int32 × St} {rec21 : (Int32 → Int32 → Int32 → Int32 → Int32 → St → Option (Int32 × St))} (hrec21 : ∀ (x1 : Int32) (x2 : Int32) (x3 : Int32) (x4 : Int32) (x5 : Int32) (S : St),  rec21 x1 x2 x3 x4 x5 S = some r → V l G yX10_likely cX10_likely 8 (some .int) (v_rm 8 0 0) (QI r.1 (lay G r.2)) 0 0 21 [(0, .ref (v_B G + 291)), (1, .int x1), (2, .int x2), (3, .int x3), (4, .int x4), (5, .int x5)] [] (lay G S)) : ∀ (x1 : Int32) (x2 : Int32) (x4 : Int32) (x5 : Int32) (s0 : Int32) (s1 : Int32) (S : St),  f_X10_likely_b57 rec21 N x1 x2 x4 x5 s0 s1 S = some r → V l G yX10_likely cX10_likely 8 (some .int) (v_rm 8 0 0) (QI r.1 (lay G r.2)) 0 0 57 [(0, .ref (v_B G + 291)), (1, .int x1), (2, .int x2), (4, .int x4), (5, .int x5)] [.int s0, .int s1] (lay G S) := by
  intro x1 x2 x4 x5 s0 s1 S  hh
  unfold f_X10_likely_b57 at hh
  refine v_iadd dX10_likely_57 ?_
  refine v_istore_n dX10_likely_58 rfl (by decide) rfl ?_
  replace hh := lt_of hh
  refine v_aload_n 1 dX10_likely_59 rfl rfl ?_
  obtain ⟨q7, eq7, hh⟩ := bnd_some hh
  refine v_callVv (t_X10_putBack eq7) dX10_likely_60 y_X10_putBack ml_X10_375 (ci := 9) rfl rfl (e_Model) rfl rfl (Nat.le_of_ble_eq_true rfl) ⟨(Nat.le_of_ble_eq_true rfl), (Nat.le_of_ble_eq_true rfl)⟩ ⟨Nat.zero_le _, Nat.zero_le _⟩ ?_
  refine v_iinc (v := _ + (1 : Int32)) 5 dX10_likely_63 rfl rfl (by decide) rfl ?_
  replace hh := lt_of hh
  refine v_goto (tgt := 21) dX10_likely_66 (by decide) ?_
  exact v_sub [2, 3, 4, 1, 5, 0] rfl (hrec21 _ _ _ _ _ _ hh)
def f_X10_likely_b56 (rec21 : (Int32 → Int32 → Int32 → Int32 → Int32 → St → Option (Int32 × St))) (N : Nat) (x1 : Int32) (x2 : Int32) (x4 : Int32) (x5 : Int32) (s0 : Int32) (S : St) : Option (Int32 × St) :=
  f_X10_likely_b57 rec21 N x1 x2 x4 x5 (0 : Int32) s0 S
set_option maxRecDepth 100000 in
set_option maxHeartbeats 4000000 in
theorem tb_X10_likely_56 {l : Launch} {G : v_G} {N : Nat}    {r : Int32 × St} {rec21 : (Int32 → Int32 → Int32 → Int32 → Int32 → St → Option (Int32 × St))} (hrec21 : ∀ (x1 : Int32) (x2 : Int32) (x3 : Int32) (x4 : Int32) (x5 : Int32) (S : St),  rec21 x1 x2 x3 x4 x5 S = some r → V l G yX10_likely cX10_likely 8 (some .int) (v_rm 8 0 0) (QI r.1 (lay G r.2)) 0 0 21 [(0, .ref (v_B G + 291)), (1, .int x1), (2, .int x2), (3, .int x3), (4, .int x4), (5, .int x5)] [] (lay G S)) : ∀ (x1 : Int32) (x2 : Int32) (x4 : Int32) (x5 : Int32) (s0 : Int32) (S : St),  f_X10_likely_b56 rec21 N x1 x2 x4 x5 s0 S = some r → V l G yX10_likely cX10_likely 8 (some .int) (v_rm 8 0 0) (QI r.1 (lay G r.2)) 0 0 56 [(0, .ref (v_B G + 291)), (1, .int x1), (2, .int x2), (4, .int x4), (5, .int x5)] [.int s0] (lay G S) := by
  intro x1 x2 x4 x5 s0 S  hh
  unfold f_X10_likely_b56 at hh
  refine v_iconst dX10_likely_56 (by decide : _ = (0 : Int32)) ?_
  exact v_sub [0, 1, 2, 3, 4] rfl (tb_X10_likely_57 hrec21 _ _ _ _ _ _ _ hh)
def f_X10_likely_b21 (N : Nat) : Nat → Int32 → Int32 → Int32 → Int32 → Int32 → St → Option (Int32 × St)
  | 0, _, _, _, _, _, _ => none
  | n + 1, x1, x2, x3, x4, x5, S =>
  if (24 : Int32) ≤ x5 then
  (f_X10_likely_b76 N N x2 x3 x3 (24 : Int32) S)
  else
  (bnd (f_X10_setAside N S ) fun q4 =>
 bnd (f_X10_isStroked N q4 x1 x5) fun q5 =>
 if q5.1 = (0 : Int32) then
  (f_X10_likely_b56 (f_X10_likely_b21 N n) N x1 x2 x4 x5 x3 q5.2)
  else
  (bnd (f_X10_tornNow N q5.2 ) fun q9 =>
 if q9 = x4 then
  (f_X10_likely_b56 (f_X10_likely_b21 N n) N x1 x2 x4 x5 x3 q5.2)
  else
  (f_X10_likely_b57 (f_X10_likely_b21 N n) N x1 x2 x4 x5 (1 : Int32) x3 q5.2)))
set_option maxRecDepth 100000 in
set_option maxHeartbeats 4000000 in
theorem tb_X10_likely_21 {l : Launch} {G : v_G} {N : Nat}    {r : Int32 × St}   : ∀ (n : Nat) (x1 : Int32) (x2 : Int32) (x3 : Int32) (x4 : Int32) (x5 : Int32) (S : St),  f_X10_likely_b21 N n x1 x2 x3 x4 x5 S = some r → V l G yX10_likely cX10_likely 8 (some .int) (v_rm 8 0 0) (QI r.1 (lay G r.2)) 0 0 21 [(0, .ref (v_B G + 291)), (1, .int x1), (2, .int x2), (3, .int x3), (4, .int x4), (5, .int x5)] [] (lay G S) := by
  intro n
  induction n with
  | zero =>
    intro x1 x2 x3 x4 x5 S  hh
    rw [f_X10_likely_b21] at hh
    cases hh
  | succ n ih =>
    intro x1 x2 x3 x4 x5 S  hh
    rw [f_X10_likely_b21] at hh
    refine v_iload 5 dX10_likely_21 rfl ?_
    refine v_bipush dX10_likely_23 (by decide : _ = (24 : Int32)) ?_
    refine v_icmp_ge (tgt := 69) dX10_likely_25 (by decide) (fun c => ?_) (fun c => ?_)
    · replace hh := (if_pos c).symm.trans hh
      refine v_iload_n 3 dX10_likely_69 rfl rfl ?_
      refine v_istore dX10_likely_70 (by decide) rfl ?_
      refine v_bipush dX10_likely_72 (by decide : _ = (24 : Int32)) ?_
      refine v_istore dX10_likely_74 (by decide) rfl ?_
      exact v_sub [4, 5, 1, 0] rfl (tb_X10_likely_76 N _ _ _ _ _ hh)
    · replace hh := (if_neg c).symm.trans hh
      refine v_aload_n 0 dX10_likely_28 rfl rfl ?_
      obtain ⟨q4, eq4, hh⟩ := bnd_some hh
      refine v_callVv (t_X10_setAside eq4) dX10_likely_29 y_X10_setAside ml_X10_372 (ci := 9) rfl rfl (e_Model) rfl rfl (Nat.le_of_ble_eq_true rfl) ⟨(Nat.le_of_ble_eq_true rfl), (Nat.le_of_ble_eq_true rfl)⟩ ⟨Nat.zero_le _, Nat.zero_le _⟩ ?_
      refine v_iload_n 3 dX10_likely_32 rfl rfl ?_
      refine v_aload_n 0 dX10_likely_33 rfl rfl ?_
      refine v_iload_n 1 dX10_likely_34 rfl rfl ?_
      refine v_iload 5 dX10_likely_35 rfl ?_
      obtain ⟨q5, eq5, hh⟩ := bnd_some hh
      refine v_callVi (t_X10_isStroked eq5) dX10_likely_37 y_X10_isStroked ml_X10_396 (ci := 9) rfl rfl (e_Model) rfl rfl (Nat.le_of_ble_eq_true rfl) ⟨(Nat.le_of_ble_eq_true rfl), (Nat.le_of_ble_eq_true rfl)⟩ ⟨Nat.zero_le _, Nat.zero_le _⟩ ?_
      refine v_if_eq (tgt := 56) dX10_likely_40 (by decide) (fun c => ?_) (fun c => ?_)
      · replace hh := (if_pos c).symm.trans hh
        exact v_sub [0, 1, 2, 4, 5] rfl (tb_X10_likely_56 (fun _ _ _ _ _ _ hh => ih _ _ _ _ _ _ hh) _ _ _ _ _ _ hh)
      · replace hh := (if_neg c).symm.trans hh
        refine v_aload_n 0 dX10_likely_43 rfl rfl ?_
        obtain ⟨q9, eq9, hh⟩ := bnd_some hh
        refine v_callVi (t_X10_tornNow eq9) dX10_likely_44 y_X10_tornNow ml_X10_362 (ci := 9) rfl rfl (e_Model) rfl rfl (Nat.le_of_ble_eq_true rfl) ⟨(Nat.le_of_ble_eq_true rfl), (Nat.le_of_ble_eq_true rfl)⟩ ⟨Nat.zero_le _, Nat.zero_le _⟩ ?_
        refine v_iload 4 dX10_likely_47 rfl ?_
        refine v_icmp_eq (tgt := 56) dX10_likely_49 (by decide) (fun c => ?_) (fun c => ?_)
        · replace hh := (if_pos c).symm.trans hh
          exact v_sub [0, 1, 2, 4, 5] rfl (tb_X10_likely_56 (fun _ _ _ _ _ _ hh => ih _ _ _ _ _ _ hh) _ _ _ _ _ _ hh)
        · replace hh := (if_neg c).symm.trans hh
          refine v_iconst dX10_likely_52 (by decide : _ = (1 : Int32)) ?_
          refine v_goto (tgt := 57) dX10_likely_53 (by decide) ?_
          exact v_sub [0, 1, 2, 4, 5] rfl (tb_X10_likely_57 (fun _ _ _ _ _ _ hh => ih _ _ _ _ _ _ hh) _ _ _ _ _ _ _ hh)
def f_X10_likely (N : Nat) (S : St) (x1 : Int32) (x2 : Int32) : Option (Int32 × St) :=
  bnd (f_X10_isHand S x1) fun q1 =>
 if q1 = (0 : Int32) then
  (some ((-1 : Int32), S))
  else
  (bnd (f_X10_tornNow N S ) fun q2 =>
 f_X10_likely_b21 N N x1 x2 (0 : Int32) q2 (0 : Int32) S)
set_option maxRecDepth 100000 in
set_option maxHeartbeats 4000000 in
theorem t_X10_likely {l : Launch} {G : v_G} {N : Nat} {S : St}   {x1 : Int32} {x2 : Int32} {r : Int32 × St} (hh : f_X10_likely N S x1 x2 = some r) : v_M l G yX10_likely cX10_likely 8 (some .int) 8 0 0 [.ref (v_B G + 291), .int x1, .int x2] (lay G S) (QI r.1 (lay G r.2)) := by
  refine v_entry (by decide) (Nat.le_of_ble_eq_true rfl) ?_
  unfold f_X10_likely at hh
  show V l G yX10_likely cX10_likely 8 (some .int) (v_rm 8 0 0) (QI r.1 (lay G r.2)) 0 0 0 [(0, .ref (v_B G + 291)), (1, .int x1), (2, .int x2)] [] (lay G S)
  refine v_aload_n 0 dX10_likely_0 rfl rfl ?_
  refine v_iload_n 1 dX10_likely_1 rfl rfl ?_
  obtain ⟨q1, eq1, hh⟩ := bnd_some hh
  refine v_callVi (t_X10_isHand eq1) dX10_likely_2 y_X10_isHand ml_X10_311 (ci := 9) rfl rfl (e_Model) rfl rfl (Nat.le_of_ble_eq_true rfl) ⟨(Nat.le_of_ble_eq_true rfl), (Nat.le_of_ble_eq_true rfl)⟩ ⟨Nat.zero_le _, Nat.zero_le _⟩ ?_
  refine v_if_ne (tgt := 10) dX10_likely_5 (by decide) (fun c => ?_) (fun c => ?_)
  · replace hh := (if_neg c).symm.trans hh
    refine v_iconst dX10_likely_10 (by decide : _ = (0 : Int32)) ?_
    refine v_istore_n dX10_likely_11 rfl (by decide) rfl ?_
    refine v_aload_n 1 dX10_likely_12 rfl rfl ?_
    obtain ⟨q2, eq2, hh⟩ := bnd_some hh
    refine v_callVi (t_X10_tornNow eq2) dX10_likely_13 y_X10_tornNow ml_X10_362 (ci := 9) rfl rfl (e_Model) rfl rfl (Nat.le_of_ble_eq_true rfl) ⟨(Nat.le_of_ble_eq_true rfl), (Nat.le_of_ble_eq_true rfl)⟩ ⟨Nat.zero_le _, Nat.zero_le _⟩ ?_
    refine v_istore dX10_likely_16 (by decide) rfl ?_
    refine v_iconst dX10_likely_18 (by decide : _ = (0 : Int32)) ?_
    refine v_istore dX10_likely_19 (by decide) rfl ?_
    exact v_sub [3, 4, 5, 2, 1, 0] rfl (tb_X10_likely_21 N _ _ _ _ _ _ hh)
  · replace hh := (if_pos c).symm.trans hh
    refine v_iconst dX10_likely_8 (by decide : _ = (-1 : Int32)) ?_
    obtain rfl := Option.some.inj hh
    exact v_iret dX10_likely_9 rfl (Nat.zero_le _) (Nat.zero_le _) ⟨rfl, rfl⟩
def f_X10_said  (S : St) (x1 : Int32) (x2 : Int32) (x3 : Int32) : Option (Int32 × St) :=
  if x1 = (-1 : Int32) then
  (lt (sI S 1000 0 5 (0 : Int32)) fun S18 =>
  some ((0 : Int32), S18))
  else
  (bnd (f_X10_isHand S x1) fun q1 =>
 if q1 = (0 : Int32) then
  (some ((-2 : Int32), S))
  else
  (bnd (f_X10_isCell S x2) fun q2 =>
 if q2 = (0 : Int32) then
  (some ((-2 : Int32), S))
  else
  (bnd (f_X10_isIn S x3 (0 : Int32) (9999 : Int32)) fun q3 =>
 if q3 = (0 : Int32) then
  (some ((-2 : Int32), S))
  else
  (if (gI S 1000 0 5) = (8 : Int32) then
  (some ((-2 : Int32), S))
  else
  (lt ((51 : Int32) + ((3 : Int32) * (gI S 1000 0 5))) fun v6 =>
  chk (inb v6 3015) (
  lt (sI S 1000 0 v6.toNatClampNeg x1) fun S8 =>
  chk (inb (v6 + (1 : Int32)) 3015) (
  lt (sI S8 1000 0 ((v6 + (1 : Int32)).toNatClampNeg) x2) fun S10 =>
  chk (inb (v6 + (2 : Int32)) 3015) (
  lt (sI S10 1000 0 ((v6 + (2 : Int32)).toNatClampNeg) x3) fun S12 =>
  lt (sI S12 1000 0 5 ((gI S12 1000 0 5) + (1 : Int32))) fun S15 =>
  some (gI S15 1000 0 5, S15)))))))))
set_option maxRecDepth 100000 in
set_option maxHeartbeats 4000000 in
theorem t_X10_said {l : Launch} {G : v_G} {S : St}   {x1 : Int32} {x2 : Int32} {x3 : Int32} {r : Int32 × St} (hh : f_X10_said  S x1 x2 x3 = some r) : v_M l G yX10_said cX10_said 5 (some .int) 2 0 0 [.ref (v_B G + 291), .int x1, .int x2, .int x3] (lay G S) (QI r.1 (lay G r.2)) := by
  refine v_entry (by decide) (Nat.le_of_ble_eq_true rfl) ?_
  unfold f_X10_said at hh
  show V l G yX10_said cX10_said 5 (some .int) (v_rm 2 0 0) (QI r.1 (lay G r.2)) 0 0 0 [(0, .ref (v_B G + 291)), (1, .int x1), (2, .int x2), (3, .int x3)] [] (lay G S)
  refine v_iload_n 1 dX10_said_0 rfl rfl ?_
  refine v_iconst dX10_said_1 (by decide : _ = (-1 : Int32)) ?_
  refine v_icmp_ne (tgt := 14) dX10_said_2 (by decide) (fun c => ?_) (fun c => ?_)
  · replace hh := (if_neg c).symm.trans hh
    refine v_aload_n 0 dX10_said_14 rfl rfl ?_
    refine v_iload_n 1 dX10_said_15 rfl rfl ?_
    obtain ⟨q1, eq1, hh⟩ := bnd_some hh
    refine v_callVi (t_X10_isHand eq1) dX10_said_16 y_X10_isHand ml_X10_311 (ci := 9) rfl rfl (e_Model) rfl rfl (Nat.le_of_ble_eq_true rfl) ⟨(Nat.le_of_ble_eq_true rfl), (Nat.le_of_ble_eq_true rfl)⟩ ⟨Nat.zero_le _, Nat.zero_le _⟩ ?_
    refine v_if_eq (tgt := 51) dX10_said_19 (by decide) (fun c => ?_) (fun c => ?_)
    · replace hh := (if_pos c).symm.trans hh
      refine v_bipush dX10_said_51 (by decide : _ = (-2 : Int32)) ?_
      obtain rfl := Option.some.inj hh
      exact v_iret dX10_said_53 rfl (Nat.zero_le _) (Nat.zero_le _) ⟨rfl, rfl⟩
    · replace hh := (if_neg c).symm.trans hh
      refine v_iload_n 2 dX10_said_22 rfl rfl ?_
      obtain ⟨q2, eq2, hh⟩ := bnd_some hh
      refine v_callSi (t_X10_isCell eq2) dX10_said_23 y_X10_isCell ml_X10_67 rfl rfl (Nat.le_of_ble_eq_true rfl) ⟨(Nat.le_of_ble_eq_true rfl), (Nat.le_of_ble_eq_true rfl)⟩ ⟨Nat.zero_le _, Nat.zero_le _⟩ ?_
      refine v_if_eq (tgt := 51) dX10_said_26 (by decide) (fun c => ?_) (fun c => ?_)
      · replace hh := (if_pos c).symm.trans hh
        refine v_bipush dX10_said_51 (by decide : _ = (-2 : Int32)) ?_
        obtain rfl := Option.some.inj hh
        exact v_iret dX10_said_53 rfl (Nat.zero_le _) (Nat.zero_le _) ⟨rfl, rfl⟩
      · replace hh := (if_neg c).symm.trans hh
        refine v_iload_n 3 dX10_said_29 rfl rfl ?_
        refine v_iconst dX10_said_30 (by decide : _ = (0 : Int32)) ?_
        refine v_sipush dX10_said_31 (by decide : _ = (9999 : Int32)) ?_
        obtain ⟨q3, eq3, hh⟩ := bnd_some hh
        refine v_callSi (t_X10_isIn eq3) dX10_said_34 y_X10_isIn ml_X10_63 rfl rfl (Nat.le_of_ble_eq_true rfl) ⟨(Nat.le_of_ble_eq_true rfl), (Nat.le_of_ble_eq_true rfl)⟩ ⟨Nat.zero_le _, Nat.zero_le _⟩ ?_
        refine v_if_eq (tgt := 51) dX10_said_37 (by decide) (fun c => ?_) (fun c => ?_)
        · replace hh := (if_pos c).symm.trans hh
          refine v_bipush dX10_said_51 (by decide : _ = (-2 : Int32)) ?_
          obtain rfl := Option.some.inj hh
          exact v_iret dX10_said_53 rfl (Nat.zero_le _) (Nat.zero_le _) ⟨rfl, rfl⟩
        · replace hh := (if_neg c).symm.trans hh
          refine v_aload_n 0 dX10_said_40 rfl rfl ?_
          refine r_Model_a dX10_said_41 fl_X10_7 ?_
          refine v_iconst dX10_said_44 (by decide : _ = (5 : Int32)) ?_
          refine ld_ma dX10_said_45 (inb_in (by decide)) ?_
          refine v_bipush dX10_said_46 (by decide : _ = (8 : Int32)) ?_
          refine v_icmp_ne (tgt := 54) dX10_said_48 (by decide) (fun c => ?_) (fun c => ?_)
          · replace hh := (if_neg c).symm.trans hh
            refine v_bipush dX10_said_54 (by decide : _ = (51 : Int32)) ?_
            refine v_iconst dX10_said_56 (by decide : _ = (3 : Int32)) ?_
            refine v_aload_n 0 dX10_said_57 rfl rfl ?_
            refine r_Model_a dX10_said_58 fl_X10_7 ?_
            refine v_iconst dX10_said_61 (by decide : _ = (5 : Int32)) ?_
            refine ld_ma dX10_said_62 (inb_in (by decide)) ?_
            refine v_imul dX10_said_63 ?_
            refine v_iadd dX10_said_64 ?_
            refine v_istore dX10_said_65 (by decide) rfl ?_
            replace hh := lt_of hh
            refine v_aload_n 1 dX10_said_67 rfl rfl ?_
            refine r_Model_a dX10_said_68 fl_X10_7 ?_
            refine v_iload 0 dX10_said_71 rfl ?_
            refine v_iload_n 2 dX10_said_73 rfl rfl ?_
            obtain ⟨g7, hh⟩ := chk_some hh
            replace g7 := inb_in g7
            refine st_ma dX10_said_74 g7 ?_
            replace hh := lt_of hh
            refine v_aload_n 1 dX10_said_75 rfl rfl ?_
            refine r_Model_a dX10_said_76 fl_X10_7 ?_
            refine v_iload 0 dX10_said_79 rfl ?_
            refine v_iconst dX10_said_81 (by decide : _ = (1 : Int32)) ?_
            refine v_iadd dX10_said_82 ?_
            refine v_iload_n 3 dX10_said_83 rfl rfl ?_
            obtain ⟨g9, hh⟩ := chk_some hh
            replace g9 := inb_in g9
            refine st_ma dX10_said_84 g9 ?_
            replace hh := lt_of hh
            refine v_aload_n 1 dX10_said_85 rfl rfl ?_
            refine r_Model_a dX10_said_86 fl_X10_7 ?_
            refine v_iload 0 dX10_said_89 rfl ?_
            refine v_iconst dX10_said_91 (by decide : _ = (2 : Int32)) ?_
            refine v_iadd dX10_said_92 ?_
            refine v_iload_n 4 dX10_said_93 rfl rfl ?_
            obtain ⟨g11, hh⟩ := chk_some hh
            replace g11 := inb_in g11
            refine st_ma dX10_said_94 g11 ?_
            replace hh := lt_of hh
            refine v_aload_n 1 dX10_said_95 rfl rfl ?_
            refine r_Model_a dX10_said_96 fl_X10_7 ?_
            refine v_iconst dX10_said_99 (by decide : _ = (5 : Int32)) ?_
            refine v_dup2 dX10_said_100 rfl rfl ?_
            refine ld_ma dX10_said_101 (inb_in (by decide)) ?_
            refine v_iconst dX10_said_102 (by decide : _ = (1 : Int32)) ?_
            refine v_iadd dX10_said_103 ?_
            refine st_ma dX10_said_104 (inb_in (by decide)) ?_
            replace hh := lt_of hh
            refine v_aload_n 1 dX10_said_105 rfl rfl ?_
            refine r_Model_a dX10_said_106 fl_X10_7 ?_
            refine v_iconst dX10_said_109 (by decide : _ = (5 : Int32)) ?_
            refine ld_ma dX10_said_110 (inb_in (by decide)) ?_
            obtain rfl := Option.some.inj hh
            exact v_iret dX10_said_111 rfl (Nat.zero_le _) (Nat.zero_le _) ⟨rfl, rfl⟩
          · replace hh := (if_pos c).symm.trans hh
            refine v_bipush dX10_said_51 (by decide : _ = (-2 : Int32)) ?_
            obtain rfl := Option.some.inj hh
            exact v_iret dX10_said_53 rfl (Nat.zero_le _) (Nat.zero_le _) ⟨rfl, rfl⟩
  · replace hh := (if_pos c).symm.trans hh
    refine v_aload_n 0 dX10_said_5 rfl rfl ?_
    refine r_Model_a dX10_said_6 fl_X10_7 ?_
    refine v_iconst dX10_said_9 (by decide : _ = (5 : Int32)) ?_
    refine v_iconst dX10_said_10 (by decide : _ = (0 : Int32)) ?_
    refine st_ma dX10_said_11 (inb_in (by decide)) ?_
    replace hh := lt_of hh
    refine v_iconst dX10_said_12 (by decide : _ = (0 : Int32)) ?_
    obtain rfl := Option.some.inj hh
    exact v_iret dX10_said_13 rfl (Nat.zero_le _) (Nat.zero_le _) ⟨rfl, rfl⟩
def f_X10_whose_b20 (rec4 : (Int32 → Int32 → St → Option (Int32 × St))) (N : Nat) : Nat → Int32 → Int32 → Int32 → Int32 → St → Option (Int32 × St)
  | 0, _, _, _, _, _ => none
  | n + 1, x1, x2, x3, x4, S =>
  if ((51 : Int32) + ((3 : Int32) * (gI S 1000 0 5))) ≤ x4 then
  (if x3 = (0 : Int32) then
  (lt (x1 ||| (0 : Int32)) fun v3 =>
  lt (x2 + (1 : Int32)) fun v4 =>
  rec4 v3 v4 S)
  else
  (lt (x1 ||| ((1 : Int32) <<< (x2 &&& 31))) fun v5 =>
  lt (x2 + (1 : Int32)) fun v6 =>
  rec4 v5 v6 S))
  else
  (if x3 = (0 : Int32) then
  (lt (x4 + (3 : Int32)) fun v7 =>
  f_X10_whose_b20 rec4 N n x1 x2 (0 : Int32) v7 S)
  else
  (chk (inb x4 3015) (
  chk (inb (x4 + (1 : Int32)) 3015) (
  bnd (f_X10_movesOf N S x2 (gI S 1000 0 x4.toNatClampNeg) (gI S 1000 0 (x4 + (1 : Int32)).toNatClampNeg) (1 : Int32)) fun q10 =>
 chk (inb (x4 + (2 : Int32)) 3015) (
  if q10.1 = (gI q10.2 1000 0 (x4 + (2 : Int32)).toNatClampNeg) then
  (lt (x4 + (3 : Int32)) fun v13 =>
  f_X10_whose_b20 rec4 N n x1 x2 (1 : Int32) v13 q10.2)
  else
  (lt (x4 + (3 : Int32)) fun v12 =>
  f_X10_whose_b20 rec4 N n x1 x2 (0 : Int32) v12 q10.2))))))
set_option maxRecDepth 100000 in
set_option maxHeartbeats 4000000 in
theorem tb_X10_whose_20 {l : Launch} {G : v_G} {N : Nat}    {r : Int32 × St} {rec4 : (Int32 → Int32 → St → Option (Int32 × St))} (hrec4 : ∀ (x1 : Int32) (x2 : Int32) (S : St),  rec4 x1 x2 S = some r → V l G yX10_whose cX10_whose 5 (some .int) (v_rm 6 0 0) (QI r.1 (lay G r.2)) 0 0 4 [(0, .ref (v_B G + 291)), (1, .int x1), (2, .int x2)] [] (lay G S)) : ∀ (n : Nat) (x1 : Int32) (x2 : Int32) (x3 : Int32) (x4 : Int32) (S : St),  f_X10_whose_b20 rec4 N n x1 x2 x3 x4 S = some r → V l G yX10_whose cX10_whose 5 (some .int) (v_rm 6 0 0) (QI r.1 (lay G r.2)) 0 0 20 [(0, .ref (v_B G + 291)), (1, .int x1), (2, .int x2), (3, .int x3), (4, .int x4)] [] (lay G S) := by
  intro n
  induction n with
  | zero =>
    intro x1 x2 x3 x4 S  hh
    rw [f_X10_whose_b20] at hh
    cases hh
  | succ n ih =>
    intro x1 x2 x3 x4 S  hh
    rw [f_X10_whose_b20] at hh
    refine v_iload 4 dX10_whose_20 rfl ?_
    refine v_bipush dX10_whose_22 (by decide : _ = (51 : Int32)) ?_
    refine v_iconst dX10_whose_24 (by decide : _ = (3 : Int32)) ?_
    refine v_aload_n 0 dX10_whose_25 rfl rfl ?_
    refine r_Model_a dX10_whose_26 fl_X10_7 ?_
    refine v_iconst dX10_whose_29 (by decide : _ = (5 : Int32)) ?_
    refine ld_ma dX10_whose_30 (inb_in (by decide)) ?_
    refine v_imul dX10_whose_31 ?_
    refine v_iadd dX10_whose_32 ?_
    refine v_icmp_ge (tgt := 86) dX10_whose_33 (by decide) (fun c => ?_) (fun c => ?_)
    · replace hh := (if_pos c).symm.trans hh
      refine v_iload_n 1 dX10_whose_86 rfl rfl ?_
      refine v_iload_n 3 dX10_whose_87 rfl rfl ?_
      refine v_if_eq (tgt := 97) dX10_whose_88 (by decide) (fun c => ?_) (fun c => ?_)
      · replace hh := (if_pos c).symm.trans hh
        refine v_iconst dX10_whose_97 (by decide : _ = (0 : Int32)) ?_
        refine v_ior dX10_whose_98 ?_
        refine v_istore_n dX10_whose_99 rfl (by decide) rfl ?_
        replace hh := lt_of hh
        refine v_iinc (v := _ + (1 : Int32)) 2 dX10_whose_100 rfl rfl (by decide) rfl ?_
        replace hh := lt_of hh
        refine v_goto (tgt := 4) dX10_whose_103 (by decide) ?_
        exact v_sub [2, 1, 0] rfl (hrec4 _ _ _ hh)
      · replace hh := (if_neg c).symm.trans hh
        refine v_iconst dX10_whose_91 (by decide : _ = (1 : Int32)) ?_
        refine v_iload_n 2 dX10_whose_92 rfl rfl ?_
        refine v_ishl dX10_whose_93 ?_
        refine v_goto (tgt := 98) dX10_whose_94 (by decide) ?_
        refine v_ior dX10_whose_98 ?_
        refine v_istore_n dX10_whose_99 rfl (by decide) rfl ?_
        replace hh := lt_of hh
        refine v_iinc (v := _ + (1 : Int32)) 2 dX10_whose_100 rfl rfl (by decide) rfl ?_
        replace hh := lt_of hh
        refine v_goto (tgt := 4) dX10_whose_103 (by decide) ?_
        exact v_sub [2, 1, 0] rfl (hrec4 _ _ _ hh)
    · replace hh := (if_neg c).symm.trans hh
      refine v_iload_n 3 dX10_whose_36 rfl rfl ?_
      refine v_if_eq (tgt := 78) dX10_whose_37 (by decide) (fun c => ?_) (fun c => ?_)
      · replace hh := (if_pos c).symm.trans hh
        refine v_iconst dX10_whose_78 (by decide : _ = (0 : Int32)) ?_
        refine v_istore_n dX10_whose_79 rfl (by decide) rfl ?_
        refine v_iinc (v := _ + (3 : Int32)) 4 dX10_whose_80 rfl rfl (by decide) rfl ?_
        replace hh := lt_of hh
        refine v_goto (tgt := 20) dX10_whose_83 (by decide) ?_
        exact v_sub [2, 3, 4, 1, 0] rfl (ih _ _ _ _ _ hh)
      · replace hh := (if_neg c).symm.trans hh
        refine v_aload_n 0 dX10_whose_40 rfl rfl ?_
        refine v_iload_n 2 dX10_whose_41 rfl rfl ?_
        refine v_aload_n 0 dX10_whose_42 rfl rfl ?_
        refine r_Model_a dX10_whose_43 fl_X10_7 ?_
        refine v_iload 4 dX10_whose_46 rfl ?_
        obtain ⟨g8, hh⟩ := chk_some hh
        replace g8 := inb_in g8
        refine ld_ma dX10_whose_48 g8 ?_
        refine v_aload_n 0 dX10_whose_49 rfl rfl ?_
        refine r_Model_a dX10_whose_50 fl_X10_7 ?_
        refine v_iload 4 dX10_whose_53 rfl ?_
        refine v_iconst dX10_whose_55 (by decide : _ = (1 : Int32)) ?_
        refine v_iadd dX10_whose_56 ?_
        obtain ⟨g9, hh⟩ := chk_some hh
        replace g9 := inb_in g9
        refine ld_ma dX10_whose_57 g9 ?_
        refine v_iconst dX10_whose_58 (by decide : _ = (1 : Int32)) ?_
        obtain ⟨q10, eq10, hh⟩ := bnd_some hh
        refine v_callVi (t_X10_movesOf eq10) dX10_whose_59 y_X10_movesOf ml_X10_290 (ci := 9) rfl rfl (e_Model) rfl rfl (Nat.le_of_ble_eq_true rfl) ⟨(Nat.le_of_ble_eq_true rfl), (Nat.le_of_ble_eq_true rfl)⟩ ⟨Nat.zero_le _, Nat.zero_le _⟩ ?_
        refine v_aload_n 0 dX10_whose_62 rfl rfl ?_
        refine r_Model_a dX10_whose_63 fl_X10_7 ?_
        refine v_iload 4 dX10_whose_66 rfl ?_
        refine v_iconst dX10_whose_68 (by decide : _ = (2 : Int32)) ?_
        refine v_iadd dX10_whose_69 ?_
        obtain ⟨g11, hh⟩ := chk_some hh
        replace g11 := inb_in g11
        refine ld_ma dX10_whose_70 g11 ?_
        refine v_icmp_ne (tgt := 78) dX10_whose_71 (by decide) (fun c => ?_) (fun c => ?_)
        · replace hh := (if_neg c).symm.trans hh
          refine v_iconst dX10_whose_78 (by decide : _ = (0 : Int32)) ?_
          refine v_istore_n dX10_whose_79 rfl (by decide) rfl ?_
          refine v_iinc (v := _ + (3 : Int32)) 4 dX10_whose_80 rfl rfl (by decide) rfl ?_
          replace hh := lt_of hh
          refine v_goto (tgt := 20) dX10_whose_83 (by decide) ?_
          exact v_sub [2, 3, 4, 1, 0] rfl (ih _ _ _ _ _ hh)
        · replace hh := (if_pos c).symm.trans hh
          refine v_iconst dX10_whose_74 (by decide : _ = (1 : Int32)) ?_
          refine v_goto (tgt := 79) dX10_whose_75 (by decide) ?_
          refine v_istore_n dX10_whose_79 rfl (by decide) rfl ?_
          refine v_iinc (v := _ + (3 : Int32)) 4 dX10_whose_80 rfl rfl (by decide) rfl ?_
          replace hh := lt_of hh
          refine v_goto (tgt := 20) dX10_whose_83 (by decide) ?_
          exact v_sub [2, 3, 4, 1, 0] rfl (ih _ _ _ _ _ hh)
def f_X10_whose_b4 (N : Nat) : Nat → Int32 → Int32 → St → Option (Int32 × St)
  | 0, _, _, _ => none
  | n + 1, x1, x2, S =>
  if (gI S 1000 0 2) ≤ x2 then
  (some (x1, S))
  else
  (f_X10_whose_b20 (f_X10_whose_b4 N n) N N x1 x2 (1 : Int32) (51 : Int32) S)
set_option maxRecDepth 100000 in
set_option maxHeartbeats 4000000 in
theorem tb_X10_whose_4 {l : Launch} {G : v_G} {N : Nat}    {r : Int32 × St}   : ∀ (n : Nat) (x1 : Int32) (x2 : Int32) (S : St),  f_X10_whose_b4 N n x1 x2 S = some r → V l G yX10_whose cX10_whose 5 (some .int) (v_rm 6 0 0) (QI r.1 (lay G r.2)) 0 0 4 [(0, .ref (v_B G + 291)), (1, .int x1), (2, .int x2)] [] (lay G S) := by
  intro n
  induction n with
  | zero =>
    intro x1 x2 S  hh
    rw [f_X10_whose_b4] at hh
    cases hh
  | succ n ih =>
    intro x1 x2 S  hh
    rw [f_X10_whose_b4] at hh
    refine v_iload_n 2 dX10_whose_4 rfl rfl ?_
    refine v_aload_n 0 dX10_whose_5 rfl rfl ?_
    refine r_Model_a dX10_whose_6 fl_X10_7 ?_
    refine v_iconst dX10_whose_9 (by decide : _ = (2 : Int32)) ?_
    refine ld_ma dX10_whose_10 (inb_in (by decide)) ?_
    refine v_icmp_ge (tgt := 106) dX10_whose_11 (by decide) (fun c => ?_) (fun c => ?_)
    · replace hh := (if_pos c).symm.trans hh
      refine v_iload_n 1 dX10_whose_106 rfl rfl ?_
      obtain rfl := Option.some.inj hh
      exact v_iret dX10_whose_107 rfl (Nat.zero_le _) (Nat.zero_le _) ⟨rfl, rfl⟩
    · replace hh := (if_neg c).symm.trans hh
      refine v_iconst dX10_whose_14 (by decide : _ = (1 : Int32)) ?_
      refine v_istore_n dX10_whose_15 rfl (by decide) rfl ?_
      refine v_bipush dX10_whose_16 (by decide : _ = (51 : Int32)) ?_
      refine v_istore dX10_whose_18 (by decide) rfl ?_
      exact v_sub [2, 3, 4, 1, 0] rfl (tb_X10_whose_20 (fun _ _ _ hh => ih _ _ _ hh) N _ _ _ _ _ hh)
def f_X10_whose (N : Nat) (S : St)  : Option (Int32 × St) :=
  f_X10_whose_b4 N N (0 : Int32) (0 : Int32) S
set_option maxRecDepth 100000 in
set_option maxHeartbeats 4000000 in
theorem t_X10_whose {l : Launch} {G : v_G} {N : Nat} {S : St}    {r : Int32 × St} (hh : f_X10_whose N S  = some r) : v_M l G yX10_whose cX10_whose 5 (some .int) 6 0 0 [.ref (v_B G + 291)] (lay G S) (QI r.1 (lay G r.2)) := by
  refine v_entry (by decide) (Nat.le_of_ble_eq_true rfl) ?_
  unfold f_X10_whose at hh
  show V l G yX10_whose cX10_whose 5 (some .int) (v_rm 6 0 0) (QI r.1 (lay G r.2)) 0 0 0 [(0, .ref (v_B G + 291))] [] (lay G S)
  refine v_iconst dX10_whose_0 (by decide : _ = (0 : Int32)) ?_
  refine v_istore_n dX10_whose_1 rfl (by decide) rfl ?_
  refine v_iconst dX10_whose_2 (by decide : _ = (0 : Int32)) ?_
  refine v_istore_n dX10_whose_3 rfl (by decide) rfl ?_
  exact v_sub [2, 1, 0] rfl (tb_X10_whose_4 N _ _ _ hh)
def f_X10_about  (S : St) (x1 : Int32) : Option (Int32) :=
  bnd (f_X10_isIn S x1 (0 : Int32) (5 : Int32)) fun q1 =>
 if q1 = (0 : Int32) then
  (if x1 = (6 : Int32) then
  (some (gI S 1004 0 0))
  else
  (some (-2 : Int32)))
  else
  (chk (inb x1 3015) (
  some (gI S 1000 0 x1.toNatClampNeg)))
set_option maxRecDepth 100000 in
set_option maxHeartbeats 4000000 in
theorem t_X10_about {l : Launch} {G : v_G} {S : St}   {x1 : Int32} {r : Int32} (hh : f_X10_about  S x1 = some r) : v_M l G yX10_about cX10_about 2 (some .int) 1 0 0 [.ref (v_B G + 291), .int x1] (lay G S) (QI r (lay G S)) := by
  refine v_entry (by decide) (Nat.le_of_ble_eq_true rfl) ?_
  unfold f_X10_about at hh
  show V l G yX10_about cX10_about 2 (some .int) (v_rm 1 0 0) (QI r (lay G S)) 0 0 0 [(0, .ref (v_B G + 291)), (1, .int x1)] [] (lay G S)
  refine v_iload_n 1 dX10_about_0 rfl rfl ?_
  refine v_iconst dX10_about_1 (by decide : _ = (0 : Int32)) ?_
  refine v_iconst dX10_about_2 (by decide : _ = (5 : Int32)) ?_
  obtain ⟨q1, eq1, hh⟩ := bnd_some hh
  refine v_callSi (t_X10_isIn eq1) dX10_about_3 y_X10_isIn ml_X10_63 rfl rfl (Nat.le_of_ble_eq_true rfl) ⟨(Nat.le_of_ble_eq_true rfl), (Nat.le_of_ble_eq_true rfl)⟩ ⟨Nat.zero_le _, Nat.zero_le _⟩ ?_
  refine v_if_eq (tgt := 18) dX10_about_6 (by decide) (fun c => ?_) (fun c => ?_)
  · replace hh := (if_pos c).symm.trans hh
    refine v_iload_n 1 dX10_about_18 rfl rfl ?_
    refine v_bipush dX10_about_19 (by decide : _ = (6 : Int32)) ?_
    refine v_icmp_ne (tgt := 31) dX10_about_21 (by decide) (fun c => ?_) (fun c => ?_)
    · replace hh := (if_neg c).symm.trans hh
      refine v_bipush dX10_about_31 (by decide : _ = (-2 : Int32)) ?_
      obtain rfl := Option.some.inj hh
      exact v_iret dX10_about_33 rfl (Nat.zero_le _) (Nat.zero_le _) ⟨rfl, rfl⟩
    · replace hh := (if_pos c).symm.trans hh
      refine v_aload_n 0 dX10_about_24 rfl rfl ?_
      refine r_Model_taped dX10_about_25 fl_X10_71 ?_
      refine v_goto (tgt := 33) dX10_about_28 (by decide) ?_
      obtain rfl := Option.some.inj hh
      exact v_iret dX10_about_33 rfl (Nat.zero_le _) (Nat.zero_le _) ⟨rfl, rfl⟩
  · replace hh := (if_neg c).symm.trans hh
    refine v_aload_n 0 dX10_about_9 rfl rfl ?_
    refine r_Model_a dX10_about_10 fl_X10_7 ?_
    refine v_iload_n 1 dX10_about_13 rfl rfl ?_
    obtain ⟨g2, hh⟩ := chk_some hh
    replace g2 := inb_in g2
    refine ld_ma dX10_about_14 g2 ?_
    refine v_goto (tgt := 33) dX10_about_15 (by decide) ?_
    obtain rfl := Option.some.inj hh
    exact v_iret dX10_about_33 rfl (Nat.zero_le _) (Nat.zero_le _) ⟨rfl, rfl⟩
