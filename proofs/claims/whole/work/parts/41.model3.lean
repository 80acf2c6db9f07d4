def f_X10_pass_b69 (N : Nat)  (S : St) : Option (St) :=
  lt (sI S 1000 0 6 ((gI S 1000 0 6) + (1 : Int32))) fun S4 =>
  some S4
set_option maxRecDepth 100000 in
set_option maxHeartbeats 4000000 in
theorem tb_X10_pass_69 {l : Launch} {G : v_G} {N : Nat}    {r : St}   : ∀  (S : St),  f_X10_pass_b69 N  S = some r → V l G yX10_pass cX10_pass 4 (none) (v_rm 7 0 0) (QV (lay G r)) 0 0 69 [(0, .ref (v_B G + 291))] [] (lay G S) := by
  intro  S  hh
  unfold f_X10_pass_b69 at hh
  refine v_aload_n 0 dX10_pass_69 rfl rfl ?_
  refine r_Model_a dX10_pass_70 fl_X10_7 ?_
  refine v_bipush dX10_pass_73 (by decide : _ = (6 : Int32)) ?_
  refine v_dup2 dX10_pass_75 rfl rfl ?_
  refine ld_ma dX10_pass_76 (inb_in (by decide)) ?_
  refine v_iconst dX10_pass_77 (by decide : _ = (1 : Int32)) ?_
  refine v_iadd dX10_pass_78 ?_
  refine st_ma dX10_pass_79 (inb_in (by decide)) ?_
  replace hh := lt_of hh
  obtain rfl := Option.some.inj hh
  exact v_vret dX10_pass_80 rfl (Nat.zero_le _) (Nat.zero_le _) ⟨rfl, rfl⟩
def f_X10_pass_b45 (N : Nat) (x1 : Int32) (x2 : Int32) (s0 : Int32) (S : St) : Option (St) :=
  chk (inb ((11 : Int32) + x2) 3015) (
  if (gI S 1000 0 ((11 : Int32) + x2).toNatClampNeg) ≤ (0 : Int32) then
  (f_X10_pass_b69 N S)
  else
  (bnd (f_X10_strokeNow N S x1 x2 s0) fun q11 =>
 if (0 : Int32) ≤ q11.1 then
  (f_X10_pass_b69 N q11.2)
  else
  (some q11.2)))
set_option maxRecDepth 100000 in
set_option maxHeartbeats 4000000 in
theorem tb_X10_pass_45 {l : Launch} {G : v_G} {N : Nat}    {r : St}   : ∀ (x1 : Int32) (x2 : Int32) (s0 : Int32) (S : St),  f_X10_pass_b45 N x1 x2 s0 S = some r → V l G yX10_pass cX10_pass 4 (none) (v_rm 7 0 0) (QV (lay G r)) 0 0 45 [(0, .ref (v_B G + 291)), (1, .int x1), (2, .int x2)] [.int s0] (lay G S) := by
  intro x1 x2 s0 S  hh
  unfold f_X10_pass_b45 at hh
  refine v_istore_n dX10_pass_45 rfl (by decide) rfl ?_
  refine v_aload_n 1 dX10_pass_46 rfl rfl ?_
  refine r_Model_a dX10_pass_47 fl_X10_7 ?_
  refine v_bipush dX10_pass_50 (by decide : _ = (11 : Int32)) ?_
  refine v_iload_n 3 dX10_pass_52 rfl rfl ?_
  refine v_iadd dX10_pass_53 ?_
  obtain ⟨g10, hh⟩ := chk_some hh
  replace g10 := inb_in g10
  refine ld_ma dX10_pass_54 g10 ?_
  refine v_if_le (tgt := 69) dX10_pass_55 (by decide) (fun c => ?_) (fun c => ?_)
  · replace hh := (if_pos c).symm.trans hh
    exact v_sub [1] rfl (tb_X10_pass_69 _ hh)
  · replace hh := (if_neg c).symm.trans hh
    refine v_aload_n 1 dX10_pass_58 rfl rfl ?_
    refine v_iload_n 2 dX10_pass_59 rfl rfl ?_
    refine v_iload_n 3 dX10_pass_60 rfl rfl ?_
    refine v_iload_n 0 dX10_pass_61 rfl rfl ?_
    obtain ⟨q11, eq11, hh⟩ := bnd_some hh
    refine v_callVi (t_X10_strokeNow eq11) dX10_pass_62 y_X10_strokeNow ml_X10_307 (ci := 9) rfl rfl (e_Model) rfl rfl (Nat.le_of_ble_eq_true rfl) ⟨(Nat.le_of_ble_eq_true rfl), (Nat.le_of_ble_eq_true rfl)⟩ ⟨Nat.zero_le _, Nat.zero_le _⟩ ?_
    refine v_if_ge (tgt := 69) dX10_pass_65 (by decide) (fun c => ?_) (fun c => ?_)
    · replace hh := (if_pos c).symm.trans hh
      exact v_sub [1] rfl (tb_X10_pass_69 _ hh)
    · replace hh := (if_neg c).symm.trans hh
      obtain rfl := Option.some.inj hh
      exact v_vret dX10_pass_68 rfl (Nat.zero_le _) (Nat.zero_le _) ⟨rfl, rfl⟩
def f_X10_pass (N : Nat) (S : St)  : Option (St) :=
  if (gI S 1000 0 0) ≤ (0 : Int32) then
  (f_X10_pass_b69 N S)
  else
  (chk (nz (gI S 1000 0 0)) (
  lt ((gI S 1000 0 6) - (gI S 1000 0 6) / (gI S 1000 0 0) * (gI S 1000 0 0)) fun v7 =>
  bnd (f_X10_drawnBy S (12 : Int32)) fun q8 =>
 bnd (f_X10_drawnBy q8.2 (2 : Int32)) fun q9 =>
 if q9.1 = (1 : Int32) then
  (f_X10_pass_b45 N v7 q8.1 (1 : Int32) q9.2)
  else
  (f_X10_pass_b45 N v7 q8.1 (0 : Int32) q9.2)))
set_option maxRecDepth 100000 in
set_option maxHeartbeats 4000000 in
theorem t_X10_pass {l : Launch} {G : v_G} {N : Nat} {S : St}    {r : St} (hh : f_X10_pass N S  = some r) : v_M l G yX10_pass cX10_pass 4 (none) 7 0 0 [.ref (v_B G + 291)] (lay G S) (QV (lay G r)) := by
  refine v_entry (by decide) (Nat.le_of_ble_eq_true rfl) ?_
  unfold f_X10_pass at hh
  show V l G yX10_pass cX10_pass 4 (none) (v_rm 7 0 0) (QV (lay G r)) 0 0 0 [(0, .ref (v_B G + 291))] [] (lay G S)
  refine v_aload_n 0 dX10_pass_0 rfl rfl ?_
  refine r_Model_a dX10_pass_1 fl_X10_7 ?_
  refine v_iconst dX10_pass_4 (by decide : _ = (0 : Int32)) ?_
  refine ld_ma dX10_pass_5 (inb_in (by decide)) ?_
  refine v_if_le (tgt := 69) dX10_pass_6 (by decide) (fun c => ?_) (fun c => ?_)
  · replace hh := (if_pos c).symm.trans hh
    exact v_sub [0] rfl (tb_X10_pass_69 _ hh)
  · replace hh := (if_neg c).symm.trans hh
    refine v_aload_n 0 dX10_pass_9 rfl rfl ?_
    refine r_Model_a dX10_pass_10 fl_X10_7 ?_
    refine v_bipush dX10_pass_13 (by decide : _ = (6 : Int32)) ?_
    refine ld_ma dX10_pass_15 (inb_in (by decide)) ?_
    refine v_aload_n 0 dX10_pass_16 rfl rfl ?_
    refine r_Model_a dX10_pass_17 fl_X10_7 ?_
    refine v_iconst dX10_pass_20 (by decide : _ = (0 : Int32)) ?_
    refine ld_ma dX10_pass_21 (inb_in (by decide)) ?_
    obtain ⟨g, hh⟩ := chk_some hh
    refine v_irem dX10_pass_22 (nz_ne g) ?_
    refine v_istore_n dX10_pass_23 rfl (by decide) rfl ?_
    replace hh := lt_of hh
    refine v_aload_n 1 dX10_pass_24 rfl rfl ?_
    refine v_bipush dX10_pass_25 (by decide : _ = (12 : Int32)) ?_
    obtain ⟨q8, eq8, hh⟩ := bnd_some hh
    refine v_callVi (t_X10_drawnBy eq8) dX10_pass_27 y_X10_drawnBy ml_X10_304 (ci := 9) rfl rfl (e_Model) rfl rfl (Nat.le_of_ble_eq_true rfl) ⟨(Nat.le_of_ble_eq_true rfl), (Nat.le_of_ble_eq_true rfl)⟩ ⟨Nat.zero_le _, Nat.zero_le _⟩ ?_
    refine v_istore_n dX10_pass_30 rfl (by decide) rfl ?_
    refine v_aload_n 2 dX10_pass_31 rfl rfl ?_
    refine v_iconst dX10_pass_32 (by decide : _ = (2 : Int32)) ?_
    obtain ⟨q9, eq9, hh⟩ := bnd_some hh
    refine v_callVi (t_X10_drawnBy eq9) dX10_pass_33 y_X10_drawnBy ml_X10_304 (ci := 9) rfl rfl (e_Model) rfl rfl (Nat.le_of_ble_eq_true rfl) ⟨(Nat.le_of_ble_eq_true rfl), (Nat.le_of_ble_eq_true rfl)⟩ ⟨Nat.zero_le _, Nat.zero_le _⟩ ?_
    refine v_iconst dX10_pass_36 (by decide : _ = (1 : Int32)) ?_
    refine v_icmp_ne (tgt := 44) dX10_pass_37 (by decide) (fun c => ?_) (fun c => ?_)
    · replace hh := (if_neg c).symm.trans hh
      refine v_iconst dX10_pass_44 (by decide : _ = (0 : Int32)) ?_
      exact v_sub [2, 1, 0] rfl (tb_X10_pass_45 _ _ _ _ hh)
    · replace hh := (if_pos c).symm.trans hh
      refine v_iconst dX10_pass_40 (by decide : _ = (1 : Int32)) ?_
      refine v_goto (tgt := 45) dX10_pass_41 (by decide) ?_
      exact v_sub [2, 1, 0] rfl (tb_X10_pass_45 _ _ _ _ hh)
def f_X10_keep_b115 (N : Nat) : Nat → Int32 → Int32 → St → Option (St)
  | 0, _, _, _ => none
  | n + 1, x1, x2, S =>
  if (60 : Int32) ≤ x2 then
  (lt (sI S 1000 0 4 ((gI S 1000 0 4) + (1 : Int32))) fun S9 =>
  some S9)
  else
  (chk (inb ((2955 : Int32) + x2) 3015) (
  chk (inb ((x1 + (36 : Int32)) + x2) 3015) (
  lt (sI S 1000 0 (((x1 + (36 : Int32)) + x2).toNatClampNeg) (gI S 1000 0 ((2955 : Int32) + x2).toNatClampNeg)) fun S12 =>
  lt (x2 + (1 : Int32)) fun v13 =>
  f_X10_keep_b115 N n x1 v13 S12)))
set_option maxRecDepth 100000 in
set_option maxHeartbeats 4000000 in
theorem tb_X10_keep_115 {l : Launch} {G : v_G} {N : Nat}    {r : St}   : ∀ (n : Nat) (x1 : Int32) (x2 : Int32) (S : St),  f_X10_keep_b115 N n x1 x2 S = some r → V l G yX10_keep cX10_keep 3 (none) (v_rm 0 0 0) (QV (lay G r)) 0 0 115 [(0, .ref (v_B G + 291)), (1, .int x1), (2, .int x2)] [] (lay G S) := by
  intro n
  induction n with
  | zero =>
    intro x1 x2 S  hh
    rw [f_X10_keep_b115] at hh
    cases hh
  | succ n ih =>
    intro x1 x2 S  hh
    rw [f_X10_keep_b115] at hh
    refine v_iload_n 2 dX10_keep_115 rfl rfl ?_
    refine v_bipush dX10_keep_116 (by decide : _ = (60 : Int32)) ?_
    refine v_icmp_ge (tgt := 148) dX10_keep_118 (by decide) (fun c => ?_) (fun c => ?_)
    · replace hh := (if_pos c).symm.trans hh
      refine v_aload_n 0 dX10_keep_148 rfl rfl ?_
      refine r_Model_a dX10_keep_149 fl_X10_7 ?_
      refine v_iconst dX10_keep_152 (by decide : _ = (4 : Int32)) ?_
      refine v_dup2 dX10_keep_153 rfl rfl ?_
      refine ld_ma dX10_keep_154 (inb_in (by decide)) ?_
      refine v_iconst dX10_keep_155 (by decide : _ = (1 : Int32)) ?_
      refine v_iadd dX10_keep_156 ?_
      refine st_ma dX10_keep_157 (inb_in (by decide)) ?_
      replace hh := lt_of hh
      obtain rfl := Option.some.inj hh
      exact v_vret dX10_keep_158 rfl (Nat.zero_le _) (Nat.zero_le _) ⟨rfl, rfl⟩
    · replace hh := (if_neg c).symm.trans hh
      refine v_aload_n 0 dX10_keep_121 rfl rfl ?_
      refine r_Model_a dX10_keep_122 fl_X10_7 ?_
      refine v_iload_n 1 dX10_keep_125 rfl rfl ?_
      refine v_bipush dX10_keep_126 (by decide : _ = (36 : Int32)) ?_
      refine v_iadd dX10_keep_128 ?_
      refine v_iload_n 2 dX10_keep_129 rfl rfl ?_
      refine v_iadd dX10_keep_130 ?_
      refine v_aload_n 0 dX10_keep_131 rfl rfl ?_
      refine r_Model_a dX10_keep_132 fl_X10_7 ?_
      refine v_sipush dX10_keep_135 (by decide : _ = (2955 : Int32)) ?_
      refine v_iload_n 2 dX10_keep_138 rfl rfl ?_
      refine v_iadd dX10_keep_139 ?_
      obtain ⟨g10, hh⟩ := chk_some hh
      replace g10 := inb_in g10
      refine ld_ma dX10_keep_140 g10 ?_
      obtain ⟨g11, hh⟩ := chk_some hh
      replace g11 := inb_in g11
      refine st_ma dX10_keep_141 g11 ?_
      replace hh := lt_of hh
      refine v_iinc (v := _ + (1 : Int32)) 2 dX10_keep_142 rfl rfl (by decide) rfl ?_
      replace hh := lt_of hh
      refine v_goto (tgt := 115) dX10_keep_145 (by decide) ?_
      exact v_sub [1, 2, 0] rfl (ih _ _ _ hh)
def f_X10_keep_b82 (N : Nat) : Nat → Int32 → Int32 → St → Option (St)
  | 0, _, _, _ => none
  | n + 1, x1, x2, S =>
  if (35 : Int32) ≤ x2 then
  (f_X10_keep_b115 N N x1 (0 : Int32) S)
  else
  (chk (inb ((6 : Int32) + x2) 3015) (
  chk (inb ((x1 + (1 : Int32)) + x2) 3015) (
  lt (sI S 1000 0 (((x1 + (1 : Int32)) + x2).toNatClampNeg) (gI S 1000 0 ((6 : Int32) + x2).toNatClampNeg)) fun S16 =>
  lt (x2 + (1 : Int32)) fun v17 =>
  f_X10_keep_b82 N n x1 v17 S16)))
set_option maxRecDepth 100000 in
set_option maxHeartbeats 4000000 in
theorem tb_X10_keep_82 {l : Launch} {G : v_G} {N : Nat}    {r : St}   : ∀ (n : Nat) (x1 : Int32) (x2 : Int32) (S : St),  f_X10_keep_b82 N n x1 x2 S = some r → V l G yX10_keep cX10_keep 3 (none) (v_rm 0 0 0) (QV (lay G r)) 0 0 82 [(0, .ref (v_B G + 291)), (1, .int x1), (2, .int x2)] [] (lay G S) := by
  intro n
  induction n with
  | zero =>
    intro x1 x2 S  hh
    rw [f_X10_keep_b82] at hh
    cases hh
  | succ n ih =>
    intro x1 x2 S  hh
    rw [f_X10_keep_b82] at hh
    refine v_iload_n 2 dX10_keep_82 rfl rfl ?_
    refine v_bipush dX10_keep_83 (by decide : _ = (35 : Int32)) ?_
    refine v_icmp_ge (tgt := 113) dX10_keep_85 (by decide) (fun c => ?_) (fun c => ?_)
    · replace hh := (if_pos c).symm.trans hh
      refine v_iconst dX10_keep_113 (by decide : _ = (0 : Int32)) ?_
      refine v_istore_n dX10_keep_114 rfl (by decide) rfl ?_
      exact v_sub [1, 2, 0] rfl (tb_X10_keep_115 N _ _ _ hh)
    · replace hh := (if_neg c).symm.trans hh
      refine v_aload_n 0 dX10_keep_88 rfl rfl ?_
      refine r_Model_a dX10_keep_89 fl_X10_7 ?_
      refine v_iload_n 1 dX10_keep_92 rfl rfl ?_
      refine v_iconst dX10_keep_93 (by decide : _ = (1 : Int32)) ?_
      refine v_iadd dX10_keep_94 ?_
      refine v_iload_n 2 dX10_keep_95 rfl rfl ?_
      refine v_iadd dX10_keep_96 ?_
      refine v_aload_n 0 dX10_keep_97 rfl rfl ?_
      refine r_Model_a dX10_keep_98 fl_X10_7 ?_
      refine v_bipush dX10_keep_101 (by decide : _ = (6 : Int32)) ?_
      refine v_iload_n 2 dX10_keep_103 rfl rfl ?_
      refine v_iadd dX10_keep_104 ?_
      obtain ⟨g14, hh⟩ := chk_some hh
      replace g14 := inb_in g14
      refine ld_ma dX10_keep_105 g14 ?_
      obtain ⟨g15, hh⟩ := chk_some hh
      replace g15 := inb_in g15
      refine st_ma dX10_keep_106 g15 ?_
      replace hh := lt_of hh
      refine v_iinc (v := _ + (1 : Int32)) 2 dX10_keep_107 rfl rfl (by decide) rfl ?_
      replace hh := lt_of hh
      refine v_goto (tgt := 82) dX10_keep_110 (by decide) ?_
      exact v_sub [1, 2, 0] rfl (ih _ _ _ hh)
def f_X10_keep_b55 (N : Nat)  (S : St) : Option (St) :=
  lt ((75 : Int32) + ((96 : Int32) * (gI S 1000 0 4))) fun v3 =>
  chk (inb v3 3015) (
  lt (sI S 1000 0 v3.toNatClampNeg (gI S 1000 0 1)) fun S6 =>
  f_X10_keep_b82 N N v3 (0 : Int32) S6)
set_option maxRecDepth 100000 in
set_option maxHeartbeats 4000000 in
theorem tb_X10_keep_55 {l : Launch} {G : v_G} {N : Nat}    {r : St}   : ∀  (S : St),  f_X10_keep_b55 N  S = some r → V l G yX10_keep cX10_keep 3 (none) (v_rm 0 0 0) (QV (lay G r)) 0 0 55 [(0, .ref (v_B G + 291))] [] (lay G S) := by
  intro  S  hh
  unfold f_X10_keep_b55 at hh
  refine v_bipush dX10_keep_55 (by decide : _ = (75 : Int32)) ?_
  refine v_bipush dX10_keep_57 (by decide : _ = (96 : Int32)) ?_
  refine v_aload_n 0 dX10_keep_59 rfl rfl ?_
  refine r_Model_a dX10_keep_60 fl_X10_7 ?_
  refine v_iconst dX10_keep_63 (by decide : _ = (4 : Int32)) ?_
  refine ld_ma dX10_keep_64 (inb_in (by decide)) ?_
  refine v_imul dX10_keep_65 ?_
  refine v_iadd dX10_keep_66 ?_
  refine v_istore_n dX10_keep_67 rfl (by decide) rfl ?_
  replace hh := lt_of hh
  refine v_aload_n 1 dX10_keep_68 rfl rfl ?_
  refine r_Model_a dX10_keep_69 fl_X10_7 ?_
  refine v_iload_n 0 dX10_keep_72 rfl rfl ?_
  refine v_aload_n 1 dX10_keep_73 rfl rfl ?_
  refine r_Model_a dX10_keep_74 fl_X10_7 ?_
  refine v_iconst dX10_keep_77 (by decide : _ = (1 : Int32)) ?_
  refine ld_ma dX10_keep_78 (inb_in (by decide)) ?_
  obtain ⟨g5, hh⟩ := chk_some hh
  replace g5 := inb_in g5
  refine st_ma dX10_keep_79 g5 ?_
  replace hh := lt_of hh
  refine v_iconst dX10_keep_80 (by decide : _ = (0 : Int32)) ?_
  refine v_istore_n dX10_keep_81 rfl (by decide) rfl ?_
  exact v_sub [2, 1, 0] rfl (tb_X10_keep_82 N _ _ _ hh)
def f_X10_keep_b13 (N : Nat) : Nat → Int32 → St → Option (St)
  | 0, _, _ => none
  | n + 1, x1, S =>
  if (2784 : Int32) ≤ x1 then
  (lt (sI S 1000 0 4 ((gI S 1000 0 4) - (1 : Int32))) fun S20 =>
  f_X10_keep_b55 N S20)
  else
  (chk (inb ((171 : Int32) + x1) 3015) (
  chk (inb ((75 : Int32) + x1) 3015) (
  lt (sI S 1000 0 (((75 : Int32) + x1).toNatClampNeg) (gI S 1000 0 ((171 : Int32) + x1).toNatClampNeg)) fun S23 =>
  lt (x1 + (1 : Int32)) fun v24 =>
  f_X10_keep_b13 N n v24 S23)))
set_option maxRecDepth 100000 in
set_option maxHeartbeats 4000000 in
theorem tb_X10_keep_13 {l : Launch} {G : v_G} {N : Nat}    {r : St}   : ∀ (n : Nat) (x1 : Int32) (S : St),  f_X10_keep_b13 N n x1 S = some r → V l G yX10_keep cX10_keep 3 (none) (v_rm 0 0 0) (QV (lay G r)) 0 0 13 [(0, .ref (v_B G + 291)), (1, .int x1)] [] (lay G S) := by
  intro n
  induction n with
  | zero =>
    intro x1 S  hh
    rw [f_X10_keep_b13] at hh
    cases hh
  | succ n ih =>
    intro x1 S  hh
    rw [f_X10_keep_b13] at hh
    refine v_iload_n 1 dX10_keep_13 rfl rfl ?_
    refine v_sipush dX10_keep_14 (by decide : _ = (2784 : Int32)) ?_
    refine v_icmp_ge (tgt := 45) dX10_keep_17 (by decide) (fun c => ?_) (fun c => ?_)
    · replace hh := (if_pos c).symm.trans hh
      refine v_aload_n 0 dX10_keep_45 rfl rfl ?_
      refine r_Model_a dX10_keep_46 fl_X10_7 ?_
      refine v_iconst dX10_keep_49 (by decide : _ = (4 : Int32)) ?_
      refine v_dup2 dX10_keep_50 rfl rfl ?_
      refine ld_ma dX10_keep_51 (inb_in (by decide)) ?_
      refine v_iconst dX10_keep_52 (by decide : _ = (1 : Int32)) ?_
      refine v_isub dX10_keep_53 ?_
      refine st_ma dX10_keep_54 (inb_in (by decide)) ?_
      replace hh := lt_of hh
      exact v_sub [0] rfl (tb_X10_keep_55 _ hh)
    · replace hh := (if_neg c).symm.trans hh
      refine v_aload_n 0 dX10_keep_20 rfl rfl ?_
      refine r_Model_a dX10_keep_21 fl_X10_7 ?_
      refine v_bipush dX10_keep_24 (by decide : _ = (75 : Int32)) ?_
      refine v_iload_n 1 dX10_keep_26 rfl rfl ?_
      refine v_iadd dX10_keep_27 ?_
      refine v_aload_n 0 dX10_keep_28 rfl rfl ?_
      refine r_Model_a dX10_keep_29 fl_X10_7 ?_
      refine v_sipush dX10_keep_32 (by decide : _ = (171 : Int32)) ?_
      refine v_iload_n 1 dX10_keep_35 rfl rfl ?_
      refine v_iadd dX10_keep_36 ?_
      obtain ⟨g21, hh⟩ := chk_some hh
      replace g21 := inb_in g21
      refine ld_ma dX10_keep_37 g21 ?_
      obtain ⟨g22, hh⟩ := chk_some hh
      replace g22 := inb_in g22
      refine st_ma dX10_keep_38 g22 ?_
      replace hh := lt_of hh
      refine v_iinc (v := _ + (1 : Int32)) 1 dX10_keep_39 rfl rfl (by decide) rfl ?_
      replace hh := lt_of hh
      refine v_goto (tgt := 13) dX10_keep_42 (by decide) ?_
      exact v_sub [1, 0] rfl (ih _ _ hh)
def f_X10_keep (N : Nat) (S : St)  : Option (St) :=
  if (gI S 1000 0 4) = (30 : Int32) then
  (f_X10_keep_b13 N N (0 : Int32) S)
  else
  (f_X10_keep_b55 N S)
set_option maxRecDepth 100000 in
set_option maxHeartbeats 4000000 in
theorem t_X10_keep {l : Launch} {G : v_G} {N : Nat} {S : St}    {r : St} (hh : f_X10_keep N S  = some r) : v_M l G yX10_keep cX10_keep 3 (none) 0 0 0 [.ref (v_B G + 291)] (lay G S) (QV (lay G r)) := by
  refine v_entry (by decide) (Nat.le_of_ble_eq_true rfl) ?_
  unfold f_X10_keep at hh
  show V l G yX10_keep cX10_keep 3 (none) (v_rm 0 0 0) (QV (lay G r)) 0 0 0 [(0, .ref (v_B G + 291))] [] (lay G S)
  refine v_aload_n 0 dX10_keep_0 rfl rfl ?_
  refine r_Model_a dX10_keep_1 fl_X10_7 ?_
  refine v_iconst dX10_keep_4 (by decide : _ = (4 : Int32)) ?_
  refine ld_ma dX10_keep_5 (inb_in (by decide)) ?_
  refine v_bipush dX10_keep_6 (by decide : _ = (30 : Int32)) ?_
  refine v_icmp_ne (tgt := 55) dX10_keep_8 (by decide) (fun c => ?_) (fun c => ?_)
  · replace hh := (if_neg c).symm.trans hh
    exact v_sub [0] rfl (tb_X10_keep_55 _ hh)
  · replace hh := (if_pos c).symm.trans hh
    refine v_iconst dX10_keep_11 (by decide : _ = (0 : Int32)) ?_
    refine v_istore_n dX10_keep_12 rfl (by decide) rfl ?_
    exact v_sub [1, 0] rfl (tb_X10_keep_13 N _ _ hh)
def f_X10_undo_b110 (N : Nat) : Nat → Int32 → Int32 → St → Option (Int32 × St)
  | 0, _, _, _ => none
  | n + 1, x1, x2, S =>
  if (60 : Int32) ≤ x2 then
  (some (gI S 1000 0 4, S))
  else
  (chk (inb ((x1 + (36 : Int32)) + x2) 3015) (
  chk (inb ((2955 : Int32) + x2) 3015) (
  lt (sI S 1000 0 (((2955 : Int32) + x2).toNatClampNeg) (gI S 1000 0 ((x1 + (36 : Int32)) + x2).toNatClampNeg)) fun S13 =>
  lt (x2 + (1 : Int32)) fun v14 =>
  f_X10_undo_b110 N n x1 v14 S13)))
set_option maxRecDepth 100000 in
set_option maxHeartbeats 4000000 in
theorem tb_X10_undo_110 {l : Launch} {G : v_G} {N : Nat}    {r : Int32 × St}   : ∀ (n : Nat) (x1 : Int32) (x2 : Int32) (S : St),  f_X10_undo_b110 N n x1 x2 S = some r → V l G yX10_undo cX10_undo 3 (some .int) (v_rm 0 0 0) (QI r.1 (lay G r.2)) 0 0 110 [(0, .ref (v_B G + 291)), (1, .int x1), (2, .int x2)] [] (lay G S) := by
  intro n
  induction n with
  | zero =>
    intro x1 x2 S  hh
    rw [f_X10_undo_b110] at hh
    cases hh
  | succ n ih =>
    intro x1 x2 S  hh
    rw [f_X10_undo_b110] at hh
    refine v_iload_n 2 dX10_undo_110 rfl rfl ?_
    refine v_bipush dX10_undo_111 (by decide : _ = (60 : Int32)) ?_
    refine v_icmp_ge (tgt := 143) dX10_undo_113 (by decide) (fun c => ?_) (fun c => ?_)
    · replace hh := (if_pos c).symm.trans hh
      refine v_aload_n 0 dX10_undo_143 rfl rfl ?_
      refine r_Model_a dX10_undo_144 fl_X10_7 ?_
      refine v_iconst dX10_undo_147 (by decide : _ = (4 : Int32)) ?_
      refine ld_ma dX10_undo_148 (inb_in (by decide)) ?_
      obtain rfl := Option.some.inj hh
      exact v_iret dX10_undo_149 rfl (Nat.zero_le _) (Nat.zero_le _) ⟨rfl, rfl⟩
    · replace hh := (if_neg c).symm.trans hh
      refine v_aload_n 0 dX10_undo_116 rfl rfl ?_
      refine r_Model_a dX10_undo_117 fl_X10_7 ?_
      refine v_sipush dX10_undo_120 (by decide : _ = (2955 : Int32)) ?_
      refine v_iload_n 2 dX10_undo_123 rfl rfl ?_
      refine v_iadd dX10_undo_124 ?_
      refine v_aload_n 0 dX10_undo_125 rfl rfl ?_
      refine r_Model_a dX10_undo_126 fl_X10_7 ?_
      refine v_iload_n 1 dX10_undo_129 rfl rfl ?_
      refine v_bipush dX10_undo_130 (by decide : _ = (36 : Int32)) ?_
      refine v_iadd dX10_undo_132 ?_
      refine v_iload_n 2 dX10_undo_133 rfl rfl ?_
      refine v_iadd dX10_undo_134 ?_
      obtain ⟨g11, hh⟩ := chk_some hh
      replace g11 := inb_in g11
      refine ld_ma dX10_undo_135 g11 ?_
      obtain ⟨g12, hh⟩ := chk_some hh
      replace g12 := inb_in g12
      refine st_ma dX10_undo_136 g12 ?_
      replace hh := lt_of hh
      refine v_iinc (v := _ + (1 : Int32)) 2 dX10_undo_137 rfl rfl (by decide) rfl ?_
      replace hh := lt_of hh
      refine v_goto (tgt := 110) dX10_undo_140 (by decide) ?_
      exact v_sub [1, 2, 0] rfl (ih _ _ _ hh)
def f_X10_undo_b74 (N : Nat) : Nat → Int32 → Int32 → St → Option (Int32 × St)
  | 0, _, _, _ => none
  | n + 1, x1, x2, S =>
  if (gI S 1000 0 1) ≤ x2 then
  (f_X10_undo_b110 N N x1 (0 : Int32) S)
  else
  (chk (inb ((41 : Int32) + x2) 3015) (
  chk (inb ((35 : Int32) + x2) 3015) (
  lt (sI S 1000 0 (((35 : Int32) + x2).toNatClampNeg) (gI S 1000 0 ((41 : Int32) + x2).toNatClampNeg)) fun S17 =>
  lt (x2 + (1 : Int32)) fun v18 =>
  f_X10_undo_b74 N n x1 v18 S17)))
set_option maxRecDepth 100000 in
set_option maxHeartbeats 4000000 in
theorem tb_X10_undo_74 {l : Launch} {G : v_G} {N : Nat}    {r : Int32 × St}   : ∀ (n : Nat) (x1 : Int32) (x2 : Int32) (S : St),  f_X10_undo_b74 N n x1 x2 S = some r → V l G yX10_undo cX10_undo 3 (some .int) (v_rm 0 0 0) (QI r.1 (lay G r.2)) 0 0 74 [(0, .ref (v_B G + 291)), (1, .int x1), (2, .int x2)] [] (lay G S) := by
  intro n
  induction n with
  | zero =>
    intro x1 x2 S  hh
    rw [f_X10_undo_b74] at hh
    cases hh
  | succ n ih =>
    intro x1 x2 S  hh
    rw [f_X10_undo_b74] at hh
    refine v_iload_n 2 dX10_undo_74 rfl rfl ?_
    refine v_aload_n 0 dX10_undo_75 rfl rfl ?_
    refine r_Model_a dX10_undo_76 fl_X10_7 ?_
    refine v_iconst dX10_undo_79 (by decide : _ = (1 : Int32)) ?_
    refine ld_ma dX10_undo_80 (inb_in (by decide)) ?_
    refine v_icmp_ge (tgt := 108) dX10_undo_81 (by decide) (fun c => ?_) (fun c => ?_)
    · replace hh := (if_pos c).symm.trans hh
      refine v_iconst dX10_undo_108 (by decide : _ = (0 : Int32)) ?_
      refine v_istore_n dX10_undo_109 rfl (by decide) rfl ?_
      exact v_sub [1, 2, 0] rfl (tb_X10_undo_110 N _ _ _ hh)
    · replace hh := (if_neg c).symm.trans hh
      refine v_aload_n 0 dX10_undo_84 rfl rfl ?_
      refine r_Model_a dX10_undo_85 fl_X10_7 ?_
      refine v_bipush dX10_undo_88 (by decide : _ = (35 : Int32)) ?_
      refine v_iload_n 2 dX10_undo_90 rfl rfl ?_
      refine v_iadd dX10_undo_91 ?_
      refine v_aload_n 0 dX10_undo_92 rfl rfl ?_
      refine r_Model_a dX10_undo_93 fl_X10_7 ?_
      refine v_bipush dX10_undo_96 (by decide : _ = (41 : Int32)) ?_
      refine v_iload_n 2 dX10_undo_98 rfl rfl ?_
      refine v_iadd dX10_undo_99 ?_
      obtain ⟨g15, hh⟩ := chk_some hh
      replace g15 := inb_in g15
      refine ld_ma dX10_undo_100 g15 ?_
      obtain ⟨g16, hh⟩ := chk_some hh
      replace g16 := inb_in g16
      refine st_ma dX10_undo_101 g16 ?_
      replace hh := lt_of hh
      refine v_iinc (v := _ + (1 : Int32)) 2 dX10_undo_102 rfl rfl (by decide) rfl ?_
      replace hh := lt_of hh
      refine v_goto (tgt := 74) dX10_undo_105 (by decide) ?_
      exact v_sub [1, 2, 0] rfl (ih _ _ _ hh)
def f_X10_undo_b36 (N : Nat) : Nat → Int32 → Int32 → St → Option (Int32 × St)
  | 0, _, _, _ => none
  | n + 1, x1, x2, S =>
  if (35 : Int32) ≤ x2 then
  (chk (inb x1 3015) (
  lt (gI S 1000 0 x1.toNatClampNeg) fun v8 =>
  f_X10_undo_b74 N N x1 v8 S))
  else
  (chk (inb ((x1 + (1 : Int32)) + x2) 3015) (
  chk (inb ((6 : Int32) + x2) 3015) (
  lt (sI S 1000 0 (((6 : Int32) + x2).toNatClampNeg) (gI S 1000 0 ((x1 + (1 : Int32)) + x2).toNatClampNeg)) fun S21 =>
  lt (x2 + (1 : Int32)) fun v22 =>
  f_X10_undo_b36 N n x1 v22 S21)))
set_option maxRecDepth 100000 in
set_option maxHeartbeats 4000000 in
theorem tb_X10_undo_36 {l : Launch} {G : v_G} {N : Nat}    {r : Int32 × St}   : ∀ (n : Nat) (x1 : Int32) (x2 : Int32) (S : St),  f_X10_undo_b36 N n x1 x2 S = some r → V l G yX10_undo cX10_undo 3 (some .int) (v_rm 0 0 0) (QI r.1 (lay G r.2)) 0 0 36 [(0, .ref (v_B G + 291)), (1, .int x1), (2, .int x2)] [] (lay G S) := by
  intro n
  induction n with
  | zero =>
    intro x1 x2 S  hh
    rw [f_X10_undo_b36] at hh
    cases hh
  | succ n ih =>
    intro x1 x2 S  hh
    rw [f_X10_undo_b36] at hh
    refine v_iload_n 2 dX10_undo_36 rfl rfl ?_
    refine v_bipush dX10_undo_37 (by decide : _ = (35 : Int32)) ?_
    refine v_icmp_ge (tgt := 67) dX10_undo_39 (by decide) (fun c => ?_) (fun c => ?_)
    · replace hh := (if_pos c).symm.trans hh
      refine v_aload_n 0 dX10_undo_67 rfl rfl ?_
      refine r_Model_a dX10_undo_68 fl_X10_7 ?_
      refine v_iload_n 1 dX10_undo_71 rfl rfl ?_
      obtain ⟨g7, hh⟩ := chk_some hh
      replace g7 := inb_in g7
      refine ld_ma dX10_undo_72 g7 ?_
      refine v_istore_n dX10_undo_73 rfl (by decide) rfl ?_
      replace hh := lt_of hh
      exact v_sub [1, 2, 0] rfl (tb_X10_undo_74 N _ _ _ hh)
    · replace hh := (if_neg c).symm.trans hh
      refine v_aload_n 0 dX10_undo_42 rfl rfl ?_
      refine r_Model_a dX10_undo_43 fl_X10_7 ?_
      refine v_bipush dX10_undo_46 (by decide : _ = (6 : Int32)) ?_
      refine v_iload_n 2 dX10_undo_48 rfl rfl ?_
      refine v_iadd dX10_undo_49 ?_
      refine v_aload_n 0 dX10_undo_50 rfl rfl ?_
      refine r_Model_a dX10_undo_51 fl_X10_7 ?_
      refine v_iload_n 1 dX10_undo_54 rfl rfl ?_
      refine v_iconst dX10_undo_55 (by decide : _ = (1 : Int32)) ?_
      refine v_iadd dX10_undo_56 ?_
      refine v_iload_n 2 dX10_undo_57 rfl rfl ?_
      refine v_iadd dX10_undo_58 ?_
      obtain ⟨g19, hh⟩ := chk_some hh
      replace g19 := inb_in g19
      refine ld_ma dX10_undo_59 g19 ?_
      obtain ⟨g20, hh⟩ := chk_some hh
      replace g20 := inb_in g20
      refine st_ma dX10_undo_60 g20 ?_
      replace hh := lt_of hh
      refine v_iinc (v := _ + (1 : Int32)) 2 dX10_undo_61 rfl rfl (by decide) rfl ?_
      replace hh := lt_of hh
      refine v_goto (tgt := 36) dX10_undo_64 (by decide) ?_
      exact v_sub [1, 2, 0] rfl (ih _ _ _ hh)
def f_X10_undo (N : Nat) (S : St)  : Option (Int32 × St) :=
  if (gI S 1000 0 4) = (0 : Int32) then
  (some ((-1 : Int32), S))
  else
  (lt (sI S 1000 0 4 ((gI S 1000 0 4) - (1 : Int32))) fun S4 =>
  lt ((75 : Int32) + ((96 : Int32) * (gI S4 1000 0 4))) fun v6 =>
  f_X10_undo_b36 N N v6 (0 : Int32) S4)
set_option maxRecDepth 100000 in
set_option maxHeartbeats 4000000 in
theorem t_X10_undo {l : Launch} {G : v_G} {N : Nat} {S : St}    {r : Int32 × St} (hh : f_X10_undo N S  = some r) : v_M l G yX10_undo cX10_undo 3 (some .int) 0 0 0 [.ref (v_B G + 291)] (lay G S) (QI r.1 (lay G r.2)) := by
  refine v_entry (by decide) (Nat.le_of_ble_eq_true rfl) ?_
  unfold f_X10_undo at hh
  show V l G yX10_undo cX10_undo 3 (some .int) (v_rm 0 0 0) (QI r.1 (lay G r.2)) 0 0 0 [(0, .ref (v_B G + 291))] [] (lay G S)
  refine v_aload_n 0 dX10_undo_0 rfl rfl ?_
  refine r_Model_a dX10_undo_1 fl_X10_7 ?_
  refine v_iconst dX10_undo_4 (by decide : _ = (4 : Int32)) ?_
  refine ld_ma dX10_undo_5 (inb_in (by decide)) ?_
  refine v_if_ne (tgt := 11) dX10_undo_6 (by decide) (fun c => ?_) (fun c => ?_)
  · replace hh := (if_neg c).symm.trans hh
    refine v_aload_n 0 dX10_undo_11 rfl rfl ?_
    refine r_Model_a dX10_undo_12 fl_X10_7 ?_
    refine v_iconst dX10_undo_15 (by decide : _ = (4 : Int32)) ?_
    refine v_dup2 dX10_undo_16 rfl rfl ?_
    refine ld_ma dX10_undo_17 (inb_in (by decide)) ?_
    refine v_iconst dX10_undo_18 (by decide : _ = (1 : Int32)) ?_
    refine v_isub dX10_undo_19 ?_
    refine st_ma dX10_undo_20 (inb_in (by decide)) ?_
    replace hh := lt_of hh
    refine v_bipush dX10_undo_21 (by decide : _ = (75 : Int32)) ?_
    refine v_bipush dX10_undo_23 (by decide : _ = (96 : Int32)) ?_
    refine v_aload_n 0 dX10_undo_25 rfl rfl ?_
    refine r_Model_a dX10_undo_26 fl_X10_7 ?_
    refine v_iconst dX10_undo_29 (by decide : _ = (4 : Int32)) ?_
    refine ld_ma dX10_undo_30 (inb_in (by decide)) ?_
    refine v_imul dX10_undo_31 ?_
    refine v_iadd dX10_undo_32 ?_
    refine v_istore_n dX10_undo_33 rfl (by decide) rfl ?_
    replace hh := lt_of hh
    refine v_iconst dX10_undo_34 (by decide : _ = (0 : Int32)) ?_
    refine v_istore_n dX10_undo_35 rfl (by decide) rfl ?_
    exact v_sub [2, 1, 0] rfl (tb_X10_undo_36 N _ _ _ hh)
  · replace hh := (if_pos c).symm.trans hh
    refine v_iconst dX10_undo_9 (by decide : _ = (-1 : Int32)) ?_
    obtain rfl := Option.some.inj hh
    exact v_iret dX10_undo_10 rfl (Nat.zero_le _) (Nat.zero_le _) ⟨rfl, rfl⟩
def f_X10_canStroke  (S : St) (x1 : Int32) (x2 : Int32) : Option (Int32) :=
  bnd (f_X10_isHand S x1) fun q1 =>
 if q1 = (0 : Int32) then
  (some (0 : Int32))
  else
  (bnd (f_X10_isCell S x2) fun q2 =>
 if q2 = (0 : Int32) then
  (some (0 : Int32))
  else
  (chk (inb ((11 : Int32) + x2) 3015) (
  if (gI S 1000 0 ((11 : Int32) + x2).toNatClampNeg) ≤ (0 : Int32) then
  (some (0 : Int32))
  else
  (some (1 : Int32)))))
set_option maxRecDepth 100000 in
set_option maxHeartbeats 4000000 in
theorem t_X10_canStroke {l : Launch} {G : v_G} {S : St}   {x1 : Int32} {x2 : Int32} {r : Int32} (hh : f_X10_canStroke  S x1 x2 = some r) : v_M l G yX10_canStroke cX10_canStroke 3 (some .boolean) 2 0 0 [.ref (v_B G + 291), .int x1, .int x2] (lay G S) (QI r (lay G S)) := by
  refine v_entry (by decide) (Nat.le_of_ble_eq_true rfl) ?_
  unfold f_X10_canStroke at hh
  show V l G yX10_canStroke cX10_canStroke 3 (some .boolean) (v_rm 2 0 0) (QI r (lay G S)) 0 0 0 [(0, .ref (v_B G + 291)), (1, .int x1), (2, .int x2)] [] (lay G S)
  refine v_aload_n 0 dX10_canStroke_0 rfl rfl ?_
  refine v_iload_n 1 dX10_canStroke_1 rfl rfl ?_
  obtain ⟨q1, eq1, hh⟩ := bnd_some hh
  refine v_callVi (t_X10_isHand eq1) dX10_canStroke_2 y_X10_isHand ml_X10_311 (ci := 9) rfl rfl (e_Model) rfl rfl (Nat.le_of_ble_eq_true rfl) ⟨(Nat.le_of_ble_eq_true rfl), (Nat.le_of_ble_eq_true rfl)⟩ ⟨Nat.zero_le _, Nat.zero_le _⟩ ?_
  refine v_if_eq (tgt := 31) dX10_canStroke_5 (by decide) (fun c => ?_) (fun c => ?_)
  · replace hh := (if_pos c).symm.trans hh
    refine v_iconst dX10_canStroke_31 (by decide : _ = (0 : Int32)) ?_
    obtain rfl := Option.some.inj hh
    exact v_zret dX10_canStroke_32 rfl (zb (by decide)).1 (Nat.zero_le _) (Nat.zero_le _) ⟨rfl, rfl⟩
  · replace hh := (if_neg c).symm.trans hh
    refine v_iload_n 2 dX10_canStroke_8 rfl rfl ?_
    obtain ⟨q2, eq2, hh⟩ := bnd_some hh
    refine v_callSi (t_X10_isCell eq2) dX10_canStroke_9 y_X10_isCell ml_X10_67 rfl rfl (Nat.le_of_ble_eq_true rfl) ⟨(Nat.le_of_ble_eq_true rfl), (Nat.le_of_ble_eq_true rfl)⟩ ⟨Nat.zero_le _, Nat.zero_le _⟩ ?_
    refine v_if_eq (tgt := 31) dX10_canStroke_12 (by decide) (fun c => ?_) (fun c => ?_)
    · replace hh := (if_pos c).symm.trans hh
      refine v_iconst dX10_canStroke_31 (by decide : _ = (0 : Int32)) ?_
      obtain rfl := Option.some.inj hh
      exact v_zret dX10_canStroke_32 rfl (zb (by decide)).1 (Nat.zero_le _) (Nat.zero_le _) ⟨rfl, rfl⟩
    · replace hh := (if_neg c).symm.trans hh
      refine v_aload_n 0 dX10_canStroke_15 rfl rfl ?_
      refine r_Model_a dX10_canStroke_16 fl_X10_7 ?_
      refine v_bipush dX10_canStroke_19 (by decide : _ = (11 : Int32)) ?_
      refine v_iload_n 2 dX10_canStroke_21 rfl rfl ?_
      refine v_iadd dX10_canStroke_22 ?_
      obtain ⟨g3, hh⟩ := chk_some hh
      replace g3 := inb_in g3
      refine ld_ma dX10_canStroke_23 g3 ?_
      refine v_if_le (tgt := 31) dX10_canStroke_24 (by decide) (fun c => ?_) (fun c => ?_)
      · replace hh := (if_pos c).symm.trans hh
        refine v_iconst dX10_canStroke_31 (by decide : _ = (0 : Int32)) ?_
        obtain rfl := Option.some.inj hh
        exact v_zret dX10_canStroke_32 rfl (zb (by decide)).1 (Nat.zero_le _) (Nat.zero_le _) ⟨rfl, rfl⟩
      · replace hh := (if_neg c).symm.trans hh
        refine v_iconst dX10_canStroke_27 (by decide : _ = (1 : Int32)) ?_
        refine v_goto (tgt := 32) dX10_canStroke_28 (by decide) ?_
        obtain rfl := Option.some.inj hh
        exact v_zret dX10_canStroke_32 rfl (zb (by decide)).1 (Nat.zero_le _) (Nat.zero_le _) ⟨rfl, rfl⟩
def f_X10_stroke (N : Nat) (S : St) (x1 : Int32) (x2 : Int32) (x3 : Int32) : Option (Int32 × St) :=
  bnd (f_X10_canStroke S x1 x2) fun q1 =>
 if q1 = (0 : Int32) then
  (some ((-1 : Int32), S))
  else
  (bnd (f_X10_keep N S ) fun q2 =>
 bnd (f_X10_strokeNow N q2 x1 x2 x3) fun q3 =>
 some (q3.1, q3.2))
set_option maxRecDepth 100000 in
set_option maxHeartbeats 4000000 in
theorem t_X10_stroke {l : Launch} {G : v_G} {N : Nat} {S : St}   {x1 : Int32} {x2 : Int32} {x3 : Int32} {r : Int32 × St} (hh : f_X10_stroke N S x1 x2 x3 = some r) : v_M l G yX10_stroke cX10_stroke 4 (some .int) 7 0 0 [.ref (v_B G + 291), .int x1, .int x2, .int x3] (lay G S) (QI r.1 (lay G r.2)) := by
  refine v_entry (by decide) (Nat.le_of_ble_eq_true rfl) ?_
  unfold f_X10_stroke at hh
  show V l G yX10_stroke cX10_stroke 4 (some .int) (v_rm 7 0 0) (QI r.1 (lay G r.2)) 0 0 0 [(0, .ref (v_B G + 291)), (1, .int x1), (2, .int x2), (3, .int x3)] [] (lay G S)
  refine v_aload_n 0 dX10_stroke_0 rfl rfl ?_
  refine v_iload_n 1 dX10_stroke_1 rfl rfl ?_
  refine v_iload_n 2 dX10_stroke_2 rfl rfl ?_
  obtain ⟨q1, eq1, hh⟩ := bnd_some hh
  refine v_callVi (t_X10_canStroke eq1) dX10_stroke_3 y_X10_canStroke ml_X10_314 (ci := 9) rfl rfl (e_Model) rfl rfl (Nat.le_of_ble_eq_true rfl) ⟨(Nat.le_of_ble_eq_true rfl), (Nat.le_of_ble_eq_true rfl)⟩ ⟨Nat.zero_le _, Nat.zero_le _⟩ ?_
  refine v_if_ne (tgt := 11) dX10_stroke_6 (by decide) (fun c => ?_) (fun c => ?_)
  · replace hh := (if_neg c).symm.trans hh
    refine v_aload_n 0 dX10_stroke_11 rfl rfl ?_
    obtain ⟨q2, eq2, hh⟩ := bnd_some hh
    refine v_callVv (t_X10_keep eq2) dX10_stroke_12 y_X10_keep ml_X10_317 (ci := 9) rfl rfl (e_Model) rfl rfl (Nat.le_of_ble_eq_true rfl) ⟨(Nat.le_of_ble_eq_true rfl), (Nat.le_of_ble_eq_true rfl)⟩ ⟨Nat.zero_le _, Nat.zero_le _⟩ ?_
    refine v_aload_n 0 dX10_stroke_15 rfl rfl ?_
    refine v_iload_n 1 dX10_stroke_16 rfl rfl ?_
    refine v_iload_n 2 dX10_stroke_17 rfl rfl ?_
    refine v_iload_n 3 dX10_stroke_18 rfl rfl ?_
    obtain ⟨q3, eq3, hh⟩ := bnd_some hh
    refine v_callVi (t_X10_strokeNow eq3) dX10_stroke_19 y_X10_strokeNow ml_X10_307 (ci := 9) rfl rfl (e_Model) rfl rfl (Nat.le_of_ble_eq_true rfl) ⟨(Nat.le_of_ble_eq_true rfl), (Nat.le_of_ble_eq_true rfl)⟩ ⟨Nat.zero_le _, Nat.zero_le _⟩ ?_
    obtain rfl := Option.some.inj hh
    exact v_iret dX10_stroke_22 rfl (Nat.zero_le _) (Nat.zero_le _) ⟨rfl, rfl⟩
  · replace hh := (if_pos c).symm.trans hh
    refine v_iconst dX10_stroke_9 (by decide : _ = (-1 : Int32)) ?_
    obtain rfl := Option.some.inj hh
    exact v_iret dX10_stroke_10 rfl (Nat.zero_le _) (Nat.zero_le _) ⟨rfl, rfl⟩
def f_X10_trimNow  (S : St)  : Option (St) :=
  lt (sI S 1000 0 8 ((gI S 1000 0 8) + (gI S 1000 0 9))) fun S4 =>
  lt (sI S4 1000 0 9 (0 : Int32)) fun S6 =>
  some S6
set_option maxRecDepth 100000 in
set_option maxHeartbeats 4000000 in
theorem t_X10_trimNow {l : Launch} {G : v_G} {S : St}    {r : St} (hh : f_X10_trimNow  S  = some r) : v_M l G yX10_trimNow cX10_trimNow 1 (none) 0 0 0 [.ref (v_B G + 291)] (lay G S) (QV (lay G r)) := by
  refine v_entry (by decide) (Nat.le_of_ble_eq_true rfl) ?_
  unfold f_X10_trimNow at hh
  show V l G yX10_trimNow cX10_trimNow 1 (none) (v_rm 0 0 0) (QV (lay G r)) 0 0 0 [(0, .ref (v_B G + 291))] [] (lay G S)
  refine v_aload_n 0 dX10_trimNow_0 rfl rfl ?_
  refine r_Model_a dX10_trimNow_1 fl_X10_7 ?_
  refine v_bipush dX10_trimNow_4 (by decide : _ = (8 : Int32)) ?_
  refine v_dup2 dX10_trimNow_6 rfl rfl ?_
  refine ld_ma dX10_trimNow_7 (inb_in (by decide)) ?_
  refine v_aload_n 0 dX10_trimNow_8 rfl rfl ?_
  refine r_Model_a dX10_trimNow_9 fl_X10_7 ?_
  refine v_bipush dX10_trimNow_12 (by decide : _ = (9 : Int32)) ?_
  refine ld_ma dX10_trimNow_14 (inb_in (by decide)) ?_
  refine v_iadd dX10_trimNow_15 ?_
  refine st_ma dX10_trimNow_16 (inb_in (by decide)) ?_
  replace hh := lt_of hh
  refine v_aload_n 0 dX10_trimNow_17 rfl rfl ?_
  refine r_Model_a dX10_trimNow_18 fl_X10_7 ?_
  refine v_bipush dX10_trimNow_21 (by decide : _ = (9 : Int32)) ?_
  refine v_iconst dX10_trimNow_23 (by decide : _ = (0 : Int32)) ?_
  refine st_ma dX10_trimNow_24 (inb_in (by decide)) ?_
  replace hh := lt_of hh
  obtain rfl := Option.some.inj hh
  exact v_vret dX10_trimNow_25 rfl (Nat.zero_le _) (Nat.zero_le _) ⟨rfl, rfl⟩
def f_X10_trim (N : Nat) (S : St)  : Option (Int32 × St) :=
  lt (gI S 1000 0 9) fun v2 =>
  if v2 = (0 : Int32) then
  (some ((-1 : Int32), S))
  else
  (bnd (f_X10_keep N S ) fun q3 =>
 bnd (f_X10_trimNow q3 ) fun q4 =>
 some (v2, q4))
set_option maxRecDepth 100000 in
set_option maxHeartbeats 4000000 in
theorem t_X10_trim {l : Launch} {G : v_G} {N : Nat} {S : St}    {r : Int32 × St} (hh : f_X10_trim N S  = some r) : v_M l G yX10_trim cX10_trim 2 (some .int) 1 0 0 [.ref (v_B G + 291)] (lay G S) (QI r.1 (lay G r.2)) := by
  refine v_entry (by decide) (Nat.le_of_ble_eq_true rfl) ?_
  unfold f_X10_trim at hh
  show V l G yX10_trim cX10_trim 2 (some .int) (v_rm 1 0 0) (QI r.1 (lay G r.2)) 0 0 0 [(0, .ref (v_B G + 291))] [] (lay G S)
  refine v_aload_n 0 dX10_trim_0 rfl rfl ?_
  refine r_Model_a dX10_trim_1 fl_X10_7 ?_
  refine v_bipush dX10_trim_4 (by decide : _ = (9 : Int32)) ?_
  refine ld_ma dX10_trim_6 (inb_in (by decide)) ?_
  refine v_istore_n dX10_trim_7 rfl (by decide) rfl ?_
  replace hh := lt_of hh
  refine v_iload_n 0 dX10_trim_8 rfl rfl ?_
  refine v_if_ne (tgt := 14) dX10_trim_9 (by decide) (fun c => ?_) (fun c => ?_)
  · replace hh := (if_neg c).symm.trans hh
    refine v_aload_n 1 dX10_trim_14 rfl rfl ?_
    obtain ⟨q3, eq3, hh⟩ := bnd_some hh
    refine v_callVv (t_X10_keep eq3) dX10_trim_15 y_X10_keep ml_X10_317 (ci := 9) rfl rfl (e_Model) rfl rfl (Nat.le_of_ble_eq_true rfl) ⟨(Nat.le_of_ble_eq_true rfl), (Nat.le_of_ble_eq_true rfl)⟩ ⟨Nat.zero_le _, Nat.zero_le _⟩ ?_
    refine v_aload_n 1 dX10_trim_18 rfl rfl ?_
    obtain ⟨q4, eq4, hh⟩ := bnd_some hh
    refine v_callVv (t_X10_trimNow eq4) dX10_trim_19 y_X10_trimNow ml_X10_320 (ci := 9) rfl rfl (e_Model) rfl rfl (Nat.le_of_ble_eq_true rfl) ⟨(Nat.le_of_ble_eq_true rfl), (Nat.le_of_ble_eq_true rfl)⟩ ⟨Nat.zero_le _, Nat.zero_le _⟩ ?_
    refine v_iload_n 0 dX10_trim_22 rfl rfl ?_
    obtain rfl := Option.some.inj hh
    exact v_iret dX10_trim_23 rfl (Nat.zero_le _) (Nat.zero_le _) ⟨rfl, rfl⟩
  · replace hh := (if_pos c).symm.trans hh
    refine v_iconst dX10_trim_12 (by decide : _ = (-1 : Int32)) ?_
    obtain rfl := Option.some.inj hh
    exact v_iret dX10_trim_13 rfl (Nat.zero_le _) (Nat.zero_le _) ⟨rfl, rfl⟩
def f_X10_canPatch  (S : St) (x1 : Int32) (x2 : Int32) : Option (Int32) :=
  bnd (f_X10_isCell S x1) fun q1 =>
 if q1 = (0 : Int32) then
  (some (0 : Int32))
  else
  (bnd (f_X10_isIn S x2 (1 : Int32) (99 : Int32)) fun q2 =>
 if q2 = (0 : Int32) then
  (some (0 : Int32))
  else
  (chk (inb ((23 : Int32) + x1) 3015) (
  if (gI S 1000 0 ((23 : Int32) + x1).toNatClampNeg) = (1 : Int32) then
  (if (gI S 1000 0 8) < x2 then
  (some (0 : Int32))
  else
  (some (1 : Int32)))
  else
  (some (0 : Int32)))))
set_option maxRecDepth 100000 in
set_option maxHeartbeats 4000000 in
theorem t_X10_canPatch {l : Launch} {G : v_G} {S : St}   {x1 : Int32} {x2 : Int32} {r : Int32} (hh : f_X10_canPatch  S x1 x2 = some r) : v_M l G yX10_canPatch cX10_canPatch 3 (some .boolean) 2 0 0 [.ref (v_B G + 291), .int x1, .int x2] (lay G S) (QI r (lay G S)) := by
  refine v_entry (by decide) (Nat.le_of_ble_eq_true rfl) ?_
  unfold f_X10_canPatch at hh
  show V l G yX10_canPatch cX10_canPatch 3 (some .boolean) (v_rm 2 0 0) (QI r (lay G S)) 0 0 0 [(0, .ref (v_B G + 291)), (1, .int x1), (2, .int x2)] [] (lay G S)
  refine v_iload_n 1 dX10_canPatch_0 rfl rfl ?_
  obtain ⟨q1, eq1, hh⟩ := bnd_some hh
  refine v_callSi (t_X10_isCell eq1) dX10_canPatch_1 y_X10_isCell ml_X10_67 rfl rfl (Nat.le_of_ble_eq_true rfl) ⟨(Nat.le_of_ble_eq_true rfl), (Nat.le_of_ble_eq_true rfl)⟩ ⟨Nat.zero_le _, Nat.zero_le _⟩ ?_
  refine v_if_eq (tgt := 45) dX10_canPatch_4 (by decide) (fun c => ?_) (fun c => ?_)
  · replace hh := (if_pos c).symm.trans hh
    refine v_iconst dX10_canPatch_45 (by decide : _ = (0 : Int32)) ?_
    obtain rfl := Option.some.inj hh
    exact v_zret dX10_canPatch_46 rfl (zb (by decide)).1 (Nat.zero_le _) (Nat.zero_le _) ⟨rfl, rfl⟩
  · replace hh := (if_neg c).symm.trans hh
    refine v_iload_n 2 dX10_canPatch_7 rfl rfl ?_
    refine v_iconst dX10_canPatch_8 (by decide : _ = (1 : Int32)) ?_
    refine v_bipush dX10_canPatch_9 (by decide : _ = (99 : Int32)) ?_
    obtain ⟨q2, eq2, hh⟩ := bnd_some hh
    refine v_callSi (t_X10_isIn eq2) dX10_canPatch_11 y_X10_isIn ml_X10_63 rfl rfl (Nat.le_of_ble_eq_true rfl) ⟨(Nat.le_of_ble_eq_true rfl), (Nat.le_of_ble_eq_true rfl)⟩ ⟨Nat.zero_le _, Nat.zero_le _⟩ ?_
    refine v_if_eq (tgt := 45) dX10_canPatch_14 (by decide) (fun c => ?_) (fun c => ?_)
    · replace hh := (if_pos c).symm.trans hh
      refine v_iconst dX10_canPatch_45 (by decide : _ = (0 : Int32)) ?_
      obtain rfl := Option.some.inj hh
      exact v_zret dX10_canPatch_46 rfl (zb (by decide)).1 (Nat.zero_le _) (Nat.zero_le _) ⟨rfl, rfl⟩
    · replace hh := (if_neg c).symm.trans hh
      refine v_aload_n 0 dX10_canPatch_17 rfl rfl ?_
      refine r_Model_a dX10_canPatch_18 fl_X10_7 ?_
      refine v_bipush dX10_canPatch_21 (by decide : _ = (23 : Int32)) ?_
      refine v_iload_n 1 dX10_canPatch_23 rfl rfl ?_
      refine v_iadd dX10_canPatch_24 ?_
      obtain ⟨g3, hh⟩ := chk_some hh
      replace g3 := inb_in g3
      refine ld_ma dX10_canPatch_25 g3 ?_
      refine v_iconst dX10_canPatch_26 (by decide : _ = (1 : Int32)) ?_
      refine v_icmp_ne (tgt := 45) dX10_canPatch_27 (by decide) (fun c => ?_) (fun c => ?_)
      · replace hh := (if_neg c).symm.trans hh
        refine v_iconst dX10_canPatch_45 (by decide : _ = (0 : Int32)) ?_
        obtain rfl := Option.some.inj hh
        exact v_zret dX10_canPatch_46 rfl (zb (by decide)).1 (Nat.zero_le _) (Nat.zero_le _) ⟨rfl, rfl⟩
      · replace hh := (if_pos c).symm.trans hh
        refine v_aload_n 0 dX10_canPatch_30 rfl rfl ?_
        refine r_Model_a dX10_canPatch_31 fl_X10_7 ?_
        refine v_bipush dX10_canPatch_34 (by decide : _ = (8 : Int32)) ?_
        refine ld_ma dX10_canPatch_36 (inb_in (by decide)) ?_
        refine v_iload_n 2 dX10_canPatch_37 rfl rfl ?_
        refine v_icmp_lt (tgt := 45) dX10_canPatch_38 (by decide) (fun c => ?_) (fun c => ?_)
        · replace hh := (if_pos c).symm.trans hh
          refine v_iconst dX10_canPatch_45 (by decide : _ = (0 : Int32)) ?_
          obtain rfl := Option.some.inj hh
          exact v_zret dX10_canPatch_46 rfl (zb (by decide)).1 (Nat.zero_le _) (Nat.zero_le _) ⟨rfl, rfl⟩
        · replace hh := (if_neg c).symm.trans hh
          refine v_iconst dX10_canPatch_41 (by decide : _ = (1 : Int32)) ?_
          refine v_goto (tgt := 46) dX10_canPatch_42 (by decide) ?_
          obtain rfl := Option.some.inj hh
          exact v_zret dX10_canPatch_46 rfl (zb (by decide)).1 (Nat.zero_le _) (Nat.zero_le _) ⟨rfl, rfl⟩
def f_X10_patchNow  (S : St) (x1 : Int32) (x2 : Int32) : Option (St) :=
  chk (inb ((11 : Int32) + x1) 3015) (
  chk (inb ((11 : Int32) + x1) 3015) (
  lt (sI S 1000 0 (((11 : Int32) + x1).toNatClampNeg) ((gI S 1000 0 ((11 : Int32) + x1).toNatClampNeg) + x2)) fun S3 =>
  lt (sI S3 1000 0 8 ((gI S3 1000 0 8) - x2)) fun S6 =>
  chk (inb ((23 : Int32) + x1) 3015) (
  lt (sI S6 1000 0 (((23 : Int32) + x1).toNatClampNeg) (0 : Int32)) fun S8 =>
  some S8)))
set_option maxRecDepth 100000 in
set_option maxHeartbeats 4000000 in
theorem t_X10_patchNow {l : Launch} {G : v_G} {S : St}   {x1 : Int32} {x2 : Int32} {r : St} (hh : f_X10_patchNow  S x1 x2 = some r) : v_M l G yX10_patchNow cX10_patchNow 3 (none) 0 0 0 [.ref (v_B G + 291), .int x1, .int x2] (lay G S) (QV (lay G r)) := by
  refine v_entry (by decide) (Nat.le_of_ble_eq_true rfl) ?_
  unfold f_X10_patchNow at hh
  show V l G yX10_patchNow cX10_patchNow 3 (none) (v_rm 0 0 0) (QV (lay G r)) 0 0 0 [(0, .ref (v_B G + 291)), (1, .int x1), (2, .int x2)] [] (lay G S)
  refine v_aload_n 0 dX10_patchNow_0 rfl rfl ?_
  refine r_Model_a dX10_patchNow_1 fl_X10_7 ?_
  refine v_bipush dX10_patchNow_4 (by decide : _ = (11 : Int32)) ?_
  refine v_iload_n 1 dX10_patchNow_6 rfl rfl ?_
  refine v_iadd dX10_patchNow_7 ?_
  refine v_dup2 dX10_patchNow_8 rfl rfl ?_
  obtain ⟨g1, hh⟩ := chk_some hh
  replace g1 := inb_in g1
  refine ld_ma dX10_patchNow_9 g1 ?_
  refine v_iload_n 2 dX10_patchNow_10 rfl rfl ?_
  refine v_iadd dX10_patchNow_11 ?_
  obtain ⟨g2, hh⟩ := chk_some hh
  replace g2 := inb_in g2
  refine st_ma dX10_patchNow_12 g2 ?_
  replace hh := lt_of hh
  refine v_aload_n 0 dX10_patchNow_13 rfl rfl ?_
  refine r_Model_a dX10_patchNow_14 fl_X10_7 ?_
  refine v_bipush dX10_patchNow_17 (by decide : _ = (8 : Int32)) ?_
  refine v_dup2 dX10_patchNow_19 rfl rfl ?_
  refine ld_ma dX10_patchNow_20 (inb_in (by decide)) ?_
  refine v_iload_n 2 dX10_patchNow_21 rfl rfl ?_
  refine v_isub dX10_patchNow_22 ?_
  refine st_ma dX10_patchNow_23 (inb_in (by decide)) ?_
  replace hh := lt_of hh
  refine v_aload_n 0 dX10_patchNow_24 rfl rfl ?_
  refine r_Model_a dX10_patchNow_25 fl_X10_7 ?_
  refine v_bipush dX10_patchNow_28 (by decide : _ = (23 : Int32)) ?_
  refine v_iload_n 1 dX10_patchNow_30 rfl rfl ?_
  refine v_iadd dX10_patchNow_31 ?_
  refine v_iconst dX10_patchNow_32 (by decide : _ = (0 : Int32)) ?_
  obtain ⟨g7, hh⟩ := chk_some hh
  replace g7 := inb_in g7
  refine st_ma dX10_patchNow_33 g7 ?_
  replace hh := lt_of hh
  obtain rfl := Option.some.inj hh
  exact v_vret dX10_patchNow_34 rfl (Nat.zero_le _) (Nat.zero_le _) ⟨rfl, rfl⟩
def f_X10_patch (N : Nat) (S : St) (x1 : Int32) (x2 : Int32) : Option (Int32 × St) :=
  bnd (f_X10_canPatch S x1 x2) fun q1 =>
 if q1 = (0 : Int32) then
  (some ((0 : Int32), S))
  else
  (bnd (f_X10_keep N S ) fun q2 =>
 bnd (f_X10_patchNow q2 x1 x2) fun q3 =>
 some ((1 : Int32), q3))
set_option maxRecDepth 100000 in
set_option maxHeartbeats 4000000 in
theorem t_X10_patch {l : Launch} {G : v_G} {N : Nat} {S : St}   {x1 : Int32} {x2 : Int32} {r : Int32 × St} (hh : f_X10_patch N S x1 x2 = some r) : v_M l G yX10_patch cX10_patch 3 (some .boolean) 3 0 0 [.ref (v_B G + 291), .int x1, .int x2] (lay G S) (QI r.1 (lay G r.2)) := by
  refine v_entry (by decide) (Nat.le_of_ble_eq_true rfl) ?_
  unfold f_X10_patch at hh
  show V l G yX10_patch cX10_patch 3 (some .boolean) (v_rm 3 0 0) (QI r.1 (lay G r.2)) 0 0 0 [(0, .ref (v_B G + 291)), (1, .int x1), (2, .int x2)] [] (lay G S)
  refine v_aload_n 0 dX10_patch_0 rfl rfl ?_
  refine v_iload_n 1 dX10_patch_1 rfl rfl ?_
  refine v_iload_n 2 dX10_patch_2 rfl rfl ?_
  obtain ⟨q1, eq1, hh⟩ := bnd_some hh
  refine v_callVi (t_X10_canPatch eq1) dX10_patch_3 y_X10_canPatch ml_X10_323 (ci := 9) rfl rfl (e_Model) rfl rfl (Nat.le_of_ble_eq_true rfl) ⟨(Nat.le_of_ble_eq_true rfl), (Nat.le_of_ble_eq_true rfl)⟩ ⟨Nat.zero_le _, Nat.zero_le _⟩ ?_
  refine v_if_ne (tgt := 11) dX10_patch_6 (by decide) (fun c => ?_) (fun c => ?_)
  · replace hh := (if_neg c).symm.trans hh
    refine v_aload_n 0 dX10_patch_11 rfl rfl ?_
    obtain ⟨q2, eq2, hh⟩ := bnd_some hh
    refine v_callVv (t_X10_keep eq2) dX10_patch_12 y_X10_keep ml_X10_317 (ci := 9) rfl rfl (e_Model) rfl rfl (Nat.le_of_ble_eq_true rfl) ⟨(Nat.le_of_ble_eq_true rfl), (Nat.le_of_ble_eq_true rfl)⟩ ⟨Nat.zero_le _, Nat.zero_le _⟩ ?_
    refine v_aload_n 0 dX10_patch_15 rfl rfl ?_
    refine v_iload_n 1 dX10_patch_16 rfl rfl ?_
    refine v_iload_n 2 dX10_patch_17 rfl rfl ?_
    obtain ⟨q3, eq3, hh⟩ := bnd_some hh
    refine v_callVv (t_X10_patchNow eq3) dX10_patch_18 y_X10_patchNow ml_X10_326 (ci := 9) rfl rfl (e_Model) rfl rfl (Nat.le_of_ble_eq_true rfl) ⟨(Nat.le_of_ble_eq_true rfl), (Nat.le_of_ble_eq_true rfl)⟩ ⟨Nat.zero_le _, Nat.zero_le _⟩ ?_
    refine v_iconst dX10_patch_21 (by decide : _ = (1 : Int32)) ?_
    obtain rfl := Option.some.inj hh
    exact v_zret dX10_patch_22 rfl (zb (by decide)).1 (Nat.zero_le _) (Nat.zero_le _) ⟨rfl, rfl⟩
  · replace hh := (if_pos c).symm.trans hh
    refine v_iconst dX10_patch_9 (by decide : _ = (0 : Int32)) ?_
    obtain rfl := Option.some.inj hh
    exact v_zret dX10_patch_10 rfl (zb (by decide)).1 (Nat.zero_le _) (Nat.zero_le _) ⟨rfl, rfl⟩
def f_X10_arePassed_b7 (N : Nat) : Nat → Int32 → Int32 → St → Option (Int32 × St)
  | 0, _, _, _ => none
  | n + 1, x1, x2, S =>
  if x1 ≤ x2 then
  (some ((1 : Int32), S))
  else
  (if (gI S 1000 0 6) = (9999 : Int32) then
  (some ((0 : Int32), S))
  else
  (bnd (f_X10_keep N S ) fun q3 =>
 bnd (f_X10_pass N q3 ) fun q4 =>
 lt (x2 + (1 : Int32)) fun v5 =>
  f_X10_arePassed_b7 N n x1 v5 q4))
set_option maxRecDepth 100000 in
set_option maxHeartbeats 4000000 in
theorem tb_X10_arePassed_7 {l : Launch} {G : v_G} {N : Nat}    {r : Int32 × St}   : ∀ (n : Nat) (x1 : Int32) (x2 : Int32) (S : St),  f_X10_arePassed_b7 N n x1 x2 S = some r → V l G yX10_arePassed cX10_arePassed 3 (some .boolean) (v_rm 8 0 0) (QI r.1 (lay G r.2)) 0 0 7 [(0, .ref (v_B G + 291)), (1, .int x1), (2, .int x2)] [] (lay G S) := by
  intro n
  induction n with
  | zero =>
    intro x1 x2 S  hh
    rw [f_X10_arePassed_b7] at hh
    cases hh
  | succ n ih =>
    intro x1 x2 S  hh
    rw [f_X10_arePassed_b7] at hh
    refine v_iload_n 2 dX10_arePassed_7 rfl rfl ?_
    refine v_iload_n 1 dX10_arePassed_8 rfl rfl ?_
    refine v_icmp_ge (tgt := 41) dX10_arePassed_9 (by decide) (fun c => ?_) (fun c => ?_)
    · replace hh := (if_pos c).symm.trans hh
      refine v_iconst dX10_arePassed_41 (by decide : _ = (1 : Int32)) ?_
      obtain rfl := Option.some.inj hh
      exact v_zret dX10_arePassed_42 rfl (zb (by decide)).1 (Nat.zero_le _) (Nat.zero_le _) ⟨rfl, rfl⟩
    · replace hh := (if_neg c).symm.trans hh
      refine v_aload_n 0 dX10_arePassed_12 rfl rfl ?_
      refine r_Model_a dX10_arePassed_13 fl_X10_7 ?_
      refine v_bipush dX10_arePassed_16 (by decide : _ = (6 : Int32)) ?_
      refine ld_ma dX10_arePassed_18 (inb_in (by decide)) ?_
      refine v_sipush dX10_arePassed_19 (by decide : _ = (9999 : Int32)) ?_
      refine v_icmp_ne (tgt := 27) dX10_arePassed_22 (by decide) (fun c => ?_) (fun c => ?_)
      · replace hh := (if_neg c).symm.trans hh
        refine v_aload_n 0 dX10_arePassed_27 rfl rfl ?_
        obtain ⟨q3, eq3, hh⟩ := bnd_some hh
        refine v_callVv (t_X10_keep eq3) dX10_arePassed_28 y_X10_keep ml_X10_317 (ci := 9) rfl rfl (e_Model) rfl rfl (Nat.le_of_ble_eq_true rfl) ⟨(Nat.le_of_ble_eq_true rfl), (Nat.le_of_ble_eq_true rfl)⟩ ⟨Nat.zero_le _, Nat.zero_le _⟩ ?_
        refine v_aload_n 0 dX10_arePassed_31 rfl rfl ?_
        obtain ⟨q4, eq4, hh⟩ := bnd_some hh
        refine v_callVv (t_X10_pass eq4) dX10_arePassed_32 y_X10_pass ml_X10_329 (ci := 9) rfl rfl (e_Model) rfl rfl (Nat.le_of_ble_eq_true rfl) ⟨(Nat.le_of_ble_eq_true rfl), (Nat.le_of_ble_eq_true rfl)⟩ ⟨Nat.zero_le _, Nat.zero_le _⟩ ?_
        refine v_iinc (v := _ + (1 : Int32)) 2 dX10_arePassed_35 rfl rfl (by decide) rfl ?_
        replace hh := lt_of hh
        refine v_goto (tgt := 7) dX10_arePassed_38 (by decide) ?_
        exact v_sub [1, 2, 0] rfl (ih _ _ _ hh)
      · replace hh := (if_pos c).symm.trans hh
        refine v_iconst dX10_arePassed_25 (by decide : _ = (0 : Int32)) ?_
        obtain rfl := Option.some.inj hh
        exact v_zret dX10_arePassed_26 rfl (zb (by decide)).1 (Nat.zero_le _) (Nat.zero_le _) ⟨rfl, rfl⟩
def f_X10_arePassed (N : Nat) (S : St) (x1 : Int32) : Option (Int32 × St) :=
  lt (sI S 1024 0 0 (0 : Int32)) fun S1 =>
  f_X10_arePassed_b7 N N x1 (0 : Int32) S1
set_option maxRecDepth 100000 in
set_option maxHeartbeats 4000000 in
theorem t_X10_arePassed {l : Launch} {G : v_G} {N : Nat} {S : St}   {x1 : Int32} {r : Int32 × St} (hh : f_X10_arePassed N S x1 = some r) : v_M l G yX10_arePassed cX10_arePassed 3 (some .boolean) 8 0 0 [.ref (v_B G + 291), .int x1] (lay G S) (QI r.1 (lay G r.2)) := by
  refine v_entry (by decide) (Nat.le_of_ble_eq_true rfl) ?_
  unfold f_X10_arePassed at hh
  show V l G yX10_arePassed cX10_arePassed 3 (some .boolean) (v_rm 8 0 0) (QI r.1 (lay G r.2)) 0 0 0 [(0, .ref (v_B G + 291)), (1, .int x1)] [] (lay G S)
  refine v_aload_n 0 dX10_arePassed_0 rfl rfl ?_
  refine v_iconst dX10_arePassed_1 (by decide : _ = (0 : Int32)) ?_
  refine w_Model_torn dX10_arePassed_2 fl_X10_297 ?_
  replace hh := lt_of hh
  refine v_iconst dX10_arePassed_5 (by decide : _ = (0 : Int32)) ?_
  refine v_istore_n dX10_arePassed_6 rfl (by decide) rfl ?_
  exact v_sub [1, 2, 0] rfl (tb_X10_arePassed_7 N _ _ _ hh)
def f_X10_roll (N : Nat) (S : St) (x1 : Int32) : Option (Int32 × St) :=
  bnd (f_X10_isIn S x1 (1 : Int32) (60 : Int32)) fun q1 =>
 if q1 = (0 : Int32) then
  (some ((-1 : Int32), S))
  else
  (if (9999 : Int32) < ((gI S 1000 0 6) + x1) then
  (some ((-1 : Int32), S))
  else
  (bnd (f_X10_arePassed N S x1) fun q3 =>
 if q3.1 = (0 : Int32) then
  (some ((-1 : Int32), q3.2))
  else
  (some (gI q3.2 1024 0 0, q3.2))))
set_option maxRecDepth 100000 in
set_option maxHeartbeats 4000000 in
theorem t_X10_roll {l : Launch} {G : v_G} {N : Nat} {S : St}   {x1 : Int32} {r : Int32 × St} (hh : f_X10_roll N S x1 = some r) : v_M l G yX10_roll cX10_roll 2 (some .int) 9 0 0 [.ref (v_B G + 291), .int x1] (lay G S) (QI r.1 (lay G r.2)) := by
  refine v_entry (by decide) (Nat.le_of_ble_eq_true rfl) ?_
  unfold f_X10_roll at hh
  show V l G yX10_roll cX10_roll 2 (some .int) (v_rm 9 0 0) (QI r.1 (lay G r.2)) 0 0 0 [(0, .ref (v_B G + 291)), (1, .int x1)] [] (lay G S)
  refine v_iload_n 1 dX10_roll_0 rfl rfl ?_
  refine v_iconst dX10_roll_1 (by decide : _ = (1 : Int32)) ?_
  refine v_bipush dX10_roll_2 (by decide : _ = (60 : Int32)) ?_
  obtain ⟨q1, eq1, hh⟩ := bnd_some hh
  refine v_callSi (t_X10_isIn eq1) dX10_roll_4 y_X10_isIn ml_X10_63 rfl rfl (Nat.le_of_ble_eq_true rfl) ⟨(Nat.le_of_ble_eq_true rfl), (Nat.le_of_ble_eq_true rfl)⟩ ⟨Nat.zero_le _, Nat.zero_le _⟩ ?_
  refine v_if_eq (tgt := 40) dX10_roll_7 (by decide) (fun c => ?_) (fun c => ?_)
  · replace hh := (if_pos c).symm.trans hh
    refine v_iconst dX10_roll_40 (by decide : _ = (-1 : Int32)) ?_
    obtain rfl := Option.some.inj hh
    exact v_iret dX10_roll_41 rfl (Nat.zero_le _) (Nat.zero_le _) ⟨rfl, rfl⟩
  · replace hh := (if_neg c).symm.trans hh
    refine v_aload_n 0 dX10_roll_10 rfl rfl ?_
    refine r_Model_a dX10_roll_11 fl_X10_7 ?_
    refine v_bipush dX10_roll_14 (by decide : _ = (6 : Int32)) ?_
    refine ld_ma dX10_roll_16 (inb_in (by decide)) ?_
    refine v_iload_n 1 dX10_roll_17 rfl rfl ?_
    refine v_iadd dX10_roll_18 ?_
    refine v_sipush dX10_roll_19 (by decide : _ = (9999 : Int32)) ?_
    refine v_icmp_gt (tgt := 40) dX10_roll_22 (by decide) (fun c => ?_) (fun c => ?_)
    · replace hh := (if_pos c).symm.trans hh
      refine v_iconst dX10_roll_40 (by decide : _ = (-1 : Int32)) ?_
      obtain rfl := Option.some.inj hh
      exact v_iret dX10_roll_41 rfl (Nat.zero_le _) (Nat.zero_le _) ⟨rfl, rfl⟩
    · replace hh := (if_neg c).symm.trans hh
      refine v_aload_n 0 dX10_roll_25 rfl rfl ?_
      refine v_iload_n 1 dX10_roll_26 rfl rfl ?_
      obtain ⟨q3, eq3, hh⟩ := bnd_some hh
      refine v_callVi (t_X10_arePassed eq3) dX10_roll_27 y_X10_arePassed ml_X10_332 (ci := 9) rfl rfl (e_Model) rfl rfl (Nat.le_of_ble_eq_true rfl) ⟨(Nat.le_of_ble_eq_true rfl), (Nat.le_of_ble_eq_true rfl)⟩ ⟨Nat.zero_le _, Nat.zero_le _⟩ ?_
      refine v_if_eq (tgt := 40) dX10_roll_30 (by decide) (fun c => ?_) (fun c => ?_)
      · replace hh := (if_pos c).symm.trans hh
        refine v_iconst dX10_roll_40 (by decide : _ = (-1 : Int32)) ?_
        obtain rfl := Option.some.inj hh
        exact v_iret dX10_roll_41 rfl (Nat.zero_le _) (Nat.zero_le _) ⟨rfl, rfl⟩
      · replace hh := (if_neg c).symm.trans hh
        refine v_aload_n 0 dX10_roll_33 rfl rfl ?_
        refine r_Model_torn dX10_roll_34 fl_X10_297 ?_
        refine v_goto (tgt := 41) dX10_roll_37 (by decide) ?_
        obtain rfl := Option.some.inj hh
        exact v_iret dX10_roll_41 rfl (Nat.zero_le _) (Nat.zero_le _) ⟨rfl, rfl⟩
def f_X10_isPlayed (N : Nat) (S : St) (x1 : Int32) : Option (Int32 × St) :=
  chk (inb (x1 + (1 : Int32)) 2724) (
  lt (gI S 1002 0 (x1 + (1 : Int32)).toNatClampNeg) fun v2 =>
  chk (inb (x1 + (2 : Int32)) 2724) (
  lt (gI S 1002 0 (x1 + (2 : Int32)).toNatClampNeg) fun v4 =>
  chk (inb x1 2724) (
  if (gI S 1002 0 x1.toNatClampNeg) = (2 : Int32) then
  (bnd (f_X10_hand S v2) fun q6 =>
 if q6.1 < (0 : Int32) then
  (some ((0 : Int32), q6.2))
  else
  (some ((1 : Int32), q6.2)))
  else if (gI S 1002 0 x1.toNatClampNeg) = (3 : Int32) then
  (bnd (f_X10_dough N S v4 v2) fun q7 =>
 chk (isz q7.1) (some (q7.1, q7.2)))
  else if (gI S 1002 0 x1.toNatClampNeg) = (4 : Int32) then
  (bnd (f_X10_town S v2) fun q8 =>
 if q8.1 < (0 : Int32) then
  (some ((0 : Int32), q8.2))
  else
  (some ((1 : Int32), q8.2)))
  else if (gI S 1002 0 x1.toNatClampNeg) = (5 : Int32) then
  (bnd (f_X10_stroke N S v4 v2 (0 : Int32)) fun q9 =>
 if q9.1 < (0 : Int32) then
  (some ((0 : Int32), q9.2))
  else
  (some ((1 : Int32), q9.2)))
  else if (gI S 1002 0 x1.toNatClampNeg) = (6 : Int32) then
  (bnd (f_X10_stroke N S v4 v2 (1 : Int32)) fun q10 =>
 if q10.1 < (0 : Int32) then
  (some ((0 : Int32), q10.2))
  else
  (some ((1 : Int32), q10.2)))
  else if (gI S 1002 0 x1.toNatClampNeg) = (7 : Int32) then
  (bnd (f_X10_trim N S ) fun q11 =>
 if q11.1 < (0 : Int32) then
  (some ((0 : Int32), q11.2))
  else
  (some ((1 : Int32), q11.2)))
  else if (gI S 1002 0 x1.toNatClampNeg) = (8 : Int32) then
  (bnd (f_X10_patch N S v4 v2) fun q12 =>
 chk (isz q12.1) (some (q12.1, q12.2)))
  else if (gI S 1002 0 x1.toNatClampNeg) = (9 : Int32) then
  (bnd (f_X10_arePassed N S v2) fun q13 =>
 chk (isz q13.1) (some (q13.1, q13.2)))
  else (some ((1 : Int32), S)))))
set_option maxRecDepth 100000 in
set_option maxHeartbeats 4000000 in
theorem t_X10_isPlayed {l : Launch} {G : v_G} {N : Nat} {S : St}   {x1 : Int32} {r : Int32 × St} (hh : f_X10_isPlayed N S x1 = some r) : v_M l G yX10_isPlayed cX10_isPlayed 4 (some .boolean) 9 0 0 [.ref (v_B G + 291), .int x1] (lay G S) (QI r.1 (lay G r.2)) := by
  refine v_entry (by decide) (Nat.le_of_ble_eq_true rfl) ?_
  unfold f_X10_isPlayed at hh
  show V l G yX10_isPlayed cX10_isPlayed 4 (some .boolean) (v_rm 9 0 0) (QI r.1 (lay G r.2)) 0 0 0 [(0, .ref (v_B G + 291)), (1, .int x1)] [] (lay G S)
  refine v_aload_n 0 dX10_isPlayed_0 rfl rfl ?_
  refine r_Model_texts dX10_isPlayed_1 fl_X10_16 ?_
  refine v_iload_n 1 dX10_isPlayed_4 rfl rfl ?_
  refine v_iconst dX10_isPlayed_5 (by decide : _ = (1 : Int32)) ?_
  refine v_iadd dX10_isPlayed_6 ?_
  obtain ⟨g1, hh⟩ := chk_some hh
  replace g1 := inb_in g1
  refine ld_mtexts dX10_isPlayed_7 g1 ?_
  refine v_istore_n dX10_isPlayed_8 rfl (by decide) rfl ?_
  replace hh := lt_of hh
  refine v_aload_n 1 dX10_isPlayed_9 rfl rfl ?_
  refine r_Model_texts dX10_isPlayed_10 fl_X10_16 ?_
  refine v_iload_n 2 dX10_isPlayed_13 rfl rfl ?_
  refine v_iconst dX10_isPlayed_14 (by decide : _ = (2 : Int32)) ?_
  refine v_iadd dX10_isPlayed_15 ?_
  obtain ⟨g3, hh⟩ := chk_some hh
  replace g3 := inb_in g3
  refine ld_mtexts dX10_isPlayed_16 g3 ?_
  refine v_istore_n dX10_isPlayed_17 rfl (by decide) rfl ?_
  replace hh := lt_of hh
  refine v_aload_n 2 dX10_isPlayed_18 rfl rfl ?_
  refine r_Model_texts dX10_isPlayed_19 fl_X10_16 ?_
  refine v_iload_n 3 dX10_isPlayed_22 rfl rfl ?_
  obtain ⟨g5, hh⟩ := chk_some hh
  replace g5 := inb_in g5
  refine ld_mtexts dX10_isPlayed_23 g5 ?_
  refine sw_if hh (fun c0 hh => ?_) (fun c0 hh => ?_)
  · skip
    refine v_tableIn (tgt := 72) dX10_isPlayed_24 (by rw [c0]; decide) (by rw [c0]; decide) (by rw [c0] <;> rfl) (by decide) ?_
    refine v_aload_n 2 dX10_isPlayed_72 rfl rfl ?_
    refine v_iload_n 1 dX10_isPlayed_73 rfl rfl ?_
    obtain ⟨q6, eq6, hh⟩ := bnd_some hh
    refine v_callVi (t_X10_hand eq6) dX10_isPlayed_74 y_X10_hand ml_X10_335 (ci := 9) rfl rfl (e_Model) rfl rfl (Nat.le_of_ble_eq_true rfl) ⟨(Nat.le_of_ble_eq_true rfl), (Nat.le_of_ble_eq_true rfl)⟩ ⟨Nat.zero_le _, Nat.zero_le _⟩ ?_
    refine v_if_lt (tgt := 84) dX10_isPlayed_77 (by decide) (fun c => ?_) (fun c => ?_)
    · replace hh := (if_pos c).symm.trans hh
      refine v_iconst dX10_isPlayed_84 (by decide : _ = (0 : Int32)) ?_
      obtain rfl := Option.some.inj hh
      exact v_zret dX10_isPlayed_85 rfl (zb (by decide)).1 (Nat.zero_le _) (Nat.zero_le _) ⟨rfl, rfl⟩
    · replace hh := (if_neg c).symm.trans hh
      refine v_iconst dX10_isPlayed_80 (by decide : _ = (1 : Int32)) ?_
      refine v_goto (tgt := 85) dX10_isPlayed_81 (by decide) ?_
      obtain rfl := Option.some.inj hh
      exact v_zret dX10_isPlayed_85 rfl (zb (by decide)).1 (Nat.zero_le _) (Nat.zero_le _) ⟨rfl, rfl⟩
  · skip
    refine sw_if hh (fun c1 hh => ?_) (fun c1 hh => ?_)
    · skip
      refine v_tableIn (tgt := 86) dX10_isPlayed_24 (by rw [c1]; decide) (by rw [c1]; decide) (by rw [c1] <;> rfl) (by decide) ?_
      refine v_aload_n 2 dX10_isPlayed_86 rfl rfl ?_
      refine v_iload_n 0 dX10_isPlayed_87 rfl rfl ?_
      refine v_iload_n 1 dX10_isPlayed_88 rfl rfl ?_
      obtain ⟨q7, eq7, hh⟩ := bnd_some hh
      refine v_callVi (t_X10_dough eq7) dX10_isPlayed_89 y_X10_dough ml_X10_338 (ci := 9) rfl rfl (e_Model) rfl rfl (Nat.le_of_ble_eq_true rfl) ⟨(Nat.le_of_ble_eq_true rfl), (Nat.le_of_ble_eq_true rfl)⟩ ⟨Nat.zero_le _, Nat.zero_le _⟩ ?_
      obtain ⟨g, hh⟩ := chk_some hh
      obtain rfl := Option.some.inj hh
      exact v_zret dX10_isPlayed_92 rfl (zb (isz_or g)).1 (Nat.zero_le _) (Nat.zero_le _) ⟨rfl, rfl⟩
    · skip
      refine sw_if hh (fun c2 hh => ?_) (fun c2 hh => ?_)
      · skip
        refine v_tableIn (tgt := 93) dX10_isPlayed_24 (by rw [c2]; decide) (by rw [c2]; decide) (by rw [c2] <;> rfl) (by decide) ?_
        refine v_aload_n 2 dX10_isPlayed_93 rfl rfl ?_
        refine v_iload_n 1 dX10_isPlayed_94 rfl rfl ?_
        obtain ⟨q8, eq8, hh⟩ := bnd_some hh
        refine v_callVi (t_X10_town eq8) dX10_isPlayed_95 y_X10_town ml_X10_341 (ci := 9) rfl rfl (e_Model) rfl rfl (Nat.le_of_ble_eq_true rfl) ⟨(Nat.le_of_ble_eq_true rfl), (Nat.le_of_ble_eq_true rfl)⟩ ⟨Nat.zero_le _, Nat.zero_le _⟩ ?_
        refine v_if_lt (tgt := 105) dX10_isPlayed_98 (by decide) (fun c => ?_) (fun c => ?_)
        · replace hh := (if_pos c).symm.trans hh
          refine v_iconst dX10_isPlayed_105 (by decide : _ = (0 : Int32)) ?_
          obtain rfl := Option.some.inj hh
          exact v_zret dX10_isPlayed_106 rfl (zb (by decide)).1 (Nat.zero_le _) (Nat.zero_le _) ⟨rfl, rfl⟩
        · replace hh := (if_neg c).symm.trans hh
          refine v_iconst dX10_isPlayed_101 (by decide : _ = (1 : Int32)) ?_
          refine v_goto (tgt := 106) dX10_isPlayed_102 (by decide) ?_
          obtain rfl := Option.some.inj hh
          exact v_zret dX10_isPlayed_106 rfl (zb (by decide)).1 (Nat.zero_le _) (Nat.zero_le _) ⟨rfl, rfl⟩
      · skip
        refine sw_if hh (fun c3 hh => ?_) (fun c3 hh => ?_)
        · skip
          refine v_tableIn (tgt := 107) dX10_isPlayed_24 (by rw [c3]; decide) (by rw [c3]; decide) (by rw [c3] <;> rfl) (by decide) ?_
          refine v_aload_n 2 dX10_isPlayed_107 rfl rfl ?_
          refine v_iload_n 0 dX10_isPlayed_108 rfl rfl ?_
          refine v_iload_n 1 dX10_isPlayed_109 rfl rfl ?_
          refine v_iconst dX10_isPlayed_110 (by decide : _ = (0 : Int32)) ?_
          obtain ⟨q9, eq9, hh⟩ := bnd_some hh
          refine v_callVi (t_X10_stroke eq9) dX10_isPlayed_111 y_X10_stroke ml_X10_344 (ci := 9) rfl rfl (e_Model) rfl rfl (Nat.le_of_ble_eq_true rfl) ⟨(Nat.le_of_ble_eq_true rfl), (Nat.le_of_ble_eq_true rfl)⟩ ⟨Nat.zero_le _, Nat.zero_le _⟩ ?_
          refine v_if_lt (tgt := 121) dX10_isPlayed_114 (by decide) (fun c => ?_) (fun c => ?_)
          · replace hh := (if_pos c).symm.trans hh
            refine v_iconst dX10_isPlayed_121 (by decide : _ = (0 : Int32)) ?_
            obtain rfl := Option.some.inj hh
            exact v_zret dX10_isPlayed_122 rfl (zb (by decide)).1 (Nat.zero_le _) (Nat.zero_le _) ⟨rfl, rfl⟩
          · replace hh := (if_neg c).symm.trans hh
            refine v_iconst dX10_isPlayed_117 (by decide : _ = (1 : Int32)) ?_
            refine v_goto (tgt := 122) dX10_isPlayed_118 (by decide) ?_
            obtain rfl := Option.some.inj hh
            exact v_zret dX10_isPlayed_122 rfl (zb (by decide)).1 (Nat.zero_le _) (Nat.zero_le _) ⟨rfl, rfl⟩
        · skip
          refine sw_if hh (fun c4 hh => ?_) (fun c4 hh => ?_)
          · skip
            refine v_tableIn (tgt := 123) dX10_isPlayed_24 (by rw [c4]; decide) (by rw [c4]; decide) (by rw [c4] <;> rfl) (by decide) ?_
            refine v_aload_n 2 dX10_isPlayed_123 rfl rfl ?_
            refine v_iload_n 0 dX10_isPlayed_124 rfl rfl ?_
            refine v_iload_n 1 dX10_isPlayed_125 rfl rfl ?_
            refine v_iconst dX10_isPlayed_126 (by decide : _ = (1 : Int32)) ?_
            obtain ⟨q10, eq10, hh⟩ := bnd_some hh
            refine v_callVi (t_X10_stroke eq10) dX10_isPlayed_127 y_X10_stroke ml_X10_344 (ci := 9) rfl rfl (e_Model) rfl rfl (Nat.le_of_ble_eq_true rfl) ⟨(Nat.le_of_ble_eq_true rfl), (Nat.le_of_ble_eq_true rfl)⟩ ⟨Nat.zero_le _, Nat.zero_le _⟩ ?_
            refine v_if_lt (tgt := 137) dX10_isPlayed_130 (by decide) (fun c => ?_) (fun c => ?_)
            · replace hh := (if_pos c).symm.trans hh
              refine v_iconst dX10_isPlayed_137 (by decide : _ = (0 : Int32)) ?_
              obtain rfl := Option.some.inj hh
              exact v_zret dX10_isPlayed_138 rfl (zb (by decide)).1 (Nat.zero_le _) (Nat.zero_le _) ⟨rfl, rfl⟩
            · replace hh := (if_neg c).symm.trans hh
              refine v_iconst dX10_isPlayed_133 (by decide : _ = (1 : Int32)) ?_
              refine v_goto (tgt := 138) dX10_isPlayed_134 (by decide) ?_
              obtain rfl := Option.some.inj hh
              exact v_zret dX10_isPlayed_138 rfl (zb (by decide)).1 (Nat.zero_le _) (Nat.zero_le _) ⟨rfl, rfl⟩
          · skip
            refine sw_if hh (fun c5 hh => ?_) (fun c5 hh => ?_)
            · skip
              refine v_tableIn (tgt := 139) dX10_isPlayed_24 (by rw [c5]; decide) (by rw [c5]; decide) (by rw [c5] <;> rfl) (by decide) ?_
              refine v_aload_n 2 dX10_isPlayed_139 rfl rfl ?_
              obtain ⟨q11, eq11, hh⟩ := bnd_some hh
              refine v_callVi (t_X10_trim eq11) dX10_isPlayed_140 y_X10_trim ml_X10_347 (ci := 9) rfl rfl (e_Model) rfl rfl (Nat.le_of_ble_eq_true rfl) ⟨(Nat.le_of_ble_eq_true rfl), (Nat.le_of_ble_eq_true rfl)⟩ ⟨Nat.zero_le _, Nat.zero_le _⟩ ?_
              refine v_if_lt (tgt := 150) dX10_isPlayed_143 (by decide) (fun c => ?_) (fun c => ?_)
              · replace hh := (if_pos c).symm.trans hh
                refine v_iconst dX10_isPlayed_150 (by decide : _ = (0 : Int32)) ?_
                obtain rfl := Option.some.inj hh
                exact v_zret dX10_isPlayed_151 rfl (zb (by decide)).1 (Nat.zero_le _) (Nat.zero_le _) ⟨rfl, rfl⟩
              · replace hh := (if_neg c).symm.trans hh
                refine v_iconst dX10_isPlayed_146 (by decide : _ = (1 : Int32)) ?_
                refine v_goto (tgt := 151) dX10_isPlayed_147 (by decide) ?_
                obtain rfl := Option.some.inj hh
                exact v_zret dX10_isPlayed_151 rfl (zb (by decide)).1 (Nat.zero_le _) (Nat.zero_le _) ⟨rfl, rfl⟩
            · skip
              refine sw_if hh (fun c6 hh => ?_) (fun c6 hh => ?_)
              · skip
                refine v_tableIn (tgt := 152) dX10_isPlayed_24 (by rw [c6]; decide) (by rw [c6]; decide) (by rw [c6] <;> rfl) (by decide) ?_
                refine v_aload_n 2 dX10_isPlayed_152 rfl rfl ?_
                refine v_iload_n 0 dX10_isPlayed_153 rfl rfl ?_
                refine v_iload_n 1 dX10_isPlayed_154 rfl rfl ?_
                obtain ⟨q12, eq12, hh⟩ := bnd_some hh
                refine v_callVi (t_X10_patch eq12) dX10_isPlayed_155 y_X10_patch ml_X10_350 (ci := 9) rfl rfl (e_Model) rfl rfl (Nat.le_of_ble_eq_true rfl) ⟨(Nat.le_of_ble_eq_true rfl), (Nat.le_of_ble_eq_true rfl)⟩ ⟨Nat.zero_le _, Nat.zero_le _⟩ ?_
                obtain ⟨g, hh⟩ := chk_some hh
                obtain rfl := Option.some.inj hh
                exact v_zret dX10_isPlayed_158 rfl (zb (isz_or g)).1 (Nat.zero_le _) (Nat.zero_le _) ⟨rfl, rfl⟩
              · skip
                refine sw_if hh (fun c7 hh => ?_) (fun c7 hh => ?_)
                · skip
                  refine v_tableIn (tgt := 159) dX10_isPlayed_24 (by rw [c7]; decide) (by rw [c7]; decide) (by rw [c7] <;> rfl) (by decide) ?_
                  refine v_aload_n 2 dX10_isPlayed_159 rfl rfl ?_
                  refine v_iload_n 1 dX10_isPlayed_160 rfl rfl ?_
                  obtain ⟨q13, eq13, hh⟩ := bnd_some hh
                  refine v_callVi (t_X10_arePassed eq13) dX10_isPlayed_161 y_X10_arePassed ml_X10_332 (ci := 9) rfl rfl (e_Model) rfl rfl (Nat.le_of_ble_eq_true rfl) ⟨(Nat.le_of_ble_eq_true rfl), (Nat.le_of_ble_eq_true rfl)⟩ ⟨Nat.zero_le _, Nat.zero_le _⟩ ?_
                  obtain ⟨g, hh⟩ := chk_some hh
                  obtain rfl := Option.some.inj hh
                  exact v_zret dX10_isPlayed_164 rfl (zb (isz_or g)).1 (Nat.zero_le _) (Nat.zero_le _) ⟨rfl, rfl⟩
                · skip
                  refine v_tableOut (tgt := 165) dX10_isPlayed_24 (sw_out 8 (by decide) (fun k hk => match k, hk with | 0, _ => fun h => c0 (h.trans (by decide)) | 1, _ => fun h => c1 (h.trans (by decide)) | 2, _ => fun h => c2 (h.trans (by decide)) | 3, _ => fun h => c3 (h.trans (by decide)) | 4, _ => fun h => c4 (h.trans (by decide)) | 5, _ => fun h => c5 (h.trans (by decide)) | 6, _ => fun h => c6 (h.trans (by decide)) | 7, _ => fun h => c7 (h.trans (by decide)) | k + 8, hk => absurd hk (by omega))) (by decide) ?_
                  refine v_iconst dX10_isPlayed_165 (by decide : _ = (1 : Int32)) ?_
                  obtain rfl := Option.some.inj hh
                  exact v_zret dX10_isPlayed_166 rfl (zb (by decide)).1 (Nat.zero_le _) (Nat.zero_le _) ⟨rfl, rfl⟩
def f_X10_played_b21 (N : Nat) : Nat → Int32 → Int32 → St → Option (Int32 × St)
  | 0, _, _, _ => none
  | n + 1, x1, x2, S =>
  chk (inb ((681 : Int32) * x1) 2724) (
  if (gI S 1002 0 ((681 : Int32) * x1).toNatClampNeg) ≤ x2 then
  (some ((-1 : Int32), S))
  else
  (bnd (f_X10_isPlayed N S ((((681 : Int32) * x1) + (1 : Int32)) + ((3 : Int32) * x2))) fun q4 =>
 if q4.1 = (0 : Int32) then
  (some (x2, q4.2))
  else
  (lt (x2 + (1 : Int32)) fun v5 =>
  f_X10_played_b21 N n x1 v5 q4.2)))
set_option maxRecDepth 100000 in
set_option maxHeartbeats 4000000 in
theorem tb_X10_played_21 {l : Launch} {G : v_G} {N : Nat}    {r : Int32 × St}   : ∀ (n : Nat) (x1 : Int32) (x2 : Int32) (S : St),  f_X10_played_b21 N n x1 x2 S = some r → V l G yX10_played cX10_played 3 (some .int) (v_rm 10 0 0) (QI r.1 (lay G r.2)) 0 0 21 [(0, .ref (v_B G + 291)), (1, .int x1), (2, .int x2)] [] (lay G S) := by
  intro n
  induction n with
  | zero =>
    intro x1 x2 S  hh
    rw [f_X10_played_b21] at hh
    cases hh
  | succ n ih =>
    intro x1 x2 S  hh
    rw [f_X10_played_b21] at hh
    refine v_iload_n 2 dX10_played_21 rfl rfl ?_
    refine v_aload_n 0 dX10_played_22 rfl rfl ?_
    refine r_Model_texts dX10_played_23 fl_X10_16 ?_
    refine v_sipush dX10_played_26 (by decide : _ = (681 : Int32)) ?_
    refine v_iload_n 1 dX10_played_29 rfl rfl ?_
    refine v_imul dX10_played_30 ?_
    obtain ⟨g3, hh⟩ := chk_some hh
    replace g3 := inb_in g3
    refine ld_mtexts dX10_played_31 g3 ?_
    refine v_icmp_ge (tgt := 61) dX10_played_32 (by decide) (fun c => ?_) (fun c => ?_)
    · replace hh := (if_pos c).symm.trans hh
      refine v_iconst dX10_played_61 (by decide : _ = (-1 : Int32)) ?_
      obtain rfl := Option.some.inj hh
      exact v_iret dX10_played_62 rfl (Nat.zero_le _) (Nat.zero_le _) ⟨rfl, rfl⟩
    · replace hh := (if_neg c).symm.trans hh
      refine v_aload_n 0 dX10_played_35 rfl rfl ?_
      refine v_sipush dX10_played_36 (by decide : _ = (681 : Int32)) ?_
      refine v_iload_n 1 dX10_played_39 rfl rfl ?_
      refine v_imul dX10_played_40 ?_
      refine v_iconst dX10_played_41 (by decide : _ = (1 : Int32)) ?_
      refine v_iadd dX10_played_42 ?_
      refine v_iconst dX10_played_43 (by decide : _ = (3 : Int32)) ?_
      refine v_iload_n 2 dX10_played_44 rfl rfl ?_
      refine v_imul dX10_played_45 ?_
      refine v_iadd dX10_played_46 ?_
      obtain ⟨q4, eq4, hh⟩ := bnd_some hh
      refine v_callVi (t_X10_isPlayed eq4) dX10_played_47 y_X10_isPlayed ml_X10_353 (ci := 9) rfl rfl (e_Model) rfl rfl (Nat.le_of_ble_eq_true rfl) ⟨(Nat.le_of_ble_eq_true rfl), (Nat.le_of_ble_eq_true rfl)⟩ ⟨Nat.zero_le _, Nat.zero_le _⟩ ?_
      refine v_if_ne (tgt := 55) dX10_played_50 (by decide) (fun c => ?_) (fun c => ?_)
      · replace hh := (if_neg c).symm.trans hh
        refine v_iinc (v := _ + (1 : Int32)) 2 dX10_played_55 rfl rfl (by decide) rfl ?_
        replace hh := lt_of hh
        refine v_goto (tgt := 21) dX10_played_58 (by decide) ?_
        exact v_sub [1, 2, 0] rfl (ih _ _ _ hh)
      · replace hh := (if_pos c).symm.trans hh
        refine v_iload_n 2 dX10_played_53 rfl rfl ?_
        obtain rfl := Option.some.inj hh
        exact v_iret dX10_played_54 rfl (Nat.zero_le _) (Nat.zero_le _) ⟨rfl, rfl⟩
def f_X10_played (N : Nat) (S : St) (x1 : Int32) : Option (Int32 × St) :=
  bnd (f_X10_isIn S x1 (0 : Int32) ((gI S 1000 0 2) - (1 : Int32))) fun q2 =>
 if q2 = (0 : Int32) then
  (some ((-2 : Int32), S))
  else
  (f_X10_played_b21 N N x1 (0 : Int32) S)
set_option maxRecDepth 100000 in
set_option maxHeartbeats 4000000 in
theorem t_X10_played {l : Launch} {G : v_G} {N : Nat} {S : St}   {x1 : Int32} {r : Int32 × St} (hh : f_X10_played N S x1 = some r) : v_M l G yX10_played cX10_played 3 (some .int) 10 0 0 [.ref (v_B G + 291), .int x1] (lay G S) (QI r.1 (lay G r.2)) := by
  refine v_entry (by decide) (Nat.le_of_ble_eq_true rfl) ?_
  unfold f_X10_played at hh
  show V l G yX10_played cX10_played 3 (some .int) (v_rm 10 0 0) (QI r.1 (lay G r.2)) 0 0 0 [(0, .ref (v_B G + 291)), (1, .int x1)] [] (lay G S)
  refine v_iload_n 1 dX10_played_0 rfl rfl ?_
  refine v_iconst dX10_played_1 (by decide : _ = (0 : Int32)) ?_
  refine v_aload_n 0 dX10_played_2 rfl rfl ?_
  refine r_Model_a dX10_played_3 fl_X10_7 ?_
  refine v_iconst dX10_played_6 (by decide : _ = (2 : Int32)) ?_
  refine ld_ma dX10_played_7 (inb_in (by decide)) ?_
  refine v_iconst dX10_played_8 (by decide : _ = (1 : Int32)) ?_
  refine v_isub dX10_played_9 ?_
  obtain ⟨q2, eq2, hh⟩ := bnd_some hh
  refine v_callSi (t_X10_isIn eq2) dX10_played_10 y_X10_isIn ml_X10_63 rfl rfl (Nat.le_of_ble_eq_true rfl) ⟨(Nat.le_of_ble_eq_true rfl), (Nat.le_of_ble_eq_true rfl)⟩ ⟨Nat.zero_le _, Nat.zero_le _⟩ ?_
  refine v_if_ne (tgt := 19) dX10_played_13 (by decide) (fun c => ?_) (fun c => ?_)
  · replace hh := (if_neg c).symm.trans hh
    refine v_iconst dX10_played_19 (by decide : _ = (0 : Int32)) ?_
    refine v_istore_n dX10_played_20 rfl (by decide) rfl ?_
    exact v_sub [1, 2, 0] rfl (tb_X10_played_21 N _ _ _ hh)
  · replace hh := (if_pos c).symm.trans hh
    refine v_bipush dX10_played_16 (by decide : _ = (-2 : Int32)) ?_
    obtain rfl := Option.some.inj hh
    exact v_iret dX10_played_18 rfl (Nat.zero_le _) (Nat.zero_le _) ⟨rfl, rfl⟩
def f_X10_happens_b87 (N : Nat) (s0 : Int32) (s1 : Int32) (s2 : Int32) (S : St) : Option (St) :=
  bnd (f_X10_strokeNow N S s2 s1 s0) fun q5 =>
 some q5.2
set_option maxRecDepth 100000 in
set_option maxHeartbeats 4000000 in
theorem tb_X10_happens_87 {l : Launch} {G : v_G} {N : Nat}    {r : St}   : ∀ (s0 : Int32) (s1 : Int32) (s2 : Int32) (S : St),  f_X10_happens_b87 N s0 s1 s2 S = some r → V l G yX10_happens cX10_happens 3 (none) (v_rm 8 0 0) (QV (lay G r)) 0 0 87 [] [.int s0, .int s1, .int s2, .ref (v_B G + 291)] (lay G S) := by
  intro s0 s1 s2 S  hh
  unfold f_X10_happens_b87 at hh
  obtain ⟨q5, eq5, hh⟩ := bnd_some hh
  refine v_callVi (t_X10_strokeNow eq5) dX10_happens_87 y_X10_strokeNow ml_X10_307 (ci := 9) rfl rfl (e_Model) rfl rfl (Nat.le_of_ble_eq_true rfl) ⟨(Nat.le_of_ble_eq_true rfl), (Nat.le_of_ble_eq_true rfl)⟩ ⟨Nat.zero_le _, Nat.zero_le _⟩ ?_
  refine v_pop dX10_happens_90 rfl ?_
  refine v_goto (tgt := 146) dX10_happens_91 (by decide) ?_
  obtain rfl := Option.some.inj hh
  exact v_vret dX10_happens_146 rfl (Nat.zero_le _) (Nat.zero_le _) ⟨rfl, rfl⟩
def f_X10_happens_b44 (N : Nat) (x1 : Int32) (x2 : Int32) (S : St) : Option (St) :=
  if (gI S 1000 0 0) ≤ (0 : Int32) then
  (some S)
  else
  (chk (inb ((11 : Int32) + x2) 3015) (
  if (gI S 1000 0 ((11 : Int32) + x2).toNatClampNeg) ≤ (0 : Int32) then
  (some S)
  else
  (chk (nz (gI S 1000 0 0)) (
  if (x1 - x1 / (4 : Int32) * (4 : Int32)) ≤ (1 : Int32) then
  (f_X10_happens_b87 N (0 : Int32) x2 (x1 - x1 / (gI S 1000 0 0) * (gI S 1000 0 0)) S)
  else
  (f_X10_happens_b87 N (1 : Int32) x2 (x1 - x1 / (gI S 1000 0 0) * (gI S 1000 0 0)) S)))))
set_option maxRecDepth 100000 in
set_option maxHeartbeats 4000000 in
theorem tb_X10_happens_44 {l : Launch} {G : v_G} {N : Nat}    {r : St}   : ∀ (x1 : Int32) (x2 : Int32) (S : St),  f_X10_happens_b44 N x1 x2 S = some r → V l G yX10_happens cX10_happens 3 (none) (v_rm 8 0 0) (QV (lay G r)) 0 0 44 [(0, .ref (v_B G + 291)), (1, .int x1), (2, .int x2)] [] (lay G S) := by
  intro x1 x2 S  hh
  unfold f_X10_happens_b44 at hh
  refine v_aload_n 0 dX10_happens_44 rfl rfl ?_
  refine r_Model_a dX10_happens_45 fl_X10_7 ?_
  refine v_iconst dX10_happens_48 (by decide : _ = (0 : Int32)) ?_
  refine ld_ma dX10_happens_49 (inb_in (by decide)) ?_
  refine v_if_le (tgt := 146) dX10_happens_50 (by decide) (fun c => ?_) (fun c => ?_)
  · replace hh := (if_pos c).symm.trans hh
    obtain rfl := Option.some.inj hh
    exact v_vret dX10_happens_146 rfl (Nat.zero_le _) (Nat.zero_le _) ⟨rfl, rfl⟩
  · replace hh := (if_neg c).symm.trans hh
    refine v_aload_n 0 dX10_happens_53 rfl rfl ?_
    refine r_Model_a dX10_happens_54 fl_X10_7 ?_
    refine v_bipush dX10_happens_57 (by decide : _ = (11 : Int32)) ?_
    refine v_iload_n 2 dX10_happens_59 rfl rfl ?_
    refine v_iadd dX10_happens_60 ?_
    obtain ⟨g3, hh⟩ := chk_some hh
    replace g3 := inb_in g3
    refine ld_ma dX10_happens_61 g3 ?_
    refine v_if_le (tgt := 146) dX10_happens_62 (by decide) (fun c => ?_) (fun c => ?_)
    · replace hh := (if_pos c).symm.trans hh
      obtain rfl := Option.some.inj hh
      exact v_vret dX10_happens_146 rfl (Nat.zero_le _) (Nat.zero_le _) ⟨rfl, rfl⟩
    · replace hh := (if_neg c).symm.trans hh
      refine v_aload_n 0 dX10_happens_65 rfl rfl ?_
      refine v_iload_n 1 dX10_happens_66 rfl rfl ?_
      refine v_aload_n 0 dX10_happens_67 rfl rfl ?_
      refine r_Model_a dX10_happens_68 fl_X10_7 ?_
      refine v_iconst dX10_happens_71 (by decide : _ = (0 : Int32)) ?_
      refine ld_ma dX10_happens_72 (inb_in (by decide)) ?_
      obtain ⟨g, hh⟩ := chk_some hh
      refine v_irem dX10_happens_73 (nz_ne g) ?_
      refine v_iload_n 2 dX10_happens_74 rfl rfl ?_
      refine v_iload_n 1 dX10_happens_75 rfl rfl ?_
      refine v_iconst dX10_happens_76 (by decide : _ = (4 : Int32)) ?_
      refine v_irem dX10_happens_77 (by decide) ?_
      refine v_iconst dX10_happens_78 (by decide : _ = (1 : Int32)) ?_
      refine v_icmp_le (tgt := 86) dX10_happens_79 (by decide) (fun c => ?_) (fun c => ?_)
      · replace hh := (if_pos c).symm.trans hh
        refine v_iconst dX10_happens_86 (by decide : _ = (0 : Int32)) ?_
        exact v_sub [] rfl (tb_X10_happens_87 _ _ _ _ hh)
      · replace hh := (if_neg c).symm.trans hh
        refine v_iconst dX10_happens_82 (by decide : _ = (1 : Int32)) ?_
        refine v_goto (tgt := 87) dX10_happens_83 (by decide) ?_
        exact v_sub [] rfl (tb_X10_happens_87 _ _ _ _ hh)
def f_X10_happens (N : Nat) (S : St) (x1 : Int32) : Option (St) :=
  lt ((x1 / (6 : Int32)) - (x1 / (6 : Int32)) / (12 : Int32) * (12 : Int32)) fun v1 =>
  if (x1 - x1 / (6 : Int32) * (6 : Int32)) = (0 : Int32) then
  (f_X10_happens_b44 N x1 v1 S)
  else if (x1 - x1 / (6 : Int32) * (6 : Int32)) = (1 : Int32) then
  (f_X10_happens_b44 N x1 v1 S)
  else if (x1 - x1 / (6 : Int32) * (6 : Int32)) = (2 : Int32) then
  (bnd (f_X10_trimNow S ) fun q6 =>
 some q6)
  else if (x1 - x1 / (6 : Int32) * (6 : Int32)) = (3 : Int32) then
  (bnd (f_X10_canPatch S v1 ((1 : Int32) + (x1 - x1 / (9 : Int32) * (9 : Int32)))) fun q7 =>
 if q7 = (0 : Int32) then
  (some S)
  else
  (bnd (f_X10_patchNow S v1 ((1 : Int32) + (x1 - x1 / (9 : Int32) * (9 : Int32)))) fun q8 =>
 some q8))
  else (if (9999 : Int32) ≤ (gI S 1000 0 6) then
  (some S)
  else
  (bnd (f_X10_pass N S ) fun q10 =>
 some q10))
set_option maxRecDepth 100000 in
set_option maxHeartbeats 4000000 in
theorem t_X10_happens {l : Launch} {G : v_G} {N : Nat} {S : St}   {x1 : Int32} {r : St} (hh : f_X10_happens N S x1 = some r) : v_M l G yX10_happens cX10_happens 3 (none) 8 0 0 [.ref (v_B G + 291), .int x1] (lay G S) (QV (lay G r)) := by
  refine v_entry (by decide) (Nat.le_of_ble_eq_true rfl) ?_
  unfold f_X10_happens at hh
  show V l G yX10_happens cX10_happens 3 (none) (v_rm 8 0 0) (QV (lay G r)) 0 0 0 [(0, .ref (v_B G + 291)), (1, .int x1)] [] (lay G S)
  refine v_iload_n 1 dX10_happens_0 rfl rfl ?_
  refine v_bipush dX10_happens_1 (by decide : _ = (6 : Int32)) ?_
  refine v_idiv dX10_happens_3 (by decide) ?_
  refine v_bipush dX10_happens_4 (by decide : _ = (12 : Int32)) ?_
  refine v_irem dX10_happens_6 (by decide) ?_
  refine v_istore_n dX10_happens_7 rfl (by decide) rfl ?_
  replace hh := lt_of hh
  refine v_iload_n 2 dX10_happens_8 rfl rfl ?_
  refine v_bipush dX10_happens_9 (by decide : _ = (6 : Int32)) ?_
  refine v_irem dX10_happens_11 (by decide) ?_
  refine sw_if hh (fun c0 hh => ?_) (fun c0 hh => ?_)
  · skip
    refine v_tableIn (tgt := 44) dX10_happens_12 (by rw [c0]; decide) (by rw [c0]; decide) (by rw [c0] <;> rfl) (by decide) ?_
    exact v_sub [1, 2, 0] rfl (tb_X10_happens_44 _ _ _ hh)
  · skip
    refine sw_if hh (fun c1 hh => ?_) (fun c1 hh => ?_)
    · skip
      refine v_tableIn (tgt := 44) dX10_happens_12 (by rw [c1]; decide) (by rw [c1]; decide) (by rw [c1] <;> rfl) (by decide) ?_
      exact v_sub [1, 2, 0] rfl (tb_X10_happens_44 _ _ _ hh)
    · skip
      refine sw_if hh (fun c2 hh => ?_) (fun c2 hh => ?_)
      · skip
        refine v_tableIn (tgt := 94) dX10_happens_12 (by rw [c2]; decide) (by rw [c2]; decide) (by rw [c2] <;> rfl) (by decide) ?_
        refine v_aload_n 1 dX10_happens_94 rfl rfl ?_
        obtain ⟨q6, eq6, hh⟩ := bnd_some hh
        refine v_callVv (t_X10_trimNow eq6) dX10_happens_95 y_X10_trimNow ml_X10_320 (ci := 9) rfl rfl (e_Model) rfl rfl (Nat.le_of_ble_eq_true rfl) ⟨(Nat.le_of_ble_eq_true rfl), (Nat.le_of_ble_eq_true rfl)⟩ ⟨Nat.zero_le _, Nat.zero_le _⟩ ?_
        refine v_goto (tgt := 146) dX10_happens_98 (by decide) ?_
        obtain rfl := Option.some.inj hh
        exact v_vret dX10_happens_146 rfl (Nat.zero_le _) (Nat.zero_le _) ⟨rfl, rfl⟩
      · skip
        refine sw_if hh (fun c3 hh => ?_) (fun c3 hh => ?_)
        · skip
          refine v_tableIn (tgt := 101) dX10_happens_12 (by rw [c3]; decide) (by rw [c3]; decide) (by rw [c3] <;> rfl) (by decide) ?_
          refine v_aload_n 1 dX10_happens_101 rfl rfl ?_
          refine v_iload_n 0 dX10_happens_102 rfl rfl ?_
          refine v_iconst dX10_happens_103 (by decide : _ = (1 : Int32)) ?_
          refine v_iload_n 2 dX10_happens_104 rfl rfl ?_
          refine v_bipush dX10_happens_105 (by decide : _ = (9 : Int32)) ?_
          refine v_irem dX10_happens_107 (by decide) ?_
          refine v_iadd dX10_happens_108 ?_
          obtain ⟨q7, eq7, hh⟩ := bnd_some hh
          refine v_callVi (t_X10_canPatch eq7) dX10_happens_109 y_X10_canPatch ml_X10_323 (ci := 9) rfl rfl (e_Model) rfl rfl (Nat.le_of_ble_eq_true rfl) ⟨(Nat.le_of_ble_eq_true rfl), (Nat.le_of_ble_eq_true rfl)⟩ ⟨Nat.zero_le _, Nat.zero_le _⟩ ?_
          refine v_if_eq (tgt := 146) dX10_happens_112 (by decide) (fun c => ?_) (fun c => ?_)
          · replace hh := (if_pos c).symm.trans hh
            obtain rfl := Option.some.inj hh
            exact v_vret dX10_happens_146 rfl (Nat.zero_le _) (Nat.zero_le _) ⟨rfl, rfl⟩
          · replace hh := (if_neg c).symm.trans hh
            refine v_aload_n 1 dX10_happens_115 rfl rfl ?_
            refine v_iload_n 0 dX10_happens_116 rfl rfl ?_
            refine v_iconst dX10_happens_117 (by decide : _ = (1 : Int32)) ?_
            refine v_iload_n 2 dX10_happens_118 rfl rfl ?_
            refine v_bipush dX10_happens_119 (by decide : _ = (9 : Int32)) ?_
            refine v_irem dX10_happens_121 (by decide) ?_
            refine v_iadd dX10_happens_122 ?_
            obtain ⟨q8, eq8, hh⟩ := bnd_some hh
            refine v_callVv (t_X10_patchNow eq8) dX10_happens_123 y_X10_patchNow ml_X10_326 (ci := 9) rfl rfl (e_Model) rfl rfl (Nat.le_of_ble_eq_true rfl) ⟨(Nat.le_of_ble_eq_true rfl), (Nat.le_of_ble_eq_true rfl)⟩ ⟨Nat.zero_le _, Nat.zero_le _⟩ ?_
            refine v_goto (tgt := 146) dX10_happens_126 (by decide) ?_
            obtain rfl := Option.some.inj hh
            exact v_vret dX10_happens_146 rfl (Nat.zero_le _) (Nat.zero_le _) ⟨rfl, rfl⟩
        · skip
          refine v_tableOut (tgt := 129) dX10_happens_12 (sw_out 4 (by decide) (fun k hk => match k, hk with | 0, _ => fun h => c0 (h.trans (by decide)) | 1, _ => fun h => c1 (h.trans (by decide)) | 2, _ => fun h => c2 (h.trans (by decide)) | 3, _ => fun h => c3 (h.trans (by decide)) | k + 4, hk => absurd hk (by omega))) (by decide) ?_
          refine v_aload_n 1 dX10_happens_129 rfl rfl ?_
          refine r_Model_a dX10_happens_130 fl_X10_7 ?_
          refine v_bipush dX10_happens_133 (by decide : _ = (6 : Int32)) ?_
          refine ld_ma dX10_happens_135 (inb_in (by decide)) ?_
          refine v_sipush dX10_happens_136 (by decide : _ = (9999 : Int32)) ?_
          refine v_icmp_ge (tgt := 146) dX10_happens_139 (by decide) (fun c => ?_) (fun c => ?_)
          · replace hh := (if_pos c).symm.trans hh
            obtain rfl := Option.some.inj hh
            exact v_vret dX10_happens_146 rfl (Nat.zero_le _) (Nat.zero_le _) ⟨rfl, rfl⟩
          · replace hh := (if_neg c).symm.trans hh
            refine v_aload_n 1 dX10_happens_142 rfl rfl ?_
            obtain ⟨q10, eq10, hh⟩ := bnd_some hh
            refine v_callVv (t_X10_pass eq10) dX10_happens_143 y_X10_pass ml_X10_329 (ci := 9) rfl rfl (e_Model) rfl rfl (Nat.le_of_ble_eq_true rfl) ⟨(Nat.le_of_ble_eq_true rfl), (Nat.le_of_ble_eq_true rfl)⟩ ⟨Nat.zero_le _, Nat.zero_le _⟩ ?_
            obtain rfl := Option.some.inj hh
            exact v_vret dX10_happens_146 rfl (Nat.zero_le _) (Nat.zero_le _) ⟨rfl, rfl⟩
def f_X10_years_b43 (N : Nat) : Nat → Int32 → Int32 → St → Option (Int32 × St)
  | 0, _, _, _ => none
  | n + 1, x2, x3, S =>
  if x2 ≤ x3 then
  (some (gI S 1000 0 6, S))
  else
  (lt (gI S 1000 0 7) fun v8 =>
  bnd (f_X10_drawnBy S (1 : Int32)) fun q9 =>
 if q9.1 = (0 : Int32) then
  (bnd (f_X10_happens N q9.2 v8) fun q11 =>
 lt (x3 + (1 : Int32)) fun v12 =>
  f_X10_years_b43 N n x2 v12 q11)
  else
  (lt (x3 + (1 : Int32)) fun v10 =>
  f_X10_years_b43 N n x2 v10 q9.2))
set_option maxRecDepth 100000 in
set_option maxHeartbeats 4000000 in
theorem tb_X10_years_43 {l : Launch} {G : v_G} {N : Nat}    {r : Int32 × St}   : ∀ (n : Nat) (x2 : Int32) (x3 : Int32) (S : St),  f_X10_years_b43 N n x2 x3 S = some r → V l G yX10_years cX10_years 5 (some .int) (v_rm 9 0 0) (QI r.1 (lay G r.2)) 0 0 43 [(0, .ref (v_B G + 291)), (2, .int x2), (3, .int x3)] [] (lay G S) := by
  intro n
  induction n with
  | zero =>
    intro x2 x3 S  hh
    rw [f_X10_years_b43] at hh
    cases hh
  | succ n ih =>
    intro x2 x3 S  hh
    rw [f_X10_years_b43] at hh
    refine v_iload_n 2 dX10_years_43 rfl rfl ?_
    refine v_iload_n 1 dX10_years_44 rfl rfl ?_
    refine v_icmp_ge (tgt := 77) dX10_years_45 (by decide) (fun c => ?_) (fun c => ?_)
    · replace hh := (if_pos c).symm.trans hh
      refine v_aload_n 0 dX10_years_77 rfl rfl ?_
      refine r_Model_a dX10_years_78 fl_X10_7 ?_
      refine v_bipush dX10_years_81 (by decide : _ = (6 : Int32)) ?_
      refine ld_ma dX10_years_83 (inb_in (by decide)) ?_
      obtain rfl := Option.some.inj hh
      exact v_iret dX10_years_84 rfl (Nat.zero_le _) (Nat.zero_le _) ⟨rfl, rfl⟩
    · replace hh := (if_neg c).symm.trans hh
      refine v_aload_n 0 dX10_years_48 rfl rfl ?_
      refine r_Model_a dX10_years_49 fl_X10_7 ?_
      refine v_bipush dX10_years_52 (by decide : _ = (7 : Int32)) ?_
      refine ld_ma dX10_years_54 (inb_in (by decide)) ?_
      refine v_istore dX10_years_55 (by decide) rfl ?_
      replace hh := lt_of hh
      refine v_aload_n 1 dX10_years_57 rfl rfl ?_
      refine v_iconst dX10_years_58 (by decide : _ = (1 : Int32)) ?_
      obtain ⟨q9, eq9, hh⟩ := bnd_some hh
      refine v_callVi (t_X10_drawnBy eq9) dX10_years_59 y_X10_drawnBy ml_X10_304 (ci := 9) rfl rfl (e_Model) rfl rfl (Nat.le_of_ble_eq_true rfl) ⟨(Nat.le_of_ble_eq_true rfl), (Nat.le_of_ble_eq_true rfl)⟩ ⟨Nat.zero_le _, Nat.zero_le _⟩ ?_
      refine v_if_ne (tgt := 71) dX10_years_62 (by decide) (fun c => ?_) (fun c => ?_)
      · replace hh := (if_neg c).symm.trans hh
        refine v_iinc (v := _ + (1 : Int32)) 3 dX10_years_71 rfl rfl (by decide) rfl ?_
        replace hh := lt_of hh
        refine v_goto (tgt := 43) dX10_years_74 (by decide) ?_
        exact v_sub [2, 3, 0] rfl (ih _ _ _ hh)
      · replace hh := (if_pos c).symm.trans hh
        refine v_aload_n 1 dX10_years_65 rfl rfl ?_
        refine v_iload 0 dX10_years_66 rfl ?_
        obtain ⟨q11, eq11, hh⟩ := bnd_some hh
        refine v_callVv (t_X10_happens eq11) dX10_years_68 y_X10_happens ml_X10_356 (ci := 9) rfl rfl (e_Model) rfl rfl (Nat.le_of_ble_eq_true rfl) ⟨(Nat.le_of_ble_eq_true rfl), (Nat.le_of_ble_eq_true rfl)⟩ ⟨Nat.zero_le _, Nat.zero_le _⟩ ?_
        refine v_iinc (v := _ + (1 : Int32)) 3 dX10_years_71 rfl rfl (by decide) rfl ?_
        replace hh := lt_of hh
        refine v_goto (tgt := 43) dX10_years_74 (by decide) ?_
        exact v_sub [2, 3, 0] rfl (ih _ _ _ hh)
def f_X10_years (N : Nat) (S : St) (x1 : Int32) (x2 : Int32) : Option (Int32 × St) :=
  bnd (f_X10_isIn S x1 (0 : Int32) (9999 : Int32)) fun q1 =>
 if q1 = (0 : Int32) then
  (some ((-1 : Int32), S))
  else
  (bnd (f_X10_isIn S x2 (1 : Int32) (40 : Int32)) fun q2 =>
 if q2 = (0 : Int32) then
  (some ((-1 : Int32), S))
  else
  (bnd (f_X10_keep N S ) fun q3 =>
 lt (sI q3 1000 0 7 ((x1 * (2 : Int32)) + (281 : Int32))) fun S5 =>
  f_X10_years_b43 N N x2 (0 : Int32) S5))
set_option maxRecDepth 100000 in
set_option maxHeartbeats 4000000 in
theorem t_X10_years {l : Launch} {G : v_G} {N : Nat} {S : St}   {x1 : Int32} {x2 : Int32} {r : Int32 × St} (hh : f_X10_years N S x1 x2 = some r) : v_M l G yX10_years cX10_years 5 (some .int) 9 0 0 [.ref (v_B G + 291), .int x1, .int x2] (lay G S) (QI r.1 (lay G r.2)) := by
  refine v_entry (by decide) (Nat.le_of_ble_eq_true rfl) ?_
  unfold f_X10_years at hh
  show V l G yX10_years cX10_years 5 (some .int) (v_rm 9 0 0) (QI r.1 (lay G r.2)) 0 0 0 [(0, .ref (v_B G + 291)), (1, .int x1), (2, .int x2)] [] (lay G S)
  refine v_iload_n 1 dX10_years_0 rfl rfl ?_
  refine v_iconst dX10_years_1 (by decide : _ = (0 : Int32)) ?_
  refine v_sipush dX10_years_2 (by decide : _ = (9999 : Int32)) ?_
  obtain ⟨q1, eq1, hh⟩ := bnd_some hh
  refine v_callSi (t_X10_isIn eq1) dX10_years_5 y_X10_isIn ml_X10_63 rfl rfl (Nat.le_of_ble_eq_true rfl) ⟨(Nat.le_of_ble_eq_true rfl), (Nat.le_of_ble_eq_true rfl)⟩ ⟨Nat.zero_le _, Nat.zero_le _⟩ ?_
  refine v_if_eq (tgt := 21) dX10_years_8 (by decide) (fun c => ?_) (fun c => ?_)
  · replace hh := (if_pos c).symm.trans hh
    refine v_iconst dX10_years_21 (by decide : _ = (-1 : Int32)) ?_
    obtain rfl := Option.some.inj hh
    exact v_iret dX10_years_22 rfl (Nat.zero_le _) (Nat.zero_le _) ⟨rfl, rfl⟩
  · replace hh := (if_neg c).symm.trans hh
    refine v_iload_n 2 dX10_years_11 rfl rfl ?_
    refine v_iconst dX10_years_12 (by decide : _ = (1 : Int32)) ?_
    refine v_bipush dX10_years_13 (by decide : _ = (40 : Int32)) ?_
    obtain ⟨q2, eq2, hh⟩ := bnd_some hh
    refine v_callSi (t_X10_isIn eq2) dX10_years_15 y_X10_isIn ml_X10_63 rfl rfl (Nat.le_of_ble_eq_true rfl) ⟨(Nat.le_of_ble_eq_true rfl), (Nat.le_of_ble_eq_true rfl)⟩ ⟨Nat.zero_le _, Nat.zero_le _⟩ ?_
    refine v_if_ne (tgt := 23) dX10_years_18 (by decide) (fun c => ?_) (fun c => ?_)
    · replace hh := (if_neg c).symm.trans hh
      refine v_aload_n 0 dX10_years_23 rfl rfl ?_
      obtain ⟨q3, eq3, hh⟩ := bnd_some hh
      refine v_callVv (t_X10_keep eq3) dX10_years_24 y_X10_keep ml_X10_317 (ci := 9) rfl rfl (e_Model) rfl rfl (Nat.le_of_ble_eq_true rfl) ⟨(Nat.le_of_ble_eq_true rfl), (Nat.le_of_ble_eq_true rfl)⟩ ⟨Nat.zero_le _, Nat.zero_le _⟩ ?_
      refine v_aload_n 0 dX10_years_27 rfl rfl ?_
      refine r_Model_a dX10_years_28 fl_X10_7 ?_
      refine v_bipush dX10_years_31 (by decide : _ = (7 : Int32)) ?_
      refine v_iload_n 1 dX10_years_33 rfl rfl ?_
      refine v_iconst dX10_years_34 (by decide : _ = (2 : Int32)) ?_
      refine v_imul dX10_years_35 ?_
      refine v_sipush dX10_years_36 (by decide : _ = (281 : Int32)) ?_
      refine v_iadd dX10_years_39 ?_
      refine st_ma dX10_years_40 (inb_in (by decide)) ?_
      replace hh := lt_of hh
      refine v_iconst dX10_years_41 (by decide : _ = (0 : Int32)) ?_
      refine v_istore_n dX10_years_42 rfl (by decide) rfl ?_
      exact v_sub [1, 3, 0] rfl (tb_X10_years_43 N _ _ _ hh)
    · replace hh := (if_pos c).symm.trans hh
      refine v_iconst dX10_years_21 (by decide : _ = (-1 : Int32)) ?_
      obtain rfl := Option.some.inj hh
      exact v_iret dX10_years_22 rfl (Nat.zero_le _) (Nat.zero_le _) ⟨rfl, rfl⟩
def f_X10_of (N : Nat) (S : St) (x1 : Int32) (x2 : Int32) : Option (Int32 × St) :=
  bnd (f_X10_isCell S x1) fun q1 =>
 if q1 = (0 : Int32) then
  (some ((-1 : Int32), S))
  else
  (if x2 = (0 : Int32) then
  (chk (inb ((11 : Int32) + x1) 3015) (
  some (gI S 1000 0 ((11 : Int32) + x1).toNatClampNeg, S)))
  else
  (if x2 = (1 : Int32) then
  (chk (inb ((23 : Int32) + x1) 3015) (
  some (gI S 1000 0 ((23 : Int32) + x1).toNatClampNeg, S)))
  else
  (if x2 = (2 : Int32) then
  (bnd (f_X10_townsIn N S x1) fun q3 =>
 some (q3, S))
  else
  (if x2 = (3 : Int32) then
  (bnd (f_X10_tearsOf N S x1) fun q2 =>
 some (q2.1, q2.2))
  else
  (some ((-1 : Int32), S))))))
set_option maxRecDepth 100000 in
set_option maxHeartbeats 4000000 in
theorem t_X10_of {l : Launch} {G : v_G} {N : Nat} {S : St}   {x1 : Int32} {x2 : Int32} {r : Int32 × St} (hh : f_X10_of N S x1 x2 = some r) : v_M l G yX10_of cX10_of 3 (some .int) 6 0 0 [.ref (v_B G + 291), .int x1, .int x2] (lay G S) (QI r.1 (lay G r.2)) := by
  refine v_entry (by decide) (Nat.le_of_ble_eq_true rfl) ?_
  unfold f_X10_of at hh
  show V l G yX10_of cX10_of 3 (some .int) (v_rm 6 0 0) (QI r.1 (lay G r.2)) 0 0 0 [(0, .ref (v_B G + 291)), (1, .int x1), (2, .int x2)] [] (lay G S)
  refine v_iload_n 1 dX10_of_0 rfl rfl ?_
  obtain ⟨q1, eq1, hh⟩ := bnd_some hh
  refine v_callSi (t_X10_isCell eq1) dX10_of_1 y_X10_isCell ml_X10_67 rfl rfl (Nat.le_of_ble_eq_true rfl) ⟨(Nat.le_of_ble_eq_true rfl), (Nat.le_of_ble_eq_true rfl)⟩ ⟨Nat.zero_le _, Nat.zero_le _⟩ ?_
  refine v_if_ne (tgt := 9) dX10_of_4 (by decide) (fun c => ?_) (fun c => ?_)
  · replace hh := (if_neg c).symm.trans hh
    refine v_iload_n 2 dX10_of_9 rfl rfl ?_
    refine v_if_ne (tgt := 25) dX10_of_10 (by decide) (fun c => ?_) (fun c => ?_)
    · replace hh := (if_neg c).symm.trans hh
      refine v_iload_n 2 dX10_of_25 rfl rfl ?_
      refine v_iconst dX10_of_26 (by decide : _ = (1 : Int32)) ?_
      refine v_icmp_ne (tgt := 42) dX10_of_27 (by decide) (fun c => ?_) (fun c => ?_)
      · replace hh := (if_neg c).symm.trans hh
        refine v_iload_n 2 dX10_of_42 rfl rfl ?_
        refine v_iconst dX10_of_43 (by decide : _ = (2 : Int32)) ?_
        refine v_icmp_ne (tgt := 55) dX10_of_44 (by decide) (fun c => ?_) (fun c => ?_)
        · replace hh := (if_neg c).symm.trans hh
          refine v_iload_n 2 dX10_of_55 rfl rfl ?_
          refine v_iconst dX10_of_56 (by decide : _ = (3 : Int32)) ?_
          refine v_icmp_ne (tgt := 68) dX10_of_57 (by decide) (fun c => ?_) (fun c => ?_)
          · replace hh := (if_neg c).symm.trans hh
            refine v_iconst dX10_of_68 (by decide : _ = (-1 : Int32)) ?_
            obtain rfl := Option.some.inj hh
            exact v_iret dX10_of_69 rfl (Nat.zero_le _) (Nat.zero_le _) ⟨rfl, rfl⟩
          · replace hh := (if_pos c).symm.trans hh
            refine v_aload_n 0 dX10_of_60 rfl rfl ?_
            refine v_iload_n 1 dX10_of_61 rfl rfl ?_
            obtain ⟨q2, eq2, hh⟩ := bnd_some hh
            refine v_callVi (t_X10_tearsOf eq2) dX10_of_62 y_X10_tearsOf ml_X10_294 (ci := 9) rfl rfl (e_Model) rfl rfl (Nat.le_of_ble_eq_true rfl) ⟨(Nat.le_of_ble_eq_true rfl), (Nat.le_of_ble_eq_true rfl)⟩ ⟨Nat.zero_le _, Nat.zero_le _⟩ ?_
            refine v_goto (tgt := 69) dX10_of_65 (by decide) ?_
            obtain rfl := Option.some.inj hh
            exact v_iret dX10_of_69 rfl (Nat.zero_le _) (Nat.zero_le _) ⟨rfl, rfl⟩
        · replace hh := (if_pos c).symm.trans hh
          refine v_aload_n 0 dX10_of_47 rfl rfl ?_
          refine v_iload_n 1 dX10_of_48 rfl rfl ?_
          obtain ⟨q3, eq3, hh⟩ := bnd_some hh
          refine v_callVi (t_X10_townsIn eq3) dX10_of_49 y_X10_townsIn ml_X10_359 (ci := 9) rfl rfl (e_Model) rfl rfl (Nat.le_of_ble_eq_true rfl) ⟨(Nat.le_of_ble_eq_true rfl), (Nat.le_of_ble_eq_true rfl)⟩ ⟨Nat.zero_le _, Nat.zero_le _⟩ ?_
          refine v_goto (tgt := 69) dX10_of_52 (by decide) ?_
          obtain rfl := Option.some.inj hh
          exact v_iret dX10_of_69 rfl (Nat.zero_le _) (Nat.zero_le _) ⟨rfl, rfl⟩
      · replace hh := (if_pos c).symm.trans hh
        refine v_aload_n 0 dX10_of_30 rfl rfl ?_
        refine r_Model_a dX10_of_31 fl_X10_7 ?_
        refine v_bipush dX10_of_34 (by decide : _ = (23 : Int32)) ?_
        refine v_iload_n 1 dX10_of_36 rfl rfl ?_
        refine v_iadd dX10_of_37 ?_
        obtain ⟨g4, hh⟩ := chk_some hh
        replace g4 := inb_in g4
        refine ld_ma dX10_of_38 g4 ?_
        refine v_goto (tgt := 69) dX10_of_39 (by decide) ?_
        obtain rfl := Option.some.inj hh
        exact v_iret dX10_of_69 rfl (Nat.zero_le _) (Nat.zero_le _) ⟨rfl, rfl⟩
    · replace hh := (if_pos c).symm.trans hh
      refine v_aload_n 0 dX10_of_13 rfl rfl ?_
      refine r_Model_a dX10_of_14 fl_X10_7 ?_
      refine v_bipush dX10_of_17 (by decide : _ = (11 : Int32)) ?_
      refine v_iload_n 1 dX10_of_19 rfl rfl ?_
      refine v_iadd dX10_of_20 ?_
      obtain ⟨g5, hh⟩ := chk_some hh
      replace g5 := inb_in g5
      refine ld_ma dX10_of_21 g5 ?_
      refine v_goto (tgt := 69) dX10_of_22 (by decide) ?_
      obtain rfl := Option.some.inj hh
      exact v_iret dX10_of_69 rfl (Nat.zero_le _) (Nat.zero_le _) ⟨rfl, rfl⟩
  · replace hh := (if_pos c).symm.trans hh
    refine v_iconst dX10_of_7 (by decide : _ = (-1 : Int32)) ?_
    obtain rfl := Option.some.inj hh
    exact v_iret dX10_of_8 rfl (Nat.zero_le _) (Nat.zero_le _) ⟨rfl, rfl⟩
def f_X10_ofTown  (S : St) (x1 : Int32) : Option (Int32) :=
  bnd (f_X10_isIn S x1 (0 : Int32) ((gI S 1000 0 1) - (1 : Int32))) fun q2 =>
 if q2 = (0 : Int32) then
  (some (-2 : Int32))
  else
  (chk (inb ((35 : Int32) + x1) 3015) (
  some (gI S 1000 0 ((35 : Int32) + x1).toNatClampNeg)))
set_option maxRecDepth 100000 in
set_option maxHeartbeats 4000000 in
theorem t_X10_ofTown {l : Launch} {G : v_G} {S : St}   {x1 : Int32} {r : Int32} (hh : f_X10_ofTown  S x1 = some r) : v_M l G yX10_ofTown cX10_ofTown 2 (some .int) 1 0 0 [.ref (v_B G + 291), .int x1] (lay G S) (QI r (lay G S)) := by
  refine v_entry (by decide) (Nat.le_of_ble_eq_true rfl) ?_
  unfold f_X10_ofTown at hh
  show V l G yX10_ofTown cX10_ofTown 2 (some .int) (v_rm 1 0 0) (QI r (lay G S)) 0 0 0 [(0, .ref (v_B G + 291)), (1, .int x1)] [] (lay G S)
  refine v_iload_n 1 dX10_ofTown_0 rfl rfl ?_
  refine v_iconst dX10_ofTown_1 (by decide : _ = (0 : Int32)) ?_
  refine v_aload_n 0 dX10_ofTown_2 rfl rfl ?_
  refine r_Model_a dX10_ofTown_3 fl_X10_7 ?_
  refine v_iconst dX10_ofTown_6 (by decide : _ = (1 : Int32)) ?_
  refine ld_ma dX10_ofTown_7 (inb_in (by decide)) ?_
  refine v_iconst dX10_ofTown_8 (by decide : _ = (1 : Int32)) ?_
  refine v_isub dX10_ofTown_9 ?_
  obtain ⟨q2, eq2, hh⟩ := bnd_some hh
  refine v_callSi (t_X10_isIn eq2) dX10_ofTown_10 y_X10_isIn ml_X10_63 rfl rfl (Nat.le_of_ble_eq_true rfl) ⟨(Nat.le_of_ble_eq_true rfl), (Nat.le_of_ble_eq_true rfl)⟩ ⟨Nat.zero_le _, Nat.zero_le _⟩ ?_
  refine v_if_eq (tgt := 28) dX10_ofTown_13 (by decide) (fun c => ?_) (fun c => ?_)
  · replace hh := (if_pos c).symm.trans hh
    refine v_bipush dX10_ofTown_28 (by decide : _ = (-2 : Int32)) ?_
    obtain rfl := Option.some.inj hh
    exact v_iret dX10_ofTown_30 rfl (Nat.zero_le _) (Nat.zero_le _) ⟨rfl, rfl⟩
  · replace hh := (if_neg c).symm.trans hh
    refine v_aload_n 0 dX10_ofTown_16 rfl rfl ?_
    refine r_Model_a dX10_ofTown_17 fl_X10_7 ?_
    refine v_bipush dX10_ofTown_20 (by decide : _ = (35 : Int32)) ?_
    refine v_iload_n 1 dX10_ofTown_22 rfl rfl ?_
    refine v_iadd dX10_ofTown_23 ?_
    obtain ⟨g3, hh⟩ := chk_some hh
    replace g3 := inb_in g3
    refine ld_ma dX10_ofTown_24 g3 ?_
    refine v_goto (tgt := 30) dX10_ofTown_25 (by decide) ?_
    obtain rfl := Option.some.inj hh
    exact v_iret dX10_ofTown_30 rfl (Nat.zero_le _) (Nat.zero_le _) ⟨rfl, rfl⟩
def f_X10_ofHand  (S : St) (x1 : Int32) : Option (Int32) :=
  bnd (f_X10_isHand S x1) fun q1 =>
 if q1 = (0 : Int32) then
  (some (-1 : Int32))
  else
  (chk (inb ((47 : Int32) + x1) 3015) (
  some (gI S 1000 0 ((47 : Int32) + x1).toNatClampNeg)))
set_option maxRecDepth 100000 in
set_option maxHeartbeats 4000000 in
theorem t_X10_ofHand {l : Launch} {G : v_G} {S : St}   {x1 : Int32} {r : Int32} (hh : f_X10_ofHand  S x1 = some r) : v_M l G yX10_ofHand cX10_ofHand 2 (some .int) 2 0 0 [.ref (v_B G + 291), .int x1] (lay G S) (QI r (lay G S)) := by
  refine v_entry (by decide) (Nat.le_of_ble_eq_true rfl) ?_
  unfold f_X10_ofHand at hh
  show V l G yX10_ofHand cX10_ofHand 2 (some .int) (v_rm 2 0 0) (QI r (lay G S)) 0 0 0 [(0, .ref (v_B G + 291)), (1, .int x1)] [] (lay G S)
  refine v_aload_n 0 dX10_ofHand_0 rfl rfl ?_
  refine v_iload_n 1 dX10_ofHand_1 rfl rfl ?_
  obtain ⟨q1, eq1, hh⟩ := bnd_some hh
  refine v_callVi (t_X10_isHand eq1) dX10_ofHand_2 y_X10_isHand ml_X10_311 (ci := 9) rfl rfl (e_Model) rfl rfl (Nat.le_of_ble_eq_true rfl) ⟨(Nat.le_of_ble_eq_true rfl), (Nat.le_of_ble_eq_true rfl)⟩ ⟨Nat.zero_le _, Nat.zero_le _⟩ ?_
  refine v_if_eq (tgt := 20) dX10_ofHand_5 (by decide) (fun c => ?_) (fun c => ?_)
  · replace hh := (if_pos c).symm.trans hh
    refine v_iconst dX10_ofHand_20 (by decide : _ = (-1 : Int32)) ?_
    obtain rfl := Option.some.inj hh
    exact v_iret dX10_ofHand_21 rfl (Nat.zero_le _) (Nat.zero_le _) ⟨rfl, rfl⟩
  · replace hh := (if_neg c).symm.trans hh
    refine v_aload_n 0 dX10_ofHand_8 rfl rfl ?_
    refine r_Model_a dX10_ofHand_9 fl_X10_7 ?_
    refine v_bipush dX10_ofHand_12 (by decide : _ = (47 : Int32)) ?_
    refine v_iload_n 1 dX10_ofHand_14 rfl rfl ?_
    refine v_iadd dX10_ofHand_15 ?_
    obtain ⟨g2, hh⟩ := chk_some hh
    replace g2 := inb_in g2
    refine ld_ma dX10_ofHand_16 g2 ?_
    refine v_goto (tgt := 21) dX10_ofHand_17 (by decide) ?_
    obtain rfl := Option.some.inj hh
    exact v_iret dX10_ofHand_21 rfl (Nat.zero_le _) (Nat.zero_le _) ⟨rfl, rfl⟩
def f_X10_moves (N : Nat) (S : St) (x1 : Int32) (x2 : Int32) (x3 : Int32) : Option (Int32 × St) :=
  bnd (f_X10_isHand S x1) fun q1 =>
 if q1 = (0 : Int32) then
  (some ((-1 : Int32), S))
  else
  (bnd (f_X10_isCell S x2) fun q2 =>
 if q2 = (0 : Int32) then
  (some ((-1 : Int32), S))
  else
  (bnd (f_X10_movesOf N S (gI S 1000 0 3) x1 x2 x3) fun q4 =>
 some (q4.1, q4.2)))
set_option maxRecDepth 100000 in
set_option maxHeartbeats 4000000 in
theorem t_X10_moves {l : Launch} {G : v_G} {N : Nat} {S : St}   {x1 : Int32} {x2 : Int32} {x3 : Int32} {r : Int32 × St} (hh : f_X10_moves N S x1 x2 x3 = some r) : v_M l G yX10_moves cX10_moves 4 (some .int) 6 0 0 [.ref (v_B G + 291), .int x1, .int x2, .int x3] (lay G S) (QI r.1 (lay G r.2)) := by
  refine v_entry (by decide) (Nat.le_of_ble_eq_true rfl) ?_
  unfold f_X10_moves at hh
  show V l G yX10_moves cX10_moves 4 (some .int) (v_rm 6 0 0) (QI r.1 (lay G r.2)) 0 0 0 [(0, .ref (v_B G + 291)), (1, .int x1), (2, .int x2), (3, .int x3)] [] (lay G S)
  refine v_aload_n 0 dX10_moves_0 rfl rfl ?_
  refine v_iload_n 1 dX10_moves_1 rfl rfl ?_
  obtain ⟨q1, eq1, hh⟩ := bnd_some hh
  refine v_callVi (t_X10_isHand eq1) dX10_moves_2 y_X10_isHand ml_X10_311 (ci := 9) rfl rfl (e_Model) rfl rfl (Nat.le_of_ble_eq_true rfl) ⟨(Nat.le_of_ble_eq_true rfl), (Nat.le_of_ble_eq_true rfl)⟩ ⟨Nat.zero_le _, Nat.zero_le _⟩ ?_
  refine v_if_eq (tgt := 31) dX10_moves_5 (by decide) (fun c => ?_) (fun c => ?_)
  · replace hh := (if_pos c).symm.trans hh
    refine v_iconst dX10_moves_31 (by decide : _ = (-1 : Int32)) ?_
    obtain rfl := Option.some.inj hh
    exact v_iret dX10_moves_32 rfl (Nat.zero_le _) (Nat.zero_le _) ⟨rfl, rfl⟩
  · replace hh := (if_neg c).symm.trans hh
    refine v_iload_n 2 dX10_moves_8 rfl rfl ?_
    obtain ⟨q2, eq2, hh⟩ := bnd_some hh
    refine v_callSi (t_X10_isCell eq2) dX10_moves_9 y_X10_isCell ml_X10_67 rfl rfl (Nat.le_of_ble_eq_true rfl) ⟨(Nat.le_of_ble_eq_true rfl), (Nat.le_of_ble_eq_true rfl)⟩ ⟨Nat.zero_le _, Nat.zero_le _⟩ ?_
    refine v_if_eq (tgt := 31) dX10_moves_12 (by decide) (fun c => ?_) (fun c => ?_)
    · replace hh := (if_pos c).symm.trans hh
      refine v_iconst dX10_moves_31 (by decide : _ = (-1 : Int32)) ?_
      obtain rfl := Option.some.inj hh
      exact v_iret dX10_moves_32 rfl (Nat.zero_le _) (Nat.zero_le _) ⟨rfl, rfl⟩
    · replace hh := (if_neg c).symm.trans hh
      refine v_aload_n 0 dX10_moves_15 rfl rfl ?_
      refine v_aload_n 0 dX10_moves_16 rfl rfl ?_
      refine r_Model_a dX10_moves_17 fl_X10_7 ?_
      refine v_iconst dX10_moves_20 (by decide : _ = (3 : Int32)) ?_
      refine ld_ma dX10_moves_21 (inb_in (by decide)) ?_
      refine v_iload_n 1 dX10_moves_22 rfl rfl ?_
      refine v_iload_n 2 dX10_moves_23 rfl rfl ?_
      refine v_iload_n 3 dX10_moves_24 rfl rfl ?_
      obtain ⟨q4, eq4, hh⟩ := bnd_some hh
      refine v_callVi (t_X10_movesOf eq4) dX10_moves_25 y_X10_movesOf ml_X10_290 (ci := 9) rfl rfl (e_Model) rfl rfl (Nat.le_of_ble_eq_true rfl) ⟨(Nat.le_of_ble_eq_true rfl), (Nat.le_of_ble_eq_true rfl)⟩ ⟨Nat.zero_le _, Nat.zero_le _⟩ ?_
      refine v_goto (tgt := 32) dX10_moves_28 (by decide) ?_
      obtain rfl := Option.some.inj hh
      exact v_iret dX10_moves_32 rfl (Nat.zero_le _) (Nat.zero_le _) ⟨rfl, rfl⟩
def f_X10_is (N : Nat) (S : St) (x1 : Int32) : Option (Int32) :=
  bnd (f_X10_isIn S x1 (0 : Int32) (3 : Int32)) fun q1 =>
 if q1 = (0 : Int32) then
  (if x1 = (4 : Int32) then
  (bnd (f_X10_tornNow N S ) fun q3 =>
 some q3)
  else
  (if x1 = (5 : Int32) then
  (bnd (f_X10_doughOf N S (0 : Int32) (12 : Int32)) fun q2 =>
 some q2)
  else
  (some (-2 : Int32))))
  else
  (chk (inb ((6 : Int32) + x1) 3015) (
  some (gI S 1000 0 ((6 : Int32) + x1).toNatClampNeg)))
set_option maxRecDepth 100000 in
set_option maxHeartbeats 4000000 in
theorem t_X10_is {l : Launch} {G : v_G} {N : Nat} {S : St}   {x1 : Int32} {r : Int32} (hh : f_X10_is N S x1 = some r) : v_M l G yX10_is cX10_is 2 (some .int) 1 0 0 [.ref (v_B G + 291), .int x1] (lay G S) (QI r (lay G S)) := by
  refine v_entry (by decide) (Nat.le_of_ble_eq_true rfl) ?_
  unfold f_X10_is at hh
  show V l G yX10_is cX10_is 2 (some .int) (v_rm 1 0 0) (QI r (lay G S)) 0 0 0 [(0, .ref (v_B G + 291)), (1, .int x1)] [] (lay G S)
  refine v_iload_n 1 dX10_is_0 rfl rfl ?_
  refine v_iconst dX10_is_1 (by decide : _ = (0 : Int32)) ?_
  refine v_iconst dX10_is_2 (by decide : _ = (3 : Int32)) ?_
  obtain ⟨q1, eq1, hh⟩ := bnd_some hh
  refine v_callSi (t_X10_isIn eq1) dX10_is_3 y_X10_isIn ml_X10_63 rfl rfl (Nat.le_of_ble_eq_true rfl) ⟨(Nat.le_of_ble_eq_true rfl), (Nat.le_of_ble_eq_true rfl)⟩ ⟨Nat.zero_le _, Nat.zero_le _⟩ ?_
  refine v_if_eq (tgt := 21) dX10_is_6 (by decide) (fun c => ?_) (fun c => ?_)
  · replace hh := (if_pos c).symm.trans hh
    refine v_iload_n 1 dX10_is_21 rfl rfl ?_
    refine v_iconst dX10_is_22 (by decide : _ = (4 : Int32)) ?_
    refine v_icmp_ne (tgt := 33) dX10_is_23 (by decide) (fun c => ?_) (fun c => ?_)
    · replace hh := (if_neg c).symm.trans hh
      refine v_iload_n 1 dX10_is_33 rfl rfl ?_
      refine v_iconst dX10_is_34 (by decide : _ = (5 : Int32)) ?_
      refine v_icmp_ne (tgt := 48) dX10_is_35 (by decide) (fun c => ?_) (fun c => ?_)
      · replace hh := (if_neg c).symm.trans hh
        refine v_bipush dX10_is_48 (by decide : _ = (-2 : Int32)) ?_
        obtain rfl := Option.some.inj hh
        exact v_iret dX10_is_50 rfl (Nat.zero_le _) (Nat.zero_le _) ⟨rfl, rfl⟩
      · replace hh := (if_pos c).symm.trans hh
        refine v_aload_n 0 dX10_is_38 rfl rfl ?_
        refine v_iconst dX10_is_39 (by decide : _ = (0 : Int32)) ?_
        refine v_bipush dX10_is_40 (by decide : _ = (12 : Int32)) ?_
        obtain ⟨q2, eq2, hh⟩ := bnd_some hh
        refine v_callVi (t_X10_doughOf eq2) dX10_is_42 y_X10_doughOf ml_X10_365 (ci := 9) rfl rfl (e_Model) rfl rfl (Nat.le_of_ble_eq_true rfl) ⟨(Nat.le_of_ble_eq_true rfl), (Nat.le_of_ble_eq_true rfl)⟩ ⟨Nat.zero_le _, Nat.zero_le _⟩ ?_
        refine v_goto (tgt := 50) dX10_is_45 (by decide) ?_
        obtain rfl := Option.some.inj hh
        exact v_iret dX10_is_50 rfl (Nat.zero_le _) (Nat.zero_le _) ⟨rfl, rfl⟩
    · replace hh := (if_pos c).symm.trans hh
      refine v_aload_n 0 dX10_is_26 rfl rfl ?_
      obtain ⟨q3, eq3, hh⟩ := bnd_some hh
      refine v_callVi (t_X10_tornNow eq3) dX10_is_27 y_X10_tornNow ml_X10_362 (ci := 9) rfl rfl (e_Model) rfl rfl (Nat.le_of_ble_eq_true rfl) ⟨(Nat.le_of_ble_eq_true rfl), (Nat.le_of_ble_eq_true rfl)⟩ ⟨Nat.zero_le _, Nat.zero_le _⟩ ?_
      refine v_goto (tgt := 50) dX10_is_30 (by decide) ?_
      obtain rfl := Option.some.inj hh
      exact v_iret dX10_is_50 rfl (Nat.zero_le _) (Nat.zero_le _) ⟨rfl, rfl⟩
  · replace hh := (if_neg c).symm.trans hh
    refine v_aload_n 0 dX10_is_9 rfl rfl ?_
    refine r_Model_a dX10_is_10 fl_X10_7 ?_
    refine v_bipush dX10_is_13 (by decide : _ = (6 : Int32)) ?_
    refine v_iload_n 1 dX10_is_15 rfl rfl ?_
    refine v_iadd dX10_is_16 ?_
    obtain ⟨g4, hh⟩ := chk_some hh
    replace g4 := inb_in g4
    refine ld_ma dX10_is_17 g4 ?_
    refine v_goto (tgt := 50) dX10_is_18 (by decide) ?_
    obtain rfl := Option.some.inj hh
    exact v_iret dX10_is_50 rfl (Nat.zero_le _) (Nat.zero_le _) ⟨rfl, rfl⟩
def f_X10_entry  (S : St) (x1 : Int32) (x2 : Int32) : Option (Int32) :=
  chk (inb ((2955 : Int32) + ((2 : Int32) * x1)) 3015) (
  lt (gI S 1000 0 ((2955 : Int32) + ((2 : Int32) * x1)).toNatClampNeg) fun v2 =>
  if x2 = (0 : Int32) then
  (some (v2 / (96 : Int32)))
  else
  (if x2 = (1 : Int32) then
  (some ((v2 / (24 : Int32)) - (v2 / (24 : Int32)) / (4 : Int32) * (4 : Int32)))
  else
  (if x2 = (2 : Int32) then
  (some (v2 - v2 / (24 : Int32) * (24 : Int32)))
  else
  (chk (inb (((2955 : Int32) + ((2 : Int32) * x1)) + (1 : Int32)) 3015) (
  some (gI S 1000 0 (((2955 : Int32) + ((2 : Int32) * x1)) + (1 : Int32)).toNatClampNeg))))))
set_option maxRecDepth 100000 in
set_option maxHeartbeats 4000000 in
theorem t_X10_entry {l : Launch} {G : v_G} {S : St}   {x1 : Int32} {x2 : Int32} {r : Int32} (hh : f_X10_entry  S x1 x2 = some r) : v_M l G yX10_entry cX10_entry 4 (some .int) 0 0 0 [.ref (v_B G + 291), .int x1, .int x2] (lay G S) (QI r (lay G S)) := by
  refine v_entry (by decide) (Nat.le_of_ble_eq_true rfl) ?_
  unfold f_X10_entry at hh
  show V l G yX10_entry cX10_entry 4 (some .int) (v_rm 0 0 0) (QI r (lay G S)) 0 0 0 [(0, .ref (v_B G + 291)), (1, .int x1), (2, .int x2)] [] (lay G S)
  refine v_aload_n 0 dX10_entry_0 rfl rfl ?_
  refine r_Model_a dX10_entry_1 fl_X10_7 ?_
  refine v_sipush dX10_entry_4 (by decide : _ = (2955 : Int32)) ?_
  refine v_iconst dX10_entry_7 (by decide : _ = (2 : Int32)) ?_
  refine v_iload_n 1 dX10_entry_8 rfl rfl ?_
  refine v_imul dX10_entry_9 ?_
  refine v_iadd dX10_entry_10 ?_
  obtain ⟨g1, hh⟩ := chk_some hh
  replace g1 := inb_in g1
  refine ld_ma dX10_entry_11 g1 ?_
  refine v_istore_n dX10_entry_12 rfl (by decide) rfl ?_
  replace hh := lt_of hh
  refine v_iload_n 3 dX10_entry_13 rfl rfl ?_
  refine v_if_ne (tgt := 24) dX10_entry_14 (by decide) (fun c => ?_) (fun c => ?_)
  · replace hh := (if_neg c).symm.trans hh
    refine v_iload_n 3 dX10_entry_24 rfl rfl ?_
    refine v_iconst dX10_entry_25 (by decide : _ = (1 : Int32)) ?_
    refine v_icmp_ne (tgt := 38) dX10_entry_26 (by decide) (fun c => ?_) (fun c => ?_)
    · replace hh := (if_neg c).symm.trans hh
      refine v_iload_n 3 dX10_entry_38 rfl rfl ?_
      refine v_iconst dX10_entry_39 (by decide : _ = (2 : Int32)) ?_
      refine v_icmp_ne (tgt := 50) dX10_entry_40 (by decide) (fun c => ?_) (fun c => ?_)
      · replace hh := (if_neg c).symm.trans hh
        refine v_aload_n 1 dX10_entry_50 rfl rfl ?_
        refine r_Model_a dX10_entry_51 fl_X10_7 ?_
        refine v_sipush dX10_entry_54 (by decide : _ = (2955 : Int32)) ?_
        refine v_iconst dX10_entry_57 (by decide : _ = (2 : Int32)) ?_
        refine v_iload_n 2 dX10_entry_58 rfl rfl ?_
        refine v_imul dX10_entry_59 ?_
        refine v_iadd dX10_entry_60 ?_
        refine v_iconst dX10_entry_61 (by decide : _ = (1 : Int32)) ?_
        refine v_iadd dX10_entry_62 ?_
        obtain ⟨g3, hh⟩ := chk_some hh
        replace g3 := inb_in g3
        refine ld_ma dX10_entry_63 g3 ?_
        obtain rfl := Option.some.inj hh
        exact v_iret dX10_entry_64 rfl (Nat.zero_le _) (Nat.zero_le _) ⟨rfl, rfl⟩
      · replace hh := (if_pos c).symm.trans hh
        refine v_iload_n 0 dX10_entry_43 rfl rfl ?_
        refine v_bipush dX10_entry_44 (by decide : _ = (24 : Int32)) ?_
        refine v_irem dX10_entry_46 (by decide) ?_
        refine v_goto (tgt := 64) dX10_entry_47 (by decide) ?_
        obtain rfl := Option.some.inj hh
        exact v_iret dX10_entry_64 rfl (Nat.zero_le _) (Nat.zero_le _) ⟨rfl, rfl⟩
    · replace hh := (if_pos c).symm.trans hh
      refine v_iload_n 0 dX10_entry_29 rfl rfl ?_
      refine v_bipush dX10_entry_30 (by decide : _ = (24 : Int32)) ?_
      refine v_idiv dX10_entry_32 (by decide) ?_
      refine v_iconst dX10_entry_33 (by decide : _ = (4 : Int32)) ?_
      refine v_irem dX10_entry_34 (by decide) ?_
      refine v_goto (tgt := 64) dX10_entry_35 (by decide) ?_
      obtain rfl := Option.some.inj hh
      exact v_iret dX10_entry_64 rfl (Nat.zero_le _) (Nat.zero_le _) ⟨rfl, rfl⟩
  · replace hh := (if_pos c).symm.trans hh
    refine v_iload_n 0 dX10_entry_17 rfl rfl ?_
    refine v_bipush dX10_entry_18 (by decide : _ = (96 : Int32)) ?_
    refine v_idiv dX10_entry_20 (by decide) ?_
    refine v_goto (tgt := 64) dX10_entry_21 (by decide) ?_
    obtain rfl := Option.some.inj hh
    exact v_iret dX10_entry_64 rfl (Nat.zero_le _) (Nat.zero_le _) ⟨rfl, rfl⟩
def f_X10_book  (S : St) (x1 : Int32) (x2 : Int32) : Option (Int32) :=
  if x1 = (-1 : Int32) then
  (some (gI S 1000 0 10))
  else
  (bnd (f_X10_isIn S x1 (0 : Int32) ((gI S 1000 0 10) - (1 : Int32))) fun q2 =>
 if q2 = (0 : Int32) then
  (some (-2 : Int32))
  else
  (bnd (f_X10_isIn S x2 (0 : Int32) (3 : Int32)) fun q3 =>
 if q3 = (0 : Int32) then
  (some (-2 : Int32))
  else
  (bnd (f_X10_entry S x1 x2) fun q4 =>
 some q4)))
set_option maxRecDepth 100000 in
set_option maxHeartbeats 4000000 in
theorem t_X10_book {l : Launch} {G : v_G} {S : St}   {x1 : Int32} {x2 : Int32} {r : Int32} (hh : f_X10_book  S x1 x2 = some r) : v_M l G yX10_book cX10_book 3 (some .int) 1 0 0 [.ref (v_B G + 291), .int x1, .int x2] (lay G S) (QI r (lay G S)) := by
  refine v_entry (by decide) (Nat.le_of_ble_eq_true rfl) ?_
  unfold f_X10_book at hh
  show V l G yX10_book cX10_book 3 (some .int) (v_rm 1 0 0) (QI r (lay G S)) 0 0 0 [(0, .ref (v_B G + 291)), (1, .int x1), (2, .int x2)] [] (lay G S)
  refine v_iload_n 1 dX10_book_0 rfl rfl ?_
  refine v_iconst dX10_book_1 (by decide : _ = (-1 : Int32)) ?_
  refine v_icmp_ne (tgt := 13) dX10_book_2 (by decide) (fun c => ?_) (fun c => ?_)
  · replace hh := (if_neg c).symm.trans hh
    refine v_iload_n 1 dX10_book_13 rfl rfl ?_
    refine v_iconst dX10_book_14 (by decide : _ = (0 : Int32)) ?_
    refine v_aload_n 0 dX10_book_15 rfl rfl ?_
    refine r_Model_a dX10_book_16 fl_X10_7 ?_
    refine v_bipush dX10_book_19 (by decide : _ = (10 : Int32)) ?_
    refine ld_ma dX10_book_21 (inb_in (by decide)) ?_
    refine v_iconst dX10_book_22 (by decide : _ = (1 : Int32)) ?_
    refine v_isub dX10_book_23 ?_
    obtain ⟨q2, eq2, hh⟩ := bnd_some hh
    refine v_callSi (t_X10_isIn eq2) dX10_book_24 y_X10_isIn ml_X10_63 rfl rfl (Nat.le_of_ble_eq_true rfl) ⟨(Nat.le_of_ble_eq_true rfl), (Nat.le_of_ble_eq_true rfl)⟩ ⟨Nat.zero_le _, Nat.zero_le _⟩ ?_
    refine v_if_eq (tgt := 48) dX10_book_27 (by decide) (fun c => ?_) (fun c => ?_)
    · replace hh := (if_pos c).symm.trans hh
      refine v_bipush dX10_book_48 (by decide : _ = (-2 : Int32)) ?_
      obtain rfl := Option.some.inj hh
      exact v_iret dX10_book_50 rfl (Nat.zero_le _) (Nat.zero_le _) ⟨rfl, rfl⟩
    · replace hh := (if_neg c).symm.trans hh
      refine v_iload_n 2 dX10_book_30 rfl rfl ?_
      refine v_iconst dX10_book_31 (by decide : _ = (0 : Int32)) ?_
      refine v_iconst dX10_book_32 (by decide : _ = (3 : Int32)) ?_
      obtain ⟨q3, eq3, hh⟩ := bnd_some hh
      refine v_callSi (t_X10_isIn eq3) dX10_book_33 y_X10_isIn ml_X10_63 rfl rfl (Nat.le_of_ble_eq_true rfl) ⟨(Nat.le_of_ble_eq_true rfl), (Nat.le_of_ble_eq_true rfl)⟩ ⟨Nat.zero_le _, Nat.zero_le _⟩ ?_
      refine v_if_eq (tgt := 48) dX10_book_36 (by decide) (fun c => ?_) (fun c => ?_)
      · replace hh := (if_pos c).symm.trans hh
        refine v_bipush dX10_book_48 (by decide : _ = (-2 : Int32)) ?_
        obtain rfl := Option.some.inj hh
        exact v_iret dX10_book_50 rfl (Nat.zero_le _) (Nat.zero_le _) ⟨rfl, rfl⟩
      · replace hh := (if_neg c).symm.trans hh
        refine v_aload_n 0 dX10_book_39 rfl rfl ?_
        refine v_iload_n 1 dX10_book_40 rfl rfl ?_
        refine v_iload_n 2 dX10_book_41 rfl rfl ?_
        obtain ⟨q4, eq4, hh⟩ := bnd_some hh
        refine v_callVi (t_X10_entry eq4) dX10_book_42 y_X10_entry ml_X10_368 (ci := 9) rfl rfl (e_Model) rfl rfl (Nat.le_of_ble_eq_true rfl) ⟨(Nat.le_of_ble_eq_true rfl), (Nat.le_of_ble_eq_true rfl)⟩ ⟨Nat.zero_le _, Nat.zero_le _⟩ ?_
        refine v_goto (tgt := 50) dX10_book_45 (by decide) ?_
        obtain rfl := Option.some.inj hh
        exact v_iret dX10_book_50 rfl (Nat.zero_le _) (Nat.zero_le _) ⟨rfl, rfl⟩
  · replace hh := (if_pos c).symm.trans hh
    refine v_aload_n 0 dX10_book_5 rfl rfl ?_
    refine r_Model_a dX10_book_6 fl_X10_7 ?_
    refine v_bipush dX10_book_9 (by decide : _ = (10 : Int32)) ?_
    refine ld_ma dX10_book_11 (inb_in (by decide)) ?_
    obtain rfl := Option.some.inj hh
    exact v_iret dX10_book_12 rfl (Nat.zero_le _) (Nat.zero_le _) ⟨rfl, rfl⟩
def f_X10_ledger_b47 (rec20 : (Int32 → Int32 → Int32 → St → Option (Int32))) (N : Nat) (x1 : Int32) (x3 : Int32) (s0 : Int32) (S : St) : Option (Int32) :=
  bnd (f_X10_entry S x3 (3 : Int32)) fun q2 =>
 lt (s0 + q2) fun v3 =>
  lt (x3 + (1 : Int32)) fun v4 =>
  rec20 x1 v3 v4 S
set_option maxRecDepth 100000 in
set_option maxHeartbeats 4000000 in
theorem tb_X10_ledger_47 {l : Launch} {G : v_G} {N : Nat}    {r : Int32} {S0 : St} {rec20 : (Int32 → Int32 → Int32 → St → Option (Int32))} (hrec20 : ∀ (x1 : Int32) (x2 : Int32) (x3 : Int32) (S : St),  S = S0 → rec20 x1 x2 x3 S = some r → V l G yX10_ledger cX10_ledger 4 (some .int) (v_rm 2 0 0) (QI r (lay G S0)) 0 0 20 [(0, .ref (v_B G + 291)), (1, .int x1), (2, .int x2), (3, .int x3)] [] (lay G S)) : ∀ (x1 : Int32) (x3 : Int32) (s0 : Int32) (S : St),  S = S0 → f_X10_ledger_b47 rec20 N x1 x3 s0 S = some r → V l G yX10_ledger cX10_ledger 4 (some .int) (v_rm 2 0 0) (QI r (lay G S0)) 0 0 47 [(0, .ref (v_B G + 291)), (1, .int x1), (3, .int x3)] [.int s0] (lay G S) := by
  intro x1 x3 s0 S  hS0 hh
  unfold f_X10_ledger_b47 at hh
  refine v_aload_n 0 dX10_ledger_47 rfl rfl ?_
  refine v_iload_n 2 dX10_ledger_48 rfl rfl ?_
  refine v_iconst dX10_ledger_49 (by decide : _ = (3 : Int32)) ?_
  obtain ⟨q2, eq2, hh⟩ := bnd_some hh
  refine v_callVi (t_X10_entry eq2) dX10_ledger_50 y_X10_entry ml_X10_368 (ci := 9) rfl rfl (e_Model) rfl rfl (Nat.le_of_ble_eq_true rfl) ⟨(Nat.le_of_ble_eq_true rfl), (Nat.le_of_ble_eq_true rfl)⟩ ⟨Nat.zero_le _, Nat.zero_le _⟩ ?_
  refine v_goto (tgt := 57) dX10_ledger_53 (by decide) ?_
  refine v_iadd dX10_ledger_57 ?_
  refine v_istore_n dX10_ledger_58 rfl (by decide) rfl ?_
  replace hh := lt_of hh
  refine v_iinc (v := _ + (1 : Int32)) 3 dX10_ledger_59 rfl rfl (by decide) rfl ?_
  replace hh := lt_of hh
  refine v_goto (tgt := 20) dX10_ledger_62 (by decide) ?_
  exact v_sub [2, 3, 1, 0] rfl (hrec20 _ _ _ _ hS0 hh)
def f_X10_ledger_b20 (N : Nat) : Nat → Int32 → Int32 → Int32 → St → Option (Int32)
  | 0, _, _, _, _ => none
  | n + 1, x1, x2, x3, S =>
  if (gI S 1000 0 10) ≤ x3 then
  (some x2)
  else
  (if x1 = (-1 : Int32) then
  (f_X10_ledger_b47 (f_X10_ledger_b20 N n) N x1 x3 x2 S)
  else
  (bnd (f_X10_entry S x3 (1 : Int32)) fun q5 =>
 if q5 = x1 then
  (f_X10_ledger_b47 (f_X10_ledger_b20 N n) N x1 x3 x2 S)
  else
  (lt (x2 + (0 : Int32)) fun v6 =>
  lt (x3 + (1 : Int32)) fun v7 =>
  f_X10_ledger_b20 N n x1 v6 v7 S)))
set_option maxRecDepth 100000 in
set_option maxHeartbeats 4000000 in
theorem tb_X10_ledger_20 {l : Launch} {G : v_G} {N : Nat}    {r : Int32} {S0 : St}   : ∀ (n : Nat) (x1 : Int32) (x2 : Int32) (x3 : Int32) (S : St),  S = S0 → f_X10_ledger_b20 N n x1 x2 x3 S = some r → V l G yX10_ledger cX10_ledger 4 (some .int) (v_rm 2 0 0) (QI r (lay G S0)) 0 0 20 [(0, .ref (v_B G + 291)), (1, .int x1), (2, .int x2), (3, .int x3)] [] (lay G S) := by
  intro n
  induction n with
  | zero =>
    intro x1 x2 x3 S  hS0 hh
    rw [f_X10_ledger_b20] at hh
    cases hh
  | succ n ih =>
    intro x1 x2 x3 S  hS0 hh
    rw [f_X10_ledger_b20] at hh
    refine v_iload_n 3 dX10_ledger_20 rfl rfl ?_
    refine v_aload_n 0 dX10_ledger_21 rfl rfl ?_
    refine r_Model_a dX10_ledger_22 fl_X10_7 ?_
    refine v_bipush dX10_ledger_25 (by decide : _ = (10 : Int32)) ?_
    refine ld_ma dX10_ledger_27 (inb_in (by decide)) ?_
    refine v_icmp_ge (tgt := 65) dX10_ledger_28 (by decide) (fun c => ?_) (fun c => ?_)
    · replace hh := (if_pos c).symm.trans hh
      refine v_iload_n 2 dX10_ledger_65 rfl rfl ?_
      obtain rfl := Option.some.inj hh
      exact v_iret dX10_ledger_66 rfl (Nat.zero_le _) (Nat.zero_le _) ⟨rfl, by rw [hS0]⟩
    · replace hh := (if_neg c).symm.trans hh
      refine v_iload_n 2 dX10_ledger_31 rfl rfl ?_
      refine v_iload_n 1 dX10_ledger_32 rfl rfl ?_
      refine v_iconst dX10_ledger_33 (by decide : _ = (-1 : Int32)) ?_
      refine v_icmp_eq (tgt := 47) dX10_ledger_34 (by decide) (fun c => ?_) (fun c => ?_)
      · replace hh := (if_pos c).symm.trans hh
        exact v_sub [0, 1, 3] rfl (tb_X10_ledger_47 (fun _ _ _ _ hS hh => ih _ _ _ _ hS hh) _ _ _ _ hS0 hh)
      · replace hh := (if_neg c).symm.trans hh
        refine v_aload_n 0 dX10_ledger_37 rfl rfl ?_
        refine v_iload_n 3 dX10_ledger_38 rfl rfl ?_
        refine v_iconst dX10_ledger_39 (by decide : _ = (1 : Int32)) ?_
        obtain ⟨q5, eq5, hh⟩ := bnd_some hh
        refine v_callVi (t_X10_entry eq5) dX10_ledger_40 y_X10_entry ml_X10_368 (ci := 9) rfl rfl (e_Model) rfl rfl (Nat.le_of_ble_eq_true rfl) ⟨(Nat.le_of_ble_eq_true rfl), (Nat.le_of_ble_eq_true rfl)⟩ ⟨Nat.zero_le _, Nat.zero_le _⟩ ?_
        refine v_iload_n 1 dX10_ledger_43 rfl rfl ?_
        refine v_icmp_ne (tgt := 56) dX10_ledger_44 (by decide) (fun c => ?_) (fun c => ?_)
        · replace hh := (if_neg c).symm.trans hh
          refine v_iconst dX10_ledger_56 (by decide : _ = (0 : Int32)) ?_
          refine v_iadd dX10_ledger_57 ?_
          refine v_istore_n dX10_ledger_58 rfl (by decide) rfl ?_
          replace hh := lt_of hh
          refine v_iinc (v := _ + (1 : Int32)) 3 dX10_ledger_59 rfl rfl (by decide) rfl ?_
          replace hh := lt_of hh
          refine v_goto (tgt := 20) dX10_ledger_62 (by decide) ?_
          exact v_sub [2, 3, 1, 0] rfl (ih _ _ _ _ hS0 hh)
        · replace hh := (if_pos c).symm.trans hh
          exact v_sub [0, 1, 3] rfl (tb_X10_ledger_47 (fun _ _ _ _ hS hh => ih _ _ _ _ hS hh) _ _ _ _ hS0 hh)
def f_X10_ledger (N : Nat) (S : St) (x1 : Int32) : Option (Int32) :=
  if x1 = (-1 : Int32) then
  (f_X10_ledger_b20 N N x1 (0 : Int32) (0 : Int32) S)
  else
  (bnd (f_X10_isHand S x1) fun q8 =>
 if q8 = (0 : Int32) then
  (some (-2 : Int32))
  else
  (f_X10_ledger_b20 N N x1 (0 : Int32) (0 : Int32) S))
set_option maxRecDepth 100000 in
set_option maxHeartbeats 4000000 in
theorem t_X10_ledger {l : Launch} {G : v_G} {N : Nat} {S : St}   {x1 : Int32} {r : Int32} (hh : f_X10_ledger N S x1 = some r) : v_M l G yX10_ledger cX10_ledger 4 (some .int) 2 0 0 [.ref (v_B G + 291), .int x1] (lay G S) (QI r (lay G S)) := by
  refine v_entry (by decide) (Nat.le_of_ble_eq_true rfl) ?_
  unfold f_X10_ledger at hh
  show V l G yX10_ledger cX10_ledger 4 (some .int) (v_rm 2 0 0) (QI r (lay G S)) 0 0 0 [(0, .ref (v_B G + 291)), (1, .int x1)] [] (lay G S)
  refine v_iload_n 1 dX10_ledger_0 rfl rfl ?_
  refine v_iconst dX10_ledger_1 (by decide : _ = (-1 : Int32)) ?_
  refine v_icmp_eq (tgt := 16) dX10_ledger_2 (by decide) (fun c => ?_) (fun c => ?_)
  · replace hh := (if_pos c).symm.trans hh
    refine v_iconst dX10_ledger_16 (by decide : _ = (0 : Int32)) ?_
    refine v_istore_n dX10_ledger_17 rfl (by decide) rfl ?_
    refine v_iconst dX10_ledger_18 (by decide : _ = (0 : Int32)) ?_
    refine v_istore_n dX10_ledger_19 rfl (by decide) rfl ?_
    exact v_sub [2, 3, 1, 0] rfl (tb_X10_ledger_20 N _ _ _ _ rfl hh)
  · replace hh := (if_neg c).symm.trans hh
    refine v_aload_n 0 dX10_ledger_5 rfl rfl ?_
    refine v_iload_n 1 dX10_ledger_6 rfl rfl ?_
    obtain ⟨q8, eq8, hh⟩ := bnd_some hh
    refine v_callVi (t_X10_isHand eq8) dX10_ledger_7 y_X10_isHand ml_X10_311 (ci := 9) rfl rfl (e_Model) rfl rfl (Nat.le_of_ble_eq_true rfl) ⟨(Nat.le_of_ble_eq_true rfl), (Nat.le_of_ble_eq_true rfl)⟩ ⟨Nat.zero_le _, Nat.zero_le _⟩ ?_
    refine v_if_ne (tgt := 16) dX10_ledger_10 (by decide) (fun c => ?_) (fun c => ?_)
    · replace hh := (if_neg c).symm.trans hh
      refine v_iconst dX10_ledger_16 (by decide : _ = (0 : Int32)) ?_
      refine v_istore_n dX10_ledger_17 rfl (by decide) rfl ?_
      refine v_iconst dX10_ledger_18 (by decide : _ = (0 : Int32)) ?_
      refine v_istore_n dX10_ledger_19 rfl (by decide) rfl ?_
      exact v_sub [2, 3, 1, 0] rfl (tb_X10_ledger_20 N _ _ _ _ rfl hh)
    · replace hh := (if_pos c).symm.trans hh
      refine v_bipush dX10_ledger_13 (by decide : _ = (-2 : Int32)) ?_
      obtain rfl := Option.some.inj hh
      exact v_iret dX10_ledger_15 rfl (Nat.zero_le _) (Nat.zero_le _) ⟨rfl, rfl⟩
def f_X10_thin_b4 (N : Nat) : Nat → Int32 → Int32 → St → Option (Int32)
  | 0, _, _, _ => none
  | n + 1, x1, x2, S =>
  if (12 : Int32) ≤ x2 then
  (some x1)
  else
  (chk (inb ((11 : Int32) + x2) 3015) (
  chk (inb ((11 : Int32) + x1) 3015) (
  if (gI S 1000 0 ((11 : Int32) + x1).toNatClampNeg) ≤ (gI S 1000 0 ((11 : Int32) + x2).toNatClampNeg) then
  (lt (x2 + (1 : Int32)) fun v3 =>
  f_X10_thin_b4 N n x1 v3 S)
  else
  (lt (x2 + (1 : Int32)) fun v4 =>
  f_X10_thin_b4 N n x2 v4 S))))
set_option maxRecDepth 100000 in
set_option maxHeartbeats 4000000 in
theorem tb_X10_thin_4 {l : Launch} {G : v_G} {N : Nat}    {r : Int32} {S0 : St}   : ∀ (n : Nat) (x1 : Int32) (x2 : Int32) (S : St),  S = S0 → f_X10_thin_b4 N n x1 x2 S = some r → V l G yX10_thin cX10_thin 3 (some .int) (v_rm 0 0 0) (QI r (lay G S0)) 0 0 4 [(0, .ref (v_B G + 291)), (1, .int x1), (2, .int x2)] [] (lay G S) := by
  intro n
  induction n with
  | zero =>
    intro x1 x2 S  hS0 hh
    rw [f_X10_thin_b4] at hh
    cases hh
  | succ n ih =>
    intro x1 x2 S  hS0 hh
    rw [f_X10_thin_b4] at hh
    refine v_iload_n 2 dX10_thin_4 rfl rfl ?_
    refine v_bipush dX10_thin_5 (by decide : _ = (12 : Int32)) ?_
    refine v_icmp_ge (tgt := 39) dX10_thin_7 (by decide) (fun c => ?_) (fun c => ?_)
    · replace hh := (if_pos c).symm.trans hh
      refine v_iload_n 1 dX10_thin_39 rfl rfl ?_
      obtain rfl := Option.some.inj hh
      exact v_iret dX10_thin_40 rfl (Nat.zero_le _) (Nat.zero_le _) ⟨rfl, by rw [hS0]⟩
    · replace hh := (if_neg c).symm.trans hh
      refine v_aload_n 0 dX10_thin_10 rfl rfl ?_
      refine r_Model_a dX10_thin_11 fl_X10_7 ?_
      refine v_bipush dX10_thin_14 (by decide : _ = (11 : Int32)) ?_
      refine v_iload_n 2 dX10_thin_16 rfl rfl ?_
      refine v_iadd dX10_thin_17 ?_
      obtain ⟨g1, hh⟩ := chk_some hh
      replace g1 := inb_in g1
      refine ld_ma dX10_thin_18 g1 ?_
      refine v_aload_n 0 dX10_thin_19 rfl rfl ?_
      refine r_Model_a dX10_thin_20 fl_X10_7 ?_
      refine v_bipush dX10_thin_23 (by decide : _ = (11 : Int32)) ?_
      refine v_iload_n 1 dX10_thin_25 rfl rfl ?_
      refine v_iadd dX10_thin_26 ?_
      obtain ⟨g2, hh⟩ := chk_some hh
      replace g2 := inb_in g2
      refine ld_ma dX10_thin_27 g2 ?_
      refine v_icmp_ge (tgt := 33) dX10_thin_28 (by decide) (fun c => ?_) (fun c => ?_)
      · replace hh := (if_pos c).symm.trans hh
        refine v_iinc (v := _ + (1 : Int32)) 2 dX10_thin_33 rfl rfl (by decide) rfl ?_
        replace hh := lt_of hh
        refine v_goto (tgt := 4) dX10_thin_36 (by decide) ?_
        exact v_sub [1, 2, 0] rfl (ih _ _ _ hS0 hh)
      · replace hh := (if_neg c).symm.trans hh
        refine v_iload_n 2 dX10_thin_31 rfl rfl ?_
        refine v_istore_n dX10_thin_32 rfl (by decide) rfl ?_
        refine v_iinc (v := _ + (1 : Int32)) 2 dX10_thin_33 rfl rfl (by decide) rfl ?_
        replace hh := lt_of hh
        refine v_goto (tgt := 4) dX10_thin_36 (by decide) ?_
        exact v_sub [2, 1, 0] rfl (ih _ _ _ hS0 hh)
def f_X10_thin (N : Nat) (S : St)  : Option (Int32) :=
  f_X10_thin_b4 N N (0 : Int32) (1 : Int32) S
set_option maxRecDepth 100000 in
set_option maxHeartbeats 4000000 in
theorem t_X10_thin {l : Launch} {G : v_G} {N : Nat} {S : St}    {r : Int32} (hh : f_X10_thin N S  = some r) : v_M l G yX10_thin cX10_thin 3 (some .int) 0 0 0 [.ref (v_B G + 291)] (lay G S) (QI r (lay G S)) := by
  refine v_entry (by decide) (Nat.le_of_ble_eq_true rfl) ?_
  unfold f_X10_thin at hh
  show V l G yX10_thin cX10_thin 3 (some .int) (v_rm 0 0 0) (QI r (lay G S)) 0 0 0 [(0, .ref (v_B G + 291))] [] (lay G S)
  refine v_iconst dX10_thin_0 (by decide : _ = (0 : Int32)) ?_
  refine v_istore_n dX10_thin_1 rfl (by decide) rfl ?_
  refine v_iconst dX10_thin_2 (by decide : _ = (1 : Int32)) ?_
  refine v_istore_n dX10_thin_3 rfl (by decide) rfl ?_
  exact v_sub [2, 1, 0] rfl (tb_X10_thin_4 N _ _ _ rfl hh)
def f_X10_thick_b4 (N : Nat) : Nat → Int32 → Int32 → St → Option (Int32)
  | 0, _, _, _ => none
  | n + 1, x1, x2, S =>
  if (12 : Int32) ≤ x2 then
  (some x1)
  else
  (chk (inb ((11 : Int32) + x2) 3015) (
  chk (inb ((11 : Int32) + x1) 3015) (
  if (gI S 1000 0 ((11 : Int32) + x2).toNatClampNeg) ≤ (gI S 1000 0 ((11 : Int32) + x1).toNatClampNeg) then
  (lt (x2 + (1 : Int32)) fun v3 =>
  f_X10_thick_b4 N n x1 v3 S)
  else
  (lt (x2 + (1 : Int32)) fun v4 =>
  f_X10_thick_b4 N n x2 v4 S))))
set_option maxRecDepth 100000 in
set_option maxHeartbeats 4000000 in
theorem tb_X10_thick_4 {l : Launch} {G : v_G} {N : Nat}    {r : Int32} {S0 : St}   : ∀ (n : Nat) (x1 : Int32) (x2 : Int32) (S : St),  S = S0 → f_X10_thick_b4 N n x1 x2 S = some r → V l G yX10_thick cX10_thick 3 (some .int) (v_rm 0 0 0) (QI r (lay G S0)) 0 0 4 [(0, .ref (v_B G + 291)), (1, .int x1), (2, .int x2)] [] (lay G S) := by
  intro n
  induction n with
  | zero =>
    intro x1 x2 S  hS0 hh
    rw [f_X10_thick_b4] at hh
    cases hh
  | succ n ih =>
    intro x1 x2 S  hS0 hh
    rw [f_X10_thick_b4] at hh
    refine v_iload_n 2 dX10_thick_4 rfl rfl ?_
    refine v_bipush dX10_thick_5 (by decide : _ = (12 : Int32)) ?_
    refine v_icmp_ge (tgt := 39) dX10_thick_7 (by decide) (fun c => ?_) (fun c => ?_)
    · replace hh := (if_pos c).symm.trans hh
      refine v_iload_n 1 dX10_thick_39 rfl rfl ?_
      obtain rfl := Option.some.inj hh
      exact v_iret dX10_thick_40 rfl (Nat.zero_le _) (Nat.zero_le _) ⟨rfl, by rw [hS0]⟩
    · replace hh := (if_neg c).symm.trans hh
      refine v_aload_n 0 dX10_thick_10 rfl rfl ?_
      refine r_Model_a dX10_thick_11 fl_X10_7 ?_
      refine v_bipush dX10_thick_14 (by decide : _ = (11 : Int32)) ?_
      refine v_iload_n 2 dX10_thick_16 rfl rfl ?_
      refine v_iadd dX10_thick_17 ?_
      obtain ⟨g1, hh⟩ := chk_some hh
      replace g1 := inb_in g1
      refine ld_ma dX10_thick_18 g1 ?_
      refine v_aload_n 0 dX10_thick_19 rfl rfl ?_
      refine r_Model_a dX10_thick_20 fl_X10_7 ?_
      refine v_bipush dX10_thick_23 (by decide : _ = (11 : Int32)) ?_
      refine v_iload_n 1 dX10_thick_25 rfl rfl ?_
      refine v_iadd dX10_thick_26 ?_
      obtain ⟨g2, hh⟩ := chk_some hh
      replace g2 := inb_in g2
      refine ld_ma dX10_thick_27 g2 ?_
      refine v_icmp_le (tgt := 33) dX10_thick_28 (by decide) (fun c => ?_) (fun c => ?_)
      · replace hh := (if_pos c).symm.trans hh
        refine v_iinc (v := _ + (1 : Int32)) 2 dX10_thick_33 rfl rfl (by decide) rfl ?_
        replace hh := lt_of hh
        refine v_goto (tgt := 4) dX10_thick_36 (by decide) ?_
        exact v_sub [1, 2, 0] rfl (ih _ _ _ hS0 hh)
      · replace hh := (if_neg c).symm.trans hh
        refine v_iload_n 2 dX10_thick_31 rfl rfl ?_
        refine v_istore_n dX10_thick_32 rfl (by decide) rfl ?_
        refine v_iinc (v := _ + (1 : Int32)) 2 dX10_thick_33 rfl rfl (by decide) rfl ?_
        replace hh := lt_of hh
        refine v_goto (tgt := 4) dX10_thick_36 (by decide) ?_
        exact v_sub [2, 1, 0] rfl (ih _ _ _ hS0 hh)
def f_X10_thick (N : Nat) (S : St)  : Option (Int32) :=
  f_X10_thick_b4 N N (0 : Int32) (1 : Int32) S
set_option maxRecDepth 100000 in
set_option maxHeartbeats 4000000 in
theorem t_X10_thick {l : Launch} {G : v_G} {N : Nat} {S : St}    {r : Int32} (hh : f_X10_thick N S  = some r) : v_M l G yX10_thick cX10_thick 3 (some .int) 0 0 0 [.ref (v_B G + 291)] (lay G S) (QI r (lay G S)) := by
  refine v_entry (by decide) (Nat.le_of_ble_eq_true rfl) ?_
  unfold f_X10_thick at hh
  show V l G yX10_thick cX10_thick 3 (some .int) (v_rm 0 0 0) (QI r (lay G S)) 0 0 0 [(0, .ref (v_B G + 291))] [] (lay G S)
  refine v_iconst dX10_thick_0 (by decide : _ = (0 : Int32)) ?_
  refine v_istore_n dX10_thick_1 rfl (by decide) rfl ?_
  refine v_iconst dX10_thick_2 (by decide : _ = (1 : Int32)) ?_
  refine v_istore_n dX10_thick_3 rfl (by decide) rfl ?_
  exact v_sub [2, 1, 0] rfl (tb_X10_thick_4 N _ _ _ rfl hh)
def f_X10_fallen (N : Nat) (S : St)  : Option (Int32) :=
  bnd (f_X10_townsIn N S (-1 : Int32)) fun q1 =>
 some q1
set_option maxRecDepth 100000 in
set_option maxHeartbeats 4000000 in
theorem t_X10_fallen {l : Launch} {G : v_G} {N : Nat} {S : St}    {r : Int32} (hh : f_X10_fallen N S  = some r) : v_M l G yX10_fallen cX10_fallen 1 (some .int) 1 0 0 [.ref (v_B G + 291)] (lay G S) (QI r (lay G S)) := by
  refine v_entry (by decide) (Nat.le_of_ble_eq_true rfl) ?_
  unfold f_X10_fallen at hh
  show V l G yX10_fallen cX10_fallen 1 (some .int) (v_rm 1 0 0) (QI r (lay G S)) 0 0 0 [(0, .ref (v_B G + 291))] [] (lay G S)
  refine v_aload_n 0 dX10_fallen_0 rfl rfl ?_
  refine v_iconst dX10_fallen_1 (by decide : _ = (-1 : Int32)) ?_
  obtain ⟨q1, eq1, hh⟩ := bnd_some hh
  refine v_callVi (t_X10_townsIn eq1) dX10_fallen_2 y_X10_townsIn ml_X10_359 (ci := 9) rfl rfl (e_Model) rfl rfl (Nat.le_of_ble_eq_true rfl) ⟨(Nat.le_of_ble_eq_true rfl), (Nat.le_of_ble_eq_true rfl)⟩ ⟨Nat.zero_le _, Nat.zero_le _⟩ ?_
  obtain rfl := Option.some.inj hh
  exact v_iret dX10_fallen_5 rfl (Nat.zero_le _) (Nat.zero_le _) ⟨rfl, rfl⟩
def f_X10_apart_b92 (rec6 : (Int32 → Int32 → St → Option (Int32))) (rec20 : (Int32 → Int32 → Int32 → St → Option (Int32))) (N : Nat) (x1 : Int32) (x2 : Int32) (x3 : Int32) (s0 : Int32) (S : St) : Option (Int32) :=
  chk (inb ((35 : Int32) + x2) 3015) (
  if (gI S 1000 0 ((35 : Int32) + x2).toNatClampNeg) = (-1 : Int32) then
  (lt (x3 + (1 : Int32)) fun v10 =>
  rec20 x1 x2 v10 S)
  else
  (chk (inb ((35 : Int32) + x3) 3015) (
  if (gI S 1000 0 ((35 : Int32) + x3).toNatClampNeg) = (-1 : Int32) then
  (lt (x3 + (1 : Int32)) fun v12 =>
  rec20 x1 x2 v12 S)
  else
  (if x1 ≤ s0 then
  (lt (x3 + (1 : Int32)) fun v13 =>
  rec20 x1 x2 v13 S)
  else
  (lt (x3 + (1 : Int32)) fun v14 =>
  rec20 s0 x2 v14 S)))))
set_option maxRecDepth 100000 in
set_option maxHeartbeats 4000000 in
theorem tb_X10_apart_92 {l : Launch} {G : v_G} {N : Nat}    {r : Int32} {S0 : St} {rec6 : (Int32 → Int32 → St → Option (Int32))} {rec20 : (Int32 → Int32 → Int32 → St → Option (Int32))} (hrec6 : ∀ (x1 : Int32) (x2 : Int32) (S : St),  S = S0 → rec6 x1 x2 S = some r → V l G yX10_apart cX10_apart 5 (some .int) (v_rm 0 0 0) (QI r (lay G S0)) 0 0 6 [(0, .ref (v_B G + 291)), (1, .int x1), (2, .int x2)] [] (lay G S)) (hrec20 : ∀ (x1 : Int32) (x2 : Int32) (x3 : Int32) (S : St),  S = S0 → rec20 x1 x2 x3 S = some r → V l G yX10_apart cX10_apart 5 (some .int) (v_rm 0 0 0) (QI r (lay G S0)) 0 0 20 [(0, .ref (v_B G + 291)), (1, .int x1), (2, .int x2), (3, .int x3)] [] (lay G S)) : ∀ (x1 : Int32) (x2 : Int32) (x3 : Int32) (s0 : Int32) (S : St),  S = S0 → f_X10_apart_b92 rec6 rec20 N x1 x2 x3 s0 S = some r → V l G yX10_apart cX10_apart 5 (some .int) (v_rm 0 0 0) (QI r (lay G S0)) 0 0 92 [(0, .ref (v_B G + 291)), (1, .int x1), (2, .int x2), (3, .int x3)] [.int s0] (lay G S) := by
  intro x1 x2 x3 s0 S  hS0 hh
  unfold f_X10_apart_b92 at hh
  refine v_istore dX10_apart_92 (by decide) rfl ?_
  refine v_aload_n 1 dX10_apart_94 rfl rfl ?_
  refine r_Model_a dX10_apart_95 fl_X10_7 ?_
  refine v_bipush dX10_apart_98 (by decide : _ = (35 : Int32)) ?_
  refine v_iload_n 3 dX10_apart_100 rfl rfl ?_
  refine v_iadd dX10_apart_101 ?_
  obtain ⟨g9, hh⟩ := chk_some hh
  replace g9 := inb_in g9
  refine ld_ma dX10_apart_102 g9 ?_
  refine v_iconst dX10_apart_103 (by decide : _ = (-1 : Int32)) ?_
  refine v_icmp_eq (tgt := 129) dX10_apart_104 (by decide) (fun c => ?_) (fun c => ?_)
  · replace hh := (if_pos c).symm.trans hh
    refine v_iinc (v := _ + (1 : Int32)) 4 dX10_apart_129 rfl rfl (by decide) rfl ?_
    replace hh := lt_of hh
    refine v_goto (tgt := 20) dX10_apart_132 (by decide) ?_
    exact v_sub [2, 3, 4, 0] rfl (hrec20 _ _ _ _ hS0 hh)
  · replace hh := (if_neg c).symm.trans hh
    refine v_aload_n 1 dX10_apart_107 rfl rfl ?_
    refine r_Model_a dX10_apart_108 fl_X10_7 ?_
    refine v_bipush dX10_apart_111 (by decide : _ = (35 : Int32)) ?_
    refine v_iload_n 4 dX10_apart_113 rfl rfl ?_
    refine v_iadd dX10_apart_114 ?_
    obtain ⟨g11, hh⟩ := chk_some hh
    replace g11 := inb_in g11
    refine ld_ma dX10_apart_115 g11 ?_
    refine v_iconst dX10_apart_116 (by decide : _ = (-1 : Int32)) ?_
    refine v_icmp_eq (tgt := 129) dX10_apart_117 (by decide) (fun c => ?_) (fun c => ?_)
    · replace hh := (if_pos c).symm.trans hh
      refine v_iinc (v := _ + (1 : Int32)) 4 dX10_apart_129 rfl rfl (by decide) rfl ?_
      replace hh := lt_of hh
      refine v_goto (tgt := 20) dX10_apart_132 (by decide) ?_
      exact v_sub [2, 3, 4, 0] rfl (hrec20 _ _ _ _ hS0 hh)
    · replace hh := (if_neg c).symm.trans hh
      refine v_iload 0 dX10_apart_120 rfl ?_
      refine v_iload_n 2 dX10_apart_122 rfl rfl ?_
      refine v_icmp_ge (tgt := 129) dX10_apart_123 (by decide) (fun c => ?_) (fun c => ?_)
      · replace hh := (if_pos c).symm.trans hh
        refine v_iinc (v := _ + (1 : Int32)) 4 dX10_apart_129 rfl rfl (by decide) rfl ?_
        replace hh := lt_of hh
        refine v_goto (tgt := 20) dX10_apart_132 (by decide) ?_
        exact v_sub [2, 3, 4, 0] rfl (hrec20 _ _ _ _ hS0 hh)
      · replace hh := (if_neg c).symm.trans hh
        refine v_iload 0 dX10_apart_126 rfl ?_
        refine v_istore_n dX10_apart_128 rfl (by decide) rfl ?_
        refine v_iinc (v := _ + (1 : Int32)) 4 dX10_apart_129 rfl rfl (by decide) rfl ?_
        replace hh := lt_of hh
        refine v_goto (tgt := 20) dX10_apart_132 (by decide) ?_
        exact v_sub [3, 1, 4, 0] rfl (hrec20 _ _ _ _ hS0 hh)
def f_X10_apart_b20 (rec6 : (Int32 → Int32 → St → Option (Int32))) (N : Nat) : Nat → Int32 → Int32 → Int32 → St → Option (Int32)
  | 0, _, _, _, _ => none
  | n + 1, x1, x2, x3, S =>
  if (gI S 1000 0 1) ≤ x3 then
  (lt (x2 + (1 : Int32)) fun v4 =>
  rec6 x1 v4 S)
  else
  (chk (inb ((35 : Int32) + x2) 3015) (
  chk (inb ((35 : Int32) + x3) 3015) (
  if (gI S 1000 0 ((35 : Int32) + x2).toNatClampNeg) ≤ (gI S 1000 0 ((35 : Int32) + x3).toNatClampNeg) then
  (chk (inb ((35 : Int32) + x3) 3015) (
  chk (inb ((35 : Int32) + x2) 3015) (
  f_X10_apart_b92 rec6 (f_X10_apart_b20 rec6 N n) N x1 x2 x3 ((gI S 1000 0 ((35 : Int32) + x3).toNatClampNeg) - (gI S 1000 0 ((35 : Int32) + x2).toNatClampNeg)) S)))
  else
  (chk (inb ((35 : Int32) + x2) 3015) (
  chk (inb ((35 : Int32) + x3) 3015) (
  f_X10_apart_b92 rec6 (f_X10_apart_b20 rec6 N n) N x1 x2 x3 ((gI S 1000 0 ((35 : Int32) + x2).toNatClampNeg) - (gI S 1000 0 ((35 : Int32) + x3).toNatClampNeg)) S))))))
set_option maxRecDepth 100000 in
set_option maxHeartbeats 4000000 in
theorem tb_X10_apart_20 {l : Launch} {G : v_G} {N : Nat}    {r : Int32} {S0 : St} {rec6 : (Int32 → Int32 → St → Option (Int32))} (hrec6 : ∀ (x1 : Int32) (x2 : Int32) (S : St),  S = S0 → rec6 x1 x2 S = some r → V l G yX10_apart cX10_apart 5 (some .int) (v_rm 0 0 0) (QI r (lay G S0)) 0 0 6 [(0, .ref (v_B G + 291)), (1, .int x1), (2, .int x2)] [] (lay G S)) : ∀ (n : Nat) (x1 : Int32) (x2 : Int32) (x3 : Int32) (S : St),  S = S0 → f_X10_apart_b20 rec6 N n x1 x2 x3 S = some r → V l G yX10_apart cX10_apart 5 (some .int) (v_rm 0 0 0) (QI r (lay G S0)) 0 0 20 [(0, .ref (v_B G + 291)), (1, .int x1), (2, .int x2), (3, .int x3)] [] (lay G S) := by
  intro n
  induction n with
  | zero =>
    intro x1 x2 x3 S  hS0 hh
    rw [f_X10_apart_b20] at hh
    cases hh
  | succ n ih =>
    intro x1 x2 x3 S  hS0 hh
    rw [f_X10_apart_b20] at hh
    refine v_iload_n 3 dX10_apart_20 rfl rfl ?_
    refine v_aload_n 0 dX10_apart_21 rfl rfl ?_
    refine r_Model_a dX10_apart_22 fl_X10_7 ?_
    refine v_iconst dX10_apart_25 (by decide : _ = (1 : Int32)) ?_
    refine ld_ma dX10_apart_26 (inb_in (by decide)) ?_
    refine v_icmp_ge (tgt := 135) dX10_apart_27 (by decide) (fun c => ?_) (fun c => ?_)
    · replace hh := (if_pos c).symm.trans hh
      refine v_iinc (v := _ + (1 : Int32)) 2 dX10_apart_135 rfl rfl (by decide) rfl ?_
      replace hh := lt_of hh
      refine v_goto (tgt := 6) dX10_apart_138 (by decide) ?_
      exact v_sub [1, 2, 0] rfl (hrec6 _ _ _ hS0 hh)
    · replace hh := (if_neg c).symm.trans hh
      refine v_aload_n 0 dX10_apart_30 rfl rfl ?_
      refine r_Model_a dX10_apart_31 fl_X10_7 ?_
      refine v_bipush dX10_apart_34 (by decide : _ = (35 : Int32)) ?_
      refine v_iload_n 2 dX10_apart_36 rfl rfl ?_
      refine v_iadd dX10_apart_37 ?_
      obtain ⟨g5, hh⟩ := chk_some hh
      replace g5 := inb_in g5
      refine ld_ma dX10_apart_38 g5 ?_
      refine v_aload_n 0 dX10_apart_39 rfl rfl ?_
      refine r_Model_a dX10_apart_40 fl_X10_7 ?_
      refine v_bipush dX10_apart_43 (by decide : _ = (35 : Int32)) ?_
      refine v_iload_n 3 dX10_apart_45 rfl rfl ?_
      refine v_iadd dX10_apart_46 ?_
      obtain ⟨g6, hh⟩ := chk_some hh
      replace g6 := inb_in g6
      refine ld_ma dX10_apart_47 g6 ?_
      refine v_icmp_le (tgt := 73) dX10_apart_48 (by decide) (fun c => ?_) (fun c => ?_)
      · replace hh := (if_pos c).symm.trans hh
        refine v_aload_n 0 dX10_apart_73 rfl rfl ?_
        refine r_Model_a dX10_apart_74 fl_X10_7 ?_
        refine v_bipush dX10_apart_77 (by decide : _ = (35 : Int32)) ?_
        refine v_iload_n 3 dX10_apart_79 rfl rfl ?_
        refine v_iadd dX10_apart_80 ?_
        obtain ⟨g7, hh⟩ := chk_some hh
        replace g7 := inb_in g7
        refine ld_ma dX10_apart_81 g7 ?_
        refine v_aload_n 0 dX10_apart_82 rfl rfl ?_
        refine r_Model_a dX10_apart_83 fl_X10_7 ?_
        refine v_bipush dX10_apart_86 (by decide : _ = (35 : Int32)) ?_
        refine v_iload_n 2 dX10_apart_88 rfl rfl ?_
        refine v_iadd dX10_apart_89 ?_
        obtain ⟨g8, hh⟩ := chk_some hh
        replace g8 := inb_in g8
        refine ld_ma dX10_apart_90 g8 ?_
        refine v_isub dX10_apart_91 ?_
        exact v_sub [0, 1, 2, 3] rfl (tb_X10_apart_92 hrec6 (fun _ _ _ _ hS hh => ih _ _ _ _ hS hh) _ _ _ _ _ hS0 hh)
      · replace hh := (if_neg c).symm.trans hh
        refine v_aload_n 0 dX10_apart_51 rfl rfl ?_
        refine r_Model_a dX10_apart_52 fl_X10_7 ?_
        refine v_bipush dX10_apart_55 (by decide : _ = (35 : Int32)) ?_
        refine v_iload_n 2 dX10_apart_57 rfl rfl ?_
        refine v_iadd dX10_apart_58 ?_
        obtain ⟨g15, hh⟩ := chk_some hh
        replace g15 := inb_in g15
        refine ld_ma dX10_apart_59 g15 ?_
        refine v_aload_n 0 dX10_apart_60 rfl rfl ?_
        refine r_Model_a dX10_apart_61 fl_X10_7 ?_
        refine v_bipush dX10_apart_64 (by decide : _ = (35 : Int32)) ?_
        refine v_iload_n 3 dX10_apart_66 rfl rfl ?_
        refine v_iadd dX10_apart_67 ?_
        obtain ⟨g16, hh⟩ := chk_some hh
        replace g16 := inb_in g16
        refine ld_ma dX10_apart_68 g16 ?_
        refine v_isub dX10_apart_69 ?_
        refine v_goto (tgt := 92) dX10_apart_70 (by decide) ?_
        exact v_sub [0, 1, 2, 3] rfl (tb_X10_apart_92 hrec6 (fun _ _ _ _ hS hh => ih _ _ _ _ hS hh) _ _ _ _ _ hS0 hh)
def f_X10_apart_b6 (N : Nat) : Nat → Int32 → Int32 → St → Option (Int32)
  | 0, _, _, _ => none
  | n + 1, x1, x2, S =>
  if (gI S 1000 0 1) ≤ x2 then
  (if x1 = (2147483647 : Int32) then
  (some (-1 : Int32))
  else
  (some x1))
  else
  (lt (x2 + (1 : Int32)) fun v2 =>
  f_X10_apart_b20 (f_X10_apart_b6 N n) N N x1 x2 v2 S)
set_option maxRecDepth 100000 in
set_option maxHeartbeats 4000000 in
theorem tb_X10_apart_6 {l : Launch} {G : v_G} {N : Nat}    {r : Int32} {S0 : St}   : ∀ (n : Nat) (x1 : Int32) (x2 : Int32) (S : St),  S = S0 → f_X10_apart_b6 N n x1 x2 S = some r → V l G yX10_apart cX10_apart 5 (some .int) (v_rm 0 0 0) (QI r (lay G S0)) 0 0 6 [(0, .ref (v_B G + 291)), (1, .int x1), (2, .int x2)] [] (lay G S) := by
  intro n
  induction n with
  | zero =>
    intro x1 x2 S  hS0 hh
    rw [f_X10_apart_b6] at hh
    cases hh
  | succ n ih =>
    intro x1 x2 S  hS0 hh
    rw [f_X10_apart_b6] at hh
    refine v_iload_n 2 dX10_apart_6 rfl rfl ?_
    refine v_aload_n 0 dX10_apart_7 rfl rfl ?_
    refine r_Model_a dX10_apart_8 fl_X10_7 ?_
    refine v_iconst dX10_apart_11 (by decide : _ = (1 : Int32)) ?_
    refine ld_ma dX10_apart_12 (inb_in (by decide)) ?_
    refine v_icmp_ge (tgt := 141) dX10_apart_13 (by decide) (fun c => ?_) (fun c => ?_)
    · replace hh := (if_pos c).symm.trans hh
      refine v_iload_n 1 dX10_apart_141 rfl rfl ?_
      refine v_ldcw dX10_apart_142 co_X10_371 ?_
      refine v_icmp_ne (tgt := 152) dX10_apart_145 (by decide) (fun c => ?_) (fun c => ?_)
      · replace hh := (if_neg c).symm.trans hh
        refine v_iload_n 1 dX10_apart_152 rfl rfl ?_
        obtain rfl := Option.some.inj hh
        exact v_iret dX10_apart_153 rfl (Nat.zero_le _) (Nat.zero_le _) ⟨rfl, by rw [hS0]⟩
      · replace hh := (if_pos c).symm.trans hh
        refine v_iconst dX10_apart_148 (by decide : _ = (-1 : Int32)) ?_
        refine v_goto (tgt := 153) dX10_apart_149 (by decide) ?_
        obtain rfl := Option.some.inj hh
        exact v_iret dX10_apart_153 rfl (Nat.zero_le _) (Nat.zero_le _) ⟨rfl, by rw [hS0]⟩
    · replace hh := (if_neg c).symm.trans hh
      refine v_iload_n 2 dX10_apart_16 rfl rfl ?_
      refine v_iconst dX10_apart_17 (by decide : _ = (1 : Int32)) ?_
      refine v_iadd dX10_apart_18 ?_
      refine v_istore_n dX10_apart_19 rfl (by decide) rfl ?_
      replace hh := lt_of hh
      exact v_sub [1, 2, 3, 0] rfl (tb_X10_apart_20 (fun _ _ _ hS hh => ih _ _ _ hS hh) N _ _ _ _ hS0 hh)
def f_X10_apart (N : Nat) (S : St)  : Option (Int32) :=
  f_X10_apart_b6 N N (2147483647 : Int32) (0 : Int32) S
set_option maxRecDepth 100000 in
set_option maxHeartbeats 4000000 in
theorem t_X10_apart {l : Launch} {G : v_G} {N : Nat} {S : St}    {r : Int32} (hh : f_X10_apart N S  = some r) : v_M l G yX10_apart cX10_apart 5 (some .int) 0 0 0 [.ref (v_B G + 291)] (lay G S) (QI r (lay G S)) := by
  refine v_entry (by decide) (Nat.le_of_ble_eq_true rfl) ?_
  unfold f_X10_apart at hh
  show V l G yX10_apart cX10_apart 5 (some .int) (v_rm 0 0 0) (QI r (lay G S)) 0 0 0 [(0, .ref (v_B G + 291))] [] (lay G S)
  refine v_ldcw dX10_apart_0 co_X10_371 ?_
  refine v_istore_n dX10_apart_3 rfl (by decide) rfl ?_
  refine v_iconst dX10_apart_4 (by decide : _ = (0 : Int32)) ?_
  refine v_istore_n dX10_apart_5 rfl (by decide) rfl ?_
  exact v_sub [2, 1, 0] rfl (tb_X10_apart_6 N _ _ _ rfl hh)
def f_X10_setAside_b3 (N : Nat) : Nat → Int32 → St → Option (St)
  | 0, _, _ => none
  | n + 1, x1, S =>
  if (41 : Int32) ≤ x1 then
  (lt (sI S 1023 0 0 (0 : Int32)) fun S1 =>
  some S1)
  else
  (chk (inb x1 3015) (
  chk (inb x1 41) (
  lt (sI S 1025 0 x1.toNatClampNeg (gI S 1000 0 x1.toNatClampNeg)) fun S4 =>
  lt (x1 + (1 : Int32)) fun v5 =>
  f_X10_setAside_b3 N n v5 S4)))
set_option maxRecDepth 100000 in
set_option maxHeartbeats 4000000 in
theorem tb_X10_setAside_3 {l : Launch} {G : v_G} {N : Nat}    {r : St}   : ∀ (n : Nat) (x1 : Int32) (S : St),  f_X10_setAside_b3 N n x1 S = some r → V l G yX10_setAside cX10_setAside 2 (none) (v_rm 0 0 0) (QV (lay G r)) 0 0 3 [(0, .ref (v_B G + 291)), (1, .int x1)] [] (lay G S) := by
  intro n
  induction n with
  | zero =>
    intro x1 S  hh
    rw [f_X10_setAside_b3] at hh
    cases hh
  | succ n ih =>
    intro x1 S  hh
    rw [f_X10_setAside_b3] at hh
    refine v_iload_n 1 dX10_setAside_3 rfl rfl ?_
    refine v_bipush dX10_setAside_4 (by decide : _ = (41 : Int32)) ?_
    refine v_icmp_ge (tgt := 27) dX10_setAside_6 (by decide) (fun c => ?_) (fun c => ?_)
    · replace hh := (if_pos c).symm.trans hh
      refine v_aload_n 0 dX10_setAside_27 rfl rfl ?_
      refine v_iconst dX10_setAside_28 (by decide : _ = (0 : Int32)) ?_
      refine w_Model_isWritten dX10_setAside_29 fl_X10_43 (by decide) ?_
      replace hh := lt_of hh
      obtain rfl := Option.some.inj hh
      exact v_vret dX10_setAside_32 rfl (Nat.zero_le _) (Nat.zero_le _) ⟨rfl, rfl⟩
    · replace hh := (if_neg c).symm.trans hh
      refine v_aload_n 0 dX10_setAside_9 rfl rfl ?_
      refine r_Model_aside dX10_setAside_10 fl_X10_47 ?_
      refine v_iload_n 1 dX10_setAside_13 rfl rfl ?_
      refine v_aload_n 0 dX10_setAside_14 rfl rfl ?_
      refine r_Model_a dX10_setAside_15 fl_X10_7 ?_
      refine v_iload_n 1 dX10_setAside_18 rfl rfl ?_
      obtain ⟨g2, hh⟩ := chk_some hh
      replace g2 := inb_in g2
      refine ld_ma dX10_setAside_19 g2 ?_
      obtain ⟨g3, hh⟩ := chk_some hh
      replace g3 := inb_in g3
      refine st_aside dX10_setAside_20 g3 ?_
      replace hh := lt_of hh
      refine v_iinc (v := _ + (1 : Int32)) 1 dX10_setAside_21 rfl rfl (by decide) rfl ?_
      replace hh := lt_of hh
      refine v_goto (tgt := 3) dX10_setAside_24 (by decide) ?_
      exact v_sub [1, 0] rfl (ih _ _ hh)
def f_X10_setAside (N : Nat) (S : St)  : Option (St) :=
  f_X10_setAside_b3 N N (6 : Int32) S
set_option maxRecDepth 100000 in
set_option maxHeartbeats 4000000 in
theorem t_X10_setAside {l : Launch} {G : v_G} {N : Nat} {S : St}    {r : St} (hh : f_X10_setAside N S  = some r) : v_M l G yX10_setAside cX10_setAside 2 (none) 0 0 0 [.ref (v_B G + 291)] (lay G S) (QV (lay G r)) := by
  refine v_entry (by decide) (Nat.le_of_ble_eq_true rfl) ?_
  unfold f_X10_setAside at hh
  show V l G yX10_setAside cX10_setAside 2 (none) (v_rm 0 0 0) (QV (lay G r)) 0 0 0 [(0, .ref (v_B G + 291))] [] (lay G S)
  refine v_bipush dX10_setAside_0 (by decide : _ = (6 : Int32)) ?_
  refine v_istore_n dX10_setAside_2 rfl (by decide) rfl ?_
  exact v_sub [1, 0] rfl (tb_X10_setAside_3 N _ _ hh)
def f_X10_putBack_b3 (N : Nat) : Nat → Int32 → St → Option (St)
  | 0, _, _ => none
  | n + 1, x1, S =>
  if (41 : Int32) ≤ x1 then
  (lt (sI S 1023 0 0 (1 : Int32)) fun S1 =>
  some S1)
  else
  (chk (inb x1 41) (
  chk (inb x1 3015) (
  lt (sI S 1000 0 x1.toNatClampNeg (gI S 1025 0 x1.toNatClampNeg)) fun S4 =>
  lt (x1 + (1 : Int32)) fun v5 =>
  f_X10_putBack_b3 N n v5 S4)))
set_option maxRecDepth 100000 in
set_option maxHeartbeats 4000000 in
theorem tb_X10_putBack_3 {l : Launch} {G : v_G} {N : Nat}    {r : St}   : ∀ (n : Nat) (x1 : Int32) (S : St),  f_X10_putBack_b3 N n x1 S = some r → V l G yX10_putBack cX10_putBack 2 (none) (v_rm 0 0 0) (QV (lay G r)) 0 0 3 [(0, .ref (v_B G + 291)), (1, .int x1)] [] (lay G S) := by
  intro n
  induction n with
  | zero =>
    intro x1 S  hh
    rw [f_X10_putBack_b3] at hh
    cases hh
  | succ n ih =>
    intro x1 S  hh
    rw [f_X10_putBack_b3] at hh
    refine v_iload_n 1 dX10_putBack_3 rfl rfl ?_
    refine v_bipush dX10_putBack_4 (by decide : _ = (41 : Int32)) ?_
    refine v_icmp_ge (tgt := 27) dX10_putBack_6 (by decide) (fun c => ?_) (fun c => ?_)
    · replace hh := (if_pos c).symm.trans hh
      refine v_aload_n 0 dX10_putBack_27 rfl rfl ?_
      refine v_iconst dX10_putBack_28 (by decide : _ = (1 : Int32)) ?_
      refine w_Model_isWritten dX10_putBack_29 fl_X10_43 (by decide) ?_
      replace hh := lt_of hh
      obtain rfl := Option.some.inj hh
      exact v_vret dX10_putBack_32 rfl (Nat.zero_le _) (Nat.zero_le _) ⟨rfl, rfl⟩
    · replace hh := (if_neg c).symm.trans hh
      refine v_aload_n 0 dX10_putBack_9 rfl rfl ?_
      refine r_Model_a dX10_putBack_10 fl_X10_7 ?_
      refine v_iload_n 1 dX10_putBack_13 rfl rfl ?_
      refine v_aload_n 0 dX10_putBack_14 rfl rfl ?_
      refine r_Model_aside dX10_putBack_15 fl_X10_47 ?_
      refine v_iload_n 1 dX10_putBack_18 rfl rfl ?_
      obtain ⟨g2, hh⟩ := chk_some hh
      replace g2 := inb_in g2
      refine ld_aside dX10_putBack_19 g2 ?_
      obtain ⟨g3, hh⟩ := chk_some hh
      replace g3 := inb_in g3
      refine st_ma dX10_putBack_20 g3 ?_
      replace hh := lt_of hh
      refine v_iinc (v := _ + (1 : Int32)) 1 dX10_putBack_21 rfl rfl (by decide) rfl ?_
      replace hh := lt_of hh
      refine v_goto (tgt := 3) dX10_putBack_24 (by decide) ?_
      exact v_sub [1, 0] rfl (ih _ _ hh)
def f_X10_putBack (N : Nat) (S : St)  : Option (St) :=
  f_X10_putBack_b3 N N (6 : Int32) S
set_option maxRecDepth 100000 in
set_option maxHeartbeats 4000000 in
theorem t_X10_putBack {l : Launch} {G : v_G} {N : Nat} {S : St}    {r : St} (hh : f_X10_putBack N S  = some r) : v_M l G yX10_putBack cX10_putBack 2 (none) 0 0 0 [.ref (v_B G + 291)] (lay G S) (QV (lay G r)) := by
  refine v_entry (by decide) (Nat.le_of_ble_eq_true rfl) ?_
  unfold f_X10_putBack at hh
  show V l G yX10_putBack cX10_putBack 2 (none) (v_rm 0 0 0) (QV (lay G r)) 0 0 0 [(0, .ref (v_B G + 291))] [] (lay G S)
  refine v_bipush dX10_putBack_0 (by decide : _ = (6 : Int32)) ?_
  refine v_istore_n dX10_putBack_2 rfl (by decide) rfl ?_
  exact v_sub [1, 0] rfl (tb_X10_putBack_3 N _ _ hh)
def f_X10_foretold_b127 (N : Nat) (s0 : Int32) (S : St) : Option (Int32 × St) :=
  bnd (f_X10_putBack N S ) fun q5 =>
 some (s0, q5)
set_option maxRecDepth 100000 in
set_option maxHeartbeats 4000000 in
theorem tb_X10_foretold_127 {l : Launch} {G : v_G} {N : Nat}    {r : Int32 × St}   : ∀ (s0 : Int32) (S : St),  f_X10_foretold_b127 N s0 S = some r → V l G yX10_foretold cX10_foretold 5 (some .int) (v_rm 8 0 0) (QI r.1 (lay G r.2)) 0 0 127 [(0, .ref (v_B G + 291))] [.int s0] (lay G S) := by
  intro s0 S  hh
  unfold f_X10_foretold_b127 at hh
  refine v_istore dX10_foretold_127 (by decide) rfl ?_
  refine v_aload_n 1 dX10_foretold_129 rfl rfl ?_
  obtain ⟨q5, eq5, hh⟩ := bnd_some hh
  refine v_callVv (t_X10_putBack eq5) dX10_foretold_130 y_X10_putBack ml_X10_375 (ci := 9) rfl rfl (e_Model) rfl rfl (Nat.le_of_ble_eq_true rfl) ⟨(Nat.le_of_ble_eq_true rfl), (Nat.le_of_ble_eq_true rfl)⟩ ⟨Nat.zero_le _, Nat.zero_le _⟩ ?_
  refine v_iload 0 dX10_foretold_133 rfl ?_
  obtain rfl := Option.some.inj hh
  exact v_iret dX10_foretold_135 rfl (Nat.zero_le _) (Nat.zero_le _) ⟨rfl, rfl⟩
def f_X10_foretold_b61 (N : Nat) : Nat → Int32 → Int32 → Int32 → Int32 → St → Option (Int32 × St)
  | 0, _, _, _, _, _ => none
  | n + 1, x1, x2, x3, x4, S =>
  if x1 ≤ x4 then
  (if x2 = (0 : Int32) then
  (chk (inb ((11 : Int32) + x3) 3015) (
  f_X10_foretold_b127 N (gI S 1000 0 ((11 : Int32) + x3).toNatClampNeg) S))
  else
  (if x2 = (1 : Int32) then
  (chk (inb ((35 : Int32) + x3) 3015) (
  f_X10_foretold_b127 N (gI S 1000 0 ((35 : Int32) + x3).toNatClampNeg) S))
  else
  (bnd (f_X10_tornNow N S ) fun q4 =>
 f_X10_foretold_b127 N q4 S)))
  else
  (if (9999 : Int32) ≤ (gI S 1000 0 6) then
  (lt (x4 + (1 : Int32)) fun v9 =>
  f_X10_foretold_b61 N n x1 x2 x3 v9 S)
  else
  (bnd (f_X10_pass N S ) fun q10 =>
 lt (x4 + (1 : Int32)) fun v11 =>
  f_X10_foretold_b61 N n x1 x2 x3 v11 q10))
set_option maxRecDepth 100000 in
set_option maxHeartbeats 4000000 in
theorem tb_X10_foretold_61 {l : Launch} {G : v_G} {N : Nat}    {r : Int32 × St}   : ∀ (n : Nat) (x1 : Int32) (x2 : Int32) (x3 : Int32) (x4 : Int32) (S : St),  f_X10_foretold_b61 N n x1 x2 x3 x4 S = some r → V l G yX10_foretold cX10_foretold 5 (some .int) (v_rm 8 0 0) (QI r.1 (lay G r.2)) 0 0 61 [(0, .ref (v_B G + 291)), (1, .int x1), (2, .int x2), (3, .int x3), (4, .int x4)] [] (lay G S) := by
  intro n
  induction n with
  | zero =>
    intro x1 x2 x3 x4 S  hh
    rw [f_X10_foretold_b61] at hh
    cases hh
  | succ n ih =>
    intro x1 x2 x3 x4 S  hh
    rw [f_X10_foretold_b61] at hh
    refine v_iload 4 dX10_foretold_61 rfl ?_
    refine v_iload_n 1 dX10_foretold_63 rfl rfl ?_
    refine v_icmp_ge (tgt := 90) dX10_foretold_64 (by decide) (fun c => ?_) (fun c => ?_)
    · replace hh := (if_pos c).symm.trans hh
      refine v_iload_n 2 dX10_foretold_90 rfl rfl ?_
      refine v_if_ne (tgt := 106) dX10_foretold_91 (by decide) (fun c => ?_) (fun c => ?_)
      · replace hh := (if_neg c).symm.trans hh
        refine v_iload_n 2 dX10_foretold_106 rfl rfl ?_
        refine v_iconst dX10_foretold_107 (by decide : _ = (1 : Int32)) ?_
        refine v_icmp_ne (tgt := 123) dX10_foretold_108 (by decide) (fun c => ?_) (fun c => ?_)
        · replace hh := (if_neg c).symm.trans hh
          refine v_aload_n 0 dX10_foretold_123 rfl rfl ?_
          obtain ⟨q4, eq4, hh⟩ := bnd_some hh
          refine v_callVi (t_X10_tornNow eq4) dX10_foretold_124 y_X10_tornNow ml_X10_362 (ci := 9) rfl rfl (e_Model) rfl rfl (Nat.le_of_ble_eq_true rfl) ⟨(Nat.le_of_ble_eq_true rfl), (Nat.le_of_ble_eq_true rfl)⟩ ⟨Nat.zero_le _, Nat.zero_le _⟩ ?_
          exact v_sub [0] rfl (tb_X10_foretold_127 _ _ hh)
        · replace hh := (if_pos c).symm.trans hh
          refine v_aload_n 0 dX10_foretold_111 rfl rfl ?_
          refine r_Model_a dX10_foretold_112 fl_X10_7 ?_
          refine v_bipush dX10_foretold_115 (by decide : _ = (35 : Int32)) ?_
          refine v_iload_n 3 dX10_foretold_117 rfl rfl ?_
          refine v_iadd dX10_foretold_118 ?_
          obtain ⟨g6, hh⟩ := chk_some hh
          replace g6 := inb_in g6
          refine ld_ma dX10_foretold_119 g6 ?_
          refine v_goto (tgt := 127) dX10_foretold_120 (by decide) ?_
          exact v_sub [0] rfl (tb_X10_foretold_127 _ _ hh)
      · replace hh := (if_pos c).symm.trans hh
        refine v_aload_n 0 dX10_foretold_94 rfl rfl ?_
        refine r_Model_a dX10_foretold_95 fl_X10_7 ?_
        refine v_bipush dX10_foretold_98 (by decide : _ = (11 : Int32)) ?_
        refine v_iload_n 3 dX10_foretold_100 rfl rfl ?_
        refine v_iadd dX10_foretold_101 ?_
        obtain ⟨g7, hh⟩ := chk_some hh
        replace g7 := inb_in g7
        refine ld_ma dX10_foretold_102 g7 ?_
        refine v_goto (tgt := 127) dX10_foretold_103 (by decide) ?_
        exact v_sub [0] rfl (tb_X10_foretold_127 _ _ hh)
    · replace hh := (if_neg c).symm.trans hh
      refine v_aload_n 0 dX10_foretold_67 rfl rfl ?_
      refine r_Model_a dX10_foretold_68 fl_X10_7 ?_
      refine v_bipush dX10_foretold_71 (by decide : _ = (6 : Int32)) ?_
      refine ld_ma dX10_foretold_73 (inb_in (by decide)) ?_
      refine v_sipush dX10_foretold_74 (by decide : _ = (9999 : Int32)) ?_
      refine v_icmp_ge (tgt := 84) dX10_foretold_77 (by decide) (fun c => ?_) (fun c => ?_)
      · replace hh := (if_pos c).symm.trans hh
        refine v_iinc (v := _ + (1 : Int32)) 4 dX10_foretold_84 rfl rfl (by decide) rfl ?_
        replace hh := lt_of hh
        refine v_goto (tgt := 61) dX10_foretold_87 (by decide) ?_
        exact v_sub [1, 2, 3, 4, 0] rfl (ih _ _ _ _ _ hh)
      · replace hh := (if_neg c).symm.trans hh
        refine v_aload_n 0 dX10_foretold_80 rfl rfl ?_
        obtain ⟨q10, eq10, hh⟩ := bnd_some hh
        refine v_callVv (t_X10_pass eq10) dX10_foretold_81 y_X10_pass ml_X10_329 (ci := 9) rfl rfl (e_Model) rfl rfl (Nat.le_of_ble_eq_true rfl) ⟨(Nat.le_of_ble_eq_true rfl), (Nat.le_of_ble_eq_true rfl)⟩ ⟨Nat.zero_le _, Nat.zero_le _⟩ ?_
        refine v_iinc (v := _ + (1 : Int32)) 4 dX10_foretold_84 rfl rfl (by decide) rfl ?_
        replace hh := lt_of hh
        refine v_goto (tgt := 61) dX10_foretold_87 (by decide) ?_
        exact v_sub [1, 2, 3, 4, 0] rfl (ih _ _ _ _ _ hh)
def f_X10_foretold_b54 (N : Nat) (x1 : Int32) (x2 : Int32) (x3 : Int32) (S : St) : Option (Int32 × St) :=
  bnd (f_X10_setAside N S ) fun q3 =>
 f_X10_foretold_b61 N N x1 x2 x3 (0 : Int32) q3
set_option maxRecDepth 100000 in
set_option maxHeartbeats 4000000 in
theorem tb_X10_foretold_54 {l : Launch} {G : v_G} {N : Nat}    {r : Int32 × St}   : ∀ (x1 : Int32) (x2 : Int32) (x3 : Int32) (S : St),  f_X10_foretold_b54 N x1 x2 x3 S = some r → V l G yX10_foretold cX10_foretold 5 (some .int) (v_rm 8 0 0) (QI r.1 (lay G r.2)) 0 0 54 [(0, .ref (v_B G + 291)), (1, .int x1), (2, .int x2), (3, .int x3)] [] (lay G S) := by
  intro x1 x2 x3 S  hh
  unfold f_X10_foretold_b54 at hh
  refine v_aload_n 0 dX10_foretold_54 rfl rfl ?_
  obtain ⟨q3, eq3, hh⟩ := bnd_some hh
  refine v_callVv (t_X10_setAside eq3) dX10_foretold_55 y_X10_setAside ml_X10_372 (ci := 9) rfl rfl (e_Model) rfl rfl (Nat.le_of_ble_eq_true rfl) ⟨(Nat.le_of_ble_eq_true rfl), (Nat.le_of_ble_eq_true rfl)⟩ ⟨Nat.zero_le _, Nat.zero_le _⟩ ?_
  refine v_iconst dX10_foretold_58 (by decide : _ = (0 : Int32)) ?_
  refine v_istore dX10_foretold_59 (by decide) rfl ?_
  exact v_sub [1, 2, 3, 4, 0] rfl (tb_X10_foretold_61 N _ _ _ _ _ hh)
def f_X10_foretold_b30 (N : Nat) (x1 : Int32) (x2 : Int32) (x3 : Int32) (S : St) : Option (Int32 × St) :=
  if x2 = (1 : Int32) then
  (bnd (f_X10_isIn S x3 (0 : Int32) ((gI S 1000 0 1) - (1 : Int32))) fun q13 =>
 if q13 = (0 : Int32) then
  (some ((-2 : Int32), S))
  else
  (f_X10_foretold_b54 N x1 x2 x3 S))
  else
  (f_X10_foretold_b54 N x1 x2 x3 S)
set_option maxRecDepth 100000 in
set_option maxHeartbeats 4000000 in
theorem tb_X10_foretold_30 {l : Launch} {G : v_G} {N : Nat}    {r : Int32 × St}   : ∀ (x1 : Int32) (x2 : Int32) (x3 : Int32) (S : St),  f_X10_foretold_b30 N x1 x2 x3 S = some r → V l G yX10_foretold cX10_foretold 5 (some .int) (v_rm 8 0 0) (QI r.1 (lay G r.2)) 0 0 30 [(0, .ref (v_B G + 291)), (1, .int x1), (2, .int x2), (3, .int x3)] [] (lay G S) := by
  intro x1 x2 x3 S  hh
  unfold f_X10_foretold_b30 at hh
  refine v_iload_n 2 dX10_foretold_30 rfl rfl ?_
  refine v_iconst dX10_foretold_31 (by decide : _ = (1 : Int32)) ?_
  refine v_icmp_ne (tgt := 54) dX10_foretold_32 (by decide) (fun c => ?_) (fun c => ?_)
  · replace hh := (if_neg c).symm.trans hh
    exact v_sub [0, 1, 2, 3] rfl (tb_X10_foretold_54 _ _ _ _ hh)
  · replace hh := (if_pos c).symm.trans hh
    refine v_iload_n 3 dX10_foretold_35 rfl rfl ?_
    refine v_iconst dX10_foretold_36 (by decide : _ = (0 : Int32)) ?_
    refine v_aload_n 0 dX10_foretold_37 rfl rfl ?_
    refine r_Model_a dX10_foretold_38 fl_X10_7 ?_
    refine v_iconst dX10_foretold_41 (by decide : _ = (1 : Int32)) ?_
    refine ld_ma dX10_foretold_42 (inb_in (by decide)) ?_
    refine v_iconst dX10_foretold_43 (by decide : _ = (1 : Int32)) ?_
    refine v_isub dX10_foretold_44 ?_
    obtain ⟨q13, eq13, hh⟩ := bnd_some hh
    refine v_callSi (t_X10_isIn eq13) dX10_foretold_45 y_X10_isIn ml_X10_63 rfl rfl (Nat.le_of_ble_eq_true rfl) ⟨(Nat.le_of_ble_eq_true rfl), (Nat.le_of_ble_eq_true rfl)⟩ ⟨Nat.zero_le _, Nat.zero_le _⟩ ?_
    refine v_if_ne (tgt := 54) dX10_foretold_48 (by decide) (fun c => ?_) (fun c => ?_)
    · replace hh := (if_neg c).symm.trans hh
      exact v_sub [0, 1, 2, 3] rfl (tb_X10_foretold_54 _ _ _ _ hh)
    · replace hh := (if_pos c).symm.trans hh
      refine v_bipush dX10_foretold_51 (by decide : _ = (-2 : Int32)) ?_
      obtain rfl := Option.some.inj hh
      exact v_iret dX10_foretold_53 rfl (Nat.zero_le _) (Nat.zero_le _) ⟨rfl, rfl⟩
def f_X10_foretold (N : Nat) (S : St) (x1 : Int32) (x2 : Int32) (x3 : Int32) : Option (Int32 × St) :=
  bnd (f_X10_isIn S x1 (1 : Int32) (60 : Int32)) fun q1 =>
 if q1 = (0 : Int32) then
  (some ((-2 : Int32), S))
  else
  (bnd (f_X10_isIn S x2 (0 : Int32) (2 : Int32)) fun q2 =>
 if q2 = (0 : Int32) then
  (some ((-2 : Int32), S))
  else
  (if x2 = (0 : Int32) then
  (bnd (f_X10_isCell S x3) fun q14 =>
 if q14 = (0 : Int32) then
  (some ((-2 : Int32), S))
  else
  (f_X10_foretold_b30 N x1 x2 x3 S))
  else
  (f_X10_foretold_b30 N x1 x2 x3 S)))
set_option maxRecDepth 100000 in
set_option maxHeartbeats 4000000 in
theorem t_X10_foretold {l : Launch} {G : v_G} {N : Nat} {S : St}   {x1 : Int32} {x2 : Int32} {x3 : Int32} {r : Int32 × St} (hh : f_X10_foretold N S x1 x2 x3 = some r) : v_M l G yX10_foretold cX10_foretold 5 (some .int) 8 0 0 [.ref (v_B G + 291), .int x1, .int x2, .int x3] (lay G S) (QI r.1 (lay G r.2)) := by
  refine v_entry (by decide) (Nat.le_of_ble_eq_true rfl) ?_
  unfold f_X10_foretold at hh
  show V l G yX10_foretold cX10_foretold 5 (some .int) (v_rm 8 0 0) (QI r.1 (lay G r.2)) 0 0 0 [(0, .ref (v_B G + 291)), (1, .int x1), (2, .int x2), (3, .int x3)] [] (lay G S)
  refine v_iload_n 1 dX10_foretold_0 rfl rfl ?_
  refine v_iconst dX10_foretold_1 (by decide : _ = (1 : Int32)) ?_
  refine v_bipush dX10_foretold_2 (by decide : _ = (60 : Int32)) ?_
  obtain ⟨q1, eq1, hh⟩ := bnd_some hh
  refine v_callSi (t_X10_isIn eq1) dX10_foretold_4 y_X10_isIn ml_X10_63 rfl rfl (Nat.le_of_ble_eq_true rfl) ⟨(Nat.le_of_ble_eq_true rfl), (Nat.le_of_ble_eq_true rfl)⟩ ⟨Nat.zero_le _, Nat.zero_le _⟩ ?_
  refine v_if_eq (tgt := 51) dX10_foretold_7 (by decide) (fun c => ?_) (fun c => ?_)
  · replace hh := (if_pos c).symm.trans hh
    refine v_bipush dX10_foretold_51 (by decide : _ = (-2 : Int32)) ?_
    obtain rfl := Option.some.inj hh
    exact v_iret dX10_foretold_53 rfl (Nat.zero_le _) (Nat.zero_le _) ⟨rfl, rfl⟩
  · replace hh := (if_neg c).symm.trans hh
    refine v_iload_n 2 dX10_foretold_10 rfl rfl ?_
    refine v_iconst dX10_foretold_11 (by decide : _ = (0 : Int32)) ?_
    refine v_iconst dX10_foretold_12 (by decide : _ = (2 : Int32)) ?_
    obtain ⟨q2, eq2, hh⟩ := bnd_some hh
    refine v_callSi (t_X10_isIn eq2) dX10_foretold_13 y_X10_isIn ml_X10_63 rfl rfl (Nat.le_of_ble_eq_true rfl) ⟨(Nat.le_of_ble_eq_true rfl), (Nat.le_of_ble_eq_true rfl)⟩ ⟨Nat.zero_le _, Nat.zero_le _⟩ ?_
    refine v_if_eq (tgt := 51) dX10_foretold_16 (by decide) (fun c => ?_) (fun c => ?_)
    · replace hh := (if_pos c).symm.trans hh
      refine v_bipush dX10_foretold_51 (by decide : _ = (-2 : Int32)) ?_
      obtain rfl := Option.some.inj hh
      exact v_iret dX10_foretold_53 rfl (Nat.zero_le _) (Nat.zero_le _) ⟨rfl, rfl⟩
    · replace hh := (if_neg c).symm.trans hh
      refine v_iload_n 2 dX10_foretold_19 rfl rfl ?_
      refine v_if_ne (tgt := 30) dX10_foretold_20 (by decide) (fun c => ?_) (fun c => ?_)
      · replace hh := (if_neg c).symm.trans hh
        exact v_sub [0, 1, 2, 3] rfl (tb_X10_foretold_30 _ _ _ _ hh)
      · replace hh := (if_pos c).symm.trans hh
        refine v_iload_n 3 dX10_foretold_23 rfl rfl ?_
        obtain ⟨q14, eq14, hh⟩ := bnd_some hh
        refine v_callSi (t_X10_isCell eq14) dX10_foretold_24 y_X10_isCell ml_X10_67 rfl rfl (Nat.le_of_ble_eq_true rfl) ⟨(Nat.le_of_ble_eq_true rfl), (Nat.le_of_ble_eq_true rfl)⟩ ⟨Nat.zero_le _, Nat.zero_le _⟩ ?_
        refine v_if_eq (tgt := 51) dX10_foretold_27 (by decide) (fun c => ?_) (fun c => ?_)
        · replace hh := (if_pos c).symm.trans hh
          refine v_bipush dX10_foretold_51 (by decide : _ = (-2 : Int32)) ?_
          obtain rfl := Option.some.inj hh
          exact v_iret dX10_foretold_53 rfl (Nat.zero_le _) (Nat.zero_le _) ⟨rfl, rfl⟩
        · replace hh := (if_neg c).symm.trans hh
          exact v_sub [0, 1, 2, 3] rfl (tb_X10_foretold_30 _ _ _ _ hh)
def f_X10_mostOf_b5 (N : Nat) : Nat → Int32 → Int32 → Int32 → Int32 → St → Option (Int32)
  | 0, _, _, _, _, _ => none
  | n + 1, x1, x2, x3, x4, S =>
  if (x1 + x2) ≤ x4 then
  (some x3)
  else
  (chk (inb ((11 : Int32) + x4) 3015) (
  if (gI S 1000 0 ((11 : Int32) + x4).toNatClampNeg) ≤ x3 then
  (lt (x4 + (1 : Int32)) fun v2 =>
  f_X10_mostOf_b5 N n x1 x2 x3 v2 S)
  else
  (chk (inb ((11 : Int32) + x4) 3015) (
  lt (gI S 1000 0 ((11 : Int32) + x4).toNatClampNeg) fun v4 =>
  lt (x4 + (1 : Int32)) fun v5 =>
  f_X10_mostOf_b5 N n x1 x2 v4 v5 S))))
set_option maxRecDepth 100000 in
set_option maxHeartbeats 4000000 in
theorem tb_X10_mostOf_5 {l : Launch} {G : v_G} {N : Nat}    {r : Int32} {S0 : St}   : ∀ (n : Nat) (x1 : Int32) (x2 : Int32) (x3 : Int32) (x4 : Int32) (S : St),  S = S0 → f_X10_mostOf_b5 N n x1 x2 x3 x4 S = some r → V l G yX10_mostOf cX10_mostOf 5 (some .int) (v_rm 0 0 0) (QI r (lay G S0)) 0 0 5 [(0, .ref (v_B G + 291)), (1, .int x1), (2, .int x2), (3, .int x3), (4, .int x4)] [] (lay G S) := by
  intro n
  induction n with
  | zero =>
    intro x1 x2 x3 x4 S  hS0 hh
    rw [f_X10_mostOf_b5] at hh
    cases hh
  | succ n ih =>
    intro x1 x2 x3 x4 S  hS0 hh
    rw [f_X10_mostOf_b5] at hh
    refine v_iload 4 dX10_mostOf_5 rfl ?_
    refine v_iload_n 1 dX10_mostOf_7 rfl rfl ?_
    refine v_iload_n 2 dX10_mostOf_8 rfl rfl ?_
    refine v_iadd dX10_mostOf_9 ?_
    refine v_icmp_ge (tgt := 48) dX10_mostOf_10 (by decide) (fun c => ?_) (fun c => ?_)
    · replace hh := (if_pos c).symm.trans hh
      refine v_iload_n 3 dX10_mostOf_48 rfl rfl ?_
      obtain rfl := Option.some.inj hh
      exact v_iret dX10_mostOf_49 rfl (Nat.zero_le _) (Nat.zero_le _) ⟨rfl, by rw [hS0]⟩
    · replace hh := (if_neg c).symm.trans hh
      refine v_aload_n 0 dX10_mostOf_13 rfl rfl ?_
      refine r_Model_a dX10_mostOf_14 fl_X10_7 ?_
      refine v_bipush dX10_mostOf_17 (by decide : _ = (11 : Int32)) ?_
      refine v_iload 4 dX10_mostOf_19 rfl ?_
      refine v_iadd dX10_mostOf_21 ?_
      obtain ⟨g1, hh⟩ := chk_some hh
      replace g1 := inb_in g1
      refine ld_ma dX10_mostOf_22 g1 ?_
      refine v_iload_n 3 dX10_mostOf_23 rfl rfl ?_
      refine v_icmp_le (tgt := 40) dX10_mostOf_24 (by decide) (fun c => ?_) (fun c => ?_)
      · replace hh := (if_pos c).symm.trans hh
        refine v_iload_n 3 dX10_mostOf_40 rfl rfl ?_
        refine v_istore_n dX10_mostOf_41 rfl (by decide) rfl ?_
        refine v_iinc (v := _ + (1 : Int32)) 4 dX10_mostOf_42 rfl rfl (by decide) rfl ?_
        replace hh := lt_of hh
        refine v_goto (tgt := 5) dX10_mostOf_45 (by decide) ?_
        exact v_sub [2, 3, 4, 1, 0] rfl (ih _ _ _ _ _ hS0 hh)
      · replace hh := (if_neg c).symm.trans hh
        refine v_aload_n 0 dX10_mostOf_27 rfl rfl ?_
        refine r_Model_a dX10_mostOf_28 fl_X10_7 ?_
        refine v_bipush dX10_mostOf_31 (by decide : _ = (11 : Int32)) ?_
        refine v_iload 4 dX10_mostOf_33 rfl ?_
        refine v_iadd dX10_mostOf_35 ?_
        obtain ⟨g3, hh⟩ := chk_some hh
        replace g3 := inb_in g3
        refine ld_ma dX10_mostOf_36 g3 ?_
        refine v_goto (tgt := 41) dX10_mostOf_37 (by decide) ?_
        refine v_istore_n dX10_mostOf_41 rfl (by decide) rfl ?_
        replace hh := lt_of hh
        refine v_iinc (v := _ + (1 : Int32)) 4 dX10_mostOf_42 rfl rfl (by decide) rfl ?_
        replace hh := lt_of hh
        refine v_goto (tgt := 5) dX10_mostOf_45 (by decide) ?_
        exact v_sub [2, 3, 4, 1, 0] rfl (ih _ _ _ _ _ hS0 hh)
def f_X10_mostOf (N : Nat) (S : St) (x1 : Int32) (x2 : Int32) : Option (Int32) :=
  f_X10_mostOf_b5 N N x1 x2 (0 : Int32) x1 S
set_option maxRecDepth 100000 in
set_option maxHeartbeats 4000000 in
theorem t_X10_mostOf {l : Launch} {G : v_G} {N : Nat} {S : St}   {x1 : Int32} {x2 : Int32} {r : Int32} (hh : f_X10_mostOf N S x1 x2 = some r) : v_M l G yX10_mostOf cX10_mostOf 5 (some .int) 0 0 0 [.ref (v_B G + 291), .int x1, .int x2] (lay G S) (QI r (lay G S)) := by
  refine v_entry (by decide) (Nat.le_of_ble_eq_true rfl) ?_
  unfold f_X10_mostOf at hh
  show V l G yX10_mostOf cX10_mostOf 5 (some .int) (v_rm 0 0 0) (QI r (lay G S)) 0 0 0 [(0, .ref (v_B G + 291)), (1, .int x1), (2, .int x2)] [] (lay G S)
  refine v_iconst dX10_mostOf_0 (by decide : _ = (0 : Int32)) ?_
  refine v_istore_n dX10_mostOf_1 rfl (by decide) rfl ?_
  refine v_iload_n 2 dX10_mostOf_2 rfl rfl ?_
  refine v_istore dX10_mostOf_3 (by decide) rfl ?_
  exact v_sub [2, 3, 4, 1, 0] rfl (tb_X10_mostOf_5 N _ _ _ _ _ rfl hh)
def f_X10_leastOf_b7 (N : Nat) : Nat → Int32 → Int32 → Int32 → Int32 → St → Option (Int32)
  | 0, _, _, _, _, _ => none
  | n + 1, x1, x2, x3, x4, S =>
  if (x1 + x2) ≤ x4 then
  (some x3)
  else
  (chk (inb ((11 : Int32) + x4) 3015) (
  if x3 ≤ (gI S 1000 0 ((11 : Int32) + x4).toNatClampNeg) then
  (lt (x4 + (1 : Int32)) fun v2 =>
  f_X10_leastOf_b7 N n x1 x2 x3 v2 S)
  else
  (chk (inb ((11 : Int32) + x4) 3015) (
  lt (gI S 1000 0 ((11 : Int32) + x4).toNatClampNeg) fun v4 =>
  lt (x4 + (1 : Int32)) fun v5 =>
  f_X10_leastOf_b7 N n x1 x2 v4 v5 S))))
set_option maxRecDepth 100000 in
set_option maxHeartbeats 4000000 in
theorem tb_X10_leastOf_7 {l : Launch} {G : v_G} {N : Nat}    {r : Int32} {S0 : St}   : ∀ (n : Nat) (x1 : Int32) (x2 : Int32) (x3 : Int32) (x4 : Int32) (S : St),  S = S0 → f_X10_leastOf_b7 N n x1 x2 x3 x4 S = some r → V l G yX10_leastOf cX10_leastOf 5 (some .int) (v_rm 0 0 0) (QI r (lay G S0)) 0 0 7 [(0, .ref (v_B G + 291)), (1, .int x1), (2, .int x2), (3, .int x3), (4, .int x4)] [] (lay G S) := by
  intro n
  induction n with
  | zero =>
    intro x1 x2 x3 x4 S  hS0 hh
    rw [f_X10_leastOf_b7] at hh
    cases hh
  | succ n ih =>
    intro x1 x2 x3 x4 S  hS0 hh
    rw [f_X10_leastOf_b7] at hh
    refine v_iload 4 dX10_leastOf_7 rfl ?_
    refine v_iload_n 1 dX10_leastOf_9 rfl rfl ?_
    refine v_iload_n 2 dX10_leastOf_10 rfl rfl ?_
    refine v_iadd dX10_leastOf_11 ?_
    refine v_icmp_ge (tgt := 50) dX10_leastOf_12 (by decide) (fun c => ?_) (fun c => ?_)
    · replace hh := (if_pos c).symm.trans hh
      refine v_iload_n 3 dX10_leastOf_50 rfl rfl ?_
      obtain rfl := Option.some.inj hh
      exact v_iret dX10_leastOf_51 rfl (Nat.zero_le _) (Nat.zero_le _) ⟨rfl, by rw [hS0]⟩
    · replace hh := (if_neg c).symm.trans hh
      refine v_aload_n 0 dX10_leastOf_15 rfl rfl ?_
      refine r_Model_a dX10_leastOf_16 fl_X10_7 ?_
      refine v_bipush dX10_leastOf_19 (by decide : _ = (11 : Int32)) ?_
      refine v_iload 4 dX10_leastOf_21 rfl ?_
      refine v_iadd dX10_leastOf_23 ?_
      obtain ⟨g1, hh⟩ := chk_some hh
      replace g1 := inb_in g1
      refine ld_ma dX10_leastOf_24 g1 ?_
      refine v_iload_n 3 dX10_leastOf_25 rfl rfl ?_
      refine v_icmp_ge (tgt := 42) dX10_leastOf_26 (by decide) (fun c => ?_) (fun c => ?_)
      · replace hh := (if_pos c).symm.trans hh
        refine v_iload_n 3 dX10_leastOf_42 rfl rfl ?_
        refine v_istore_n dX10_leastOf_43 rfl (by decide) rfl ?_
        refine v_iinc (v := _ + (1 : Int32)) 4 dX10_leastOf_44 rfl rfl (by decide) rfl ?_
        replace hh := lt_of hh
        refine v_goto (tgt := 7) dX10_leastOf_47 (by decide) ?_
        exact v_sub [2, 3, 4, 1, 0] rfl (ih _ _ _ _ _ hS0 hh)
      · replace hh := (if_neg c).symm.trans hh
        refine v_aload_n 0 dX10_leastOf_29 rfl rfl ?_
        refine r_Model_a dX10_leastOf_30 fl_X10_7 ?_
        refine v_bipush dX10_leastOf_33 (by decide : _ = (11 : Int32)) ?_
        refine v_iload 4 dX10_leastOf_35 rfl ?_
        refine v_iadd dX10_leastOf_37 ?_
        obtain ⟨g3, hh⟩ := chk_some hh
        replace g3 := inb_in g3
        refine ld_ma dX10_leastOf_38 g3 ?_
        refine v_goto (tgt := 43) dX10_leastOf_39 (by decide) ?_
        refine v_istore_n dX10_leastOf_43 rfl (by decide) rfl ?_
        replace hh := lt_of hh
        refine v_iinc (v := _ + (1 : Int32)) 4 dX10_leastOf_44 rfl rfl (by decide) rfl ?_
        replace hh := lt_of hh
        refine v_goto (tgt := 7) dX10_leastOf_47 (by decide) ?_
        exact v_sub [2, 3, 4, 1, 0] rfl (ih _ _ _ _ _ hS0 hh)
def f_X10_leastOf (N : Nat) (S : St) (x1 : Int32) (x2 : Int32) : Option (Int32) :=
  f_X10_leastOf_b7 N N x1 x2 (2147483647 : Int32) x1 S
set_option maxRecDepth 100000 in
set_option maxHeartbeats 4000000 in
theorem t_X10_leastOf {l : Launch} {G : v_G} {N : Nat} {S : St}   {x1 : Int32} {x2 : Int32} {r : Int32} (hh : f_X10_leastOf N S x1 x2 = some r) : v_M l G yX10_leastOf cX10_leastOf 5 (some .int) 0 0 0 [.ref (v_B G + 291), .int x1, .int x2] (lay G S) (QI r (lay G S)) := by
  refine v_entry (by decide) (Nat.le_of_ble_eq_true rfl) ?_
  unfold f_X10_leastOf at hh
  show V l G yX10_leastOf cX10_leastOf 5 (some .int) (v_rm 0 0 0) (QI r (lay G S)) 0 0 0 [(0, .ref (v_B G + 291)), (1, .int x1), (2, .int x2)] [] (lay G S)
  refine v_ldcw dX10_leastOf_0 co_X10_371 ?_
  refine v_istore_n dX10_leastOf_3 rfl (by decide) rfl ?_
  refine v_iload_n 2 dX10_leastOf_4 rfl rfl ?_
  refine v_istore dX10_leastOf_5 (by decide) rfl ?_
  exact v_sub [2, 3, 4, 1, 0] rfl (tb_X10_leastOf_7 N _ _ _ _ _ rfl hh)
