def f_X1_readLaw (N : Nat) (S : St) (x1 : Int32) : Option (Int32 × St) :=
  lt (sI S 109 0 0 (0 : Int32)) fun S1 =>
  bnd (f_X1_sum N S1 x1 (0 : Int32)) fun q2 =>
 if q2.1 = (0 : Int32) then
  (some ((0 : Int32), q2.2))
  else
  (chk (inb (gI q2.2 109 0 0) 301) (
  lt (sD q2.2 (.inl ((gI q2.2 109 0 0).toNatClampNeg, fun i => gI q2.2 108 0 i))) fun S4 =>
  if x1 = (0 : Int32) then
  (lt (sR S4 110 0 0 (gZ q2.2 + 2)) fun S6 =>
  some ((1 : Int32), S6))
  else
  (lt (sR S4 111 0 0 (gZ q2.2 + 2)) fun S5 =>
  some ((1 : Int32), S5))))
set_option maxRecDepth 100000 in
set_option maxHeartbeats 4000000 in
theorem t_X1_readLaw {l : Launch} {G : v_G} {N : Nat} {S : St}   {x1 : Int32} {r : Int32 × St} (hh : f_X1_readLaw N S x1 = some r) : v_M l G yX1_readLaw cX1_readLaw 3 (some .boolean) 205 1 300 [.ref (v_B G + 288), .int x1] (lay G S) (QI r.1 (lay G r.2)) := by
  refine v_entry (by decide) (Nat.le_of_ble_eq_true rfl) ?_
  unfold f_X1_readLaw at hh
  show V l G yX1_readLaw cX1_readLaw 3 (some .boolean) (v_rm 205 1 300) (QI r.1 (lay G r.2)) 0 0 0 [(0, .ref (v_B G + 288)), (1, .int x1)] [] (lay G S)
  refine v_aload_n 0 dX1_readLaw_0 rfl rfl ?_
  refine v_iconst dX1_readLaw_1 (by decide : _ = (0 : Int32)) ?_
  refine w_Reader_lawLength dX1_readLaw_2 fl_X1_108 ?_
  replace hh := lt_of hh
  refine v_aload_n 0 dX1_readLaw_5 rfl rfl ?_
  refine v_iload_n 1 dX1_readLaw_6 rfl rfl ?_
  refine v_iconst dX1_readLaw_7 (by decide : _ = (0 : Int32)) ?_
  obtain ⟨q2, eq2, hh⟩ := bnd_some hh
  refine v_callVi (t_X1_sum eq2) dX1_readLaw_8 y_X1_sum ml_X1_111 (ci := 0) rfl rfl (e_Reader) rfl rfl (Nat.le_of_ble_eq_true rfl) ⟨(Nat.le_of_ble_eq_true rfl), (Nat.le_of_ble_eq_true rfl)⟩ ⟨by show _ ≤ 1; omega, by show _ ≤ 300; omega⟩ ?_
  refine v_if_ne (tgt := 16) dX1_readLaw_11 (by decide) (fun c => ?_) (fun c => ?_)
  · replace hh := (if_neg c).symm.trans hh
    refine v_aload_n 0 dX1_readLaw_16 rfl rfl ?_
    refine r_Reader_law dX1_readLaw_17 fl_X1_15 ?_
    refine v_aload_n 0 dX1_readLaw_20 rfl rfl ?_
    refine r_Reader_lawLength dX1_readLaw_21 fl_X1_108 ?_
    obtain ⟨g3, hh⟩ := chk_some hh
    replace g3 := inb_in g3
    refine cpO_lawbuf g3 dX1_readLaw_24 ml_X1_70 (Nat.le_of_ble_eq_true rfl) ⟨Nat.le_of_ble_eq_true rfl, Nat.le_of_ble_eq_true rfl⟩ ⟨by show _ ≤ 1; omega, by show _ ≤ 300; omega⟩ ?_
    replace hh := lt_of hh
    refine v_astore_n dX1_readLaw_27 rfl (by decide) rfl ?_
    refine v_iload_n 2 dX1_readLaw_28 rfl rfl ?_
    refine v_if_ne (tgt := 40) dX1_readLaw_29 (by decide) (fun c => ?_) (fun c => ?_)
    · replace hh := (if_neg c).symm.trans hh
      refine v_aload_n 1 dX1_readLaw_40 rfl rfl ?_
      refine v_aload_n 0 dX1_readLaw_41 rfl rfl ?_
      refine w_Reader_tears dX1_readLaw_42 fl_X1_26 ?_
      replace hh := lt_of hh
      refine v_iconst dX1_readLaw_45 (by decide : _ = (1 : Int32)) ?_
      obtain rfl := Option.some.inj hh
      exact v_zret dX1_readLaw_46 rfl (zb (by decide)).1 (by show _ ≤ 1; omega) (by show _ ≤ 300; omega) ⟨rfl, rfl⟩
    · replace hh := (if_pos c).symm.trans hh
      refine v_aload_n 1 dX1_readLaw_32 rfl rfl ?_
      refine v_aload_n 0 dX1_readLaw_33 rfl rfl ?_
      refine w_Reader_moves dX1_readLaw_34 fl_X1_23 ?_
      replace hh := lt_of hh
      refine v_goto (tgt := 45) dX1_readLaw_37 (by decide) ?_
      refine v_iconst dX1_readLaw_45 (by decide : _ = (1 : Int32)) ?_
      obtain rfl := Option.some.inj hh
      exact v_zret dX1_readLaw_46 rfl (zb (by decide)).1 (by show _ ≤ 1; omega) (by show _ ≤ 300; omega) ⟨rfl, rfl⟩
  · replace hh := (if_pos c).symm.trans hh
    refine v_iconst dX1_readLaw_14 (by decide : _ = (0 : Int32)) ?_
    obtain rfl := Option.some.inj hh
    exact v_zret dX1_readLaw_15 rfl (zb (by decide)).1 (by show _ ≤ 1; omega) (by show _ ≤ 300; omega) ⟨rfl, rfl⟩
def f_X1_clause_b126 (N : Nat) (s0 : Int32) (S : St) : Option (Int32 × St) :=
  lt (sI S 107 0 0 ((gI S 107 0 0) + (1 : Int32))) fun S10 =>
  if s0 = (0 : Int32) then
  (some ((0 : Int32), S10))
  else
  (bnd (f_X1_takes S10 (38 : Int32)) fun q11 =>
 if q11.1 = (0 : Int32) then
  (some ((0 : Int32), q11.2))
  else
  (some ((1 : Int32), q11.2)))
set_option maxRecDepth 100000 in
set_option maxHeartbeats 4000000 in
theorem tb_X1_clause_126 {l : Launch} {G : v_G} {N : Nat}    {r : Int32 × St}   : ∀ (s0 : Int32) (S : St),  f_X1_clause_b126 N s0 S = some r → V l G yX1_clause cX1_clause 3 (some .boolean) (v_rm 206 1 300) (QI r.1 (lay G r.2)) 1 300 126 [(0, .ref (v_B G + 288))] [.int s0] (lay G S) := by
  intro s0 S  hh
  unfold f_X1_clause_b126 at hh
  refine v_istore_n dX1_clause_126 rfl (by decide) rfl ?_
  refine v_aload_n 1 dX1_clause_127 rfl rfl ?_
  refine v_dup dX1_clause_128 rfl ?_
  refine r_Reader_clauseCount dX1_clause_129 fl_X1_44 ?_
  refine v_iconst dX1_clause_132 (by decide : _ = (1 : Int32)) ?_
  refine v_iadd dX1_clause_133 ?_
  refine w_Reader_clauseCount dX1_clause_134 fl_X1_44 ?_
  replace hh := lt_of hh
  refine v_iload_n 0 dX1_clause_137 rfl rfl ?_
  refine v_if_eq (tgt := 154) dX1_clause_138 (by decide) (fun c => ?_) (fun c => ?_)
  · replace hh := (if_pos c).symm.trans hh
    refine v_iconst dX1_clause_154 (by decide : _ = (0 : Int32)) ?_
    obtain rfl := Option.some.inj hh
    exact v_zret dX1_clause_155 rfl (zb (by decide)).1 (by show _ ≤ 1; omega) (by show _ ≤ 300; omega) ⟨rfl, rfl⟩
  · replace hh := (if_neg c).symm.trans hh
    refine v_aload_n 1 dX1_clause_141 rfl rfl ?_
    refine v_bipush dX1_clause_142 (by decide : _ = (38 : Int32)) ?_
    obtain ⟨q11, eq11, hh⟩ := bnd_some hh
    refine v_callVi (t_X1_takes eq11) dX1_clause_144 y_X1_takes ml_X1_98 (ci := 0) rfl rfl (e_Reader) rfl rfl (Nat.le_of_ble_eq_true rfl) ⟨(Nat.le_of_ble_eq_true rfl), (Nat.le_of_ble_eq_true rfl)⟩ ⟨by show _ ≤ 1; omega, by show _ ≤ 300; omega⟩ ?_
    refine v_if_eq (tgt := 154) dX1_clause_147 (by decide) (fun c => ?_) (fun c => ?_)
    · replace hh := (if_pos c).symm.trans hh
      refine v_iconst dX1_clause_154 (by decide : _ = (0 : Int32)) ?_
      obtain rfl := Option.some.inj hh
      exact v_zret dX1_clause_155 rfl (zb (by decide)).1 (by show _ ≤ 1; omega) (by show _ ≤ 300; omega) ⟨rfl, rfl⟩
    · replace hh := (if_neg c).symm.trans hh
      refine v_iconst dX1_clause_150 (by decide : _ = (1 : Int32)) ?_
      refine v_goto (tgt := 155) dX1_clause_151 (by decide) ?_
      obtain rfl := Option.some.inj hh
      exact v_zret dX1_clause_155 rfl (zb (by decide)).1 (by show _ ≤ 1; omega) (by show _ ≤ 300; omega) ⟨rfl, rfl⟩
def f_X1_clause_b48 (N : Nat) (x1 : Int32) (S : St) : Option (Int32 × St) :=
  if (gI S 107 0 0) < (24 : Int32) then
  (chk (inb ((3 : Int32) * (gI S 107 0 0)) 72) (
  lt (sI S 106 0 (((3 : Int32) * (gI S 107 0 0)).toNatClampNeg) x1) fun S3 =>
  chk (inb (((3 : Int32) * (gI S3 107 0 0)) + (1 : Int32)) 72) (
  lt (sI S3 106 0 ((((3 : Int32) * (gI S3 107 0 0)) + (1 : Int32)).toNatClampNeg) (0 : Int32)) fun S5 =>
  chk (inb (((3 : Int32) * (gI S5 107 0 0)) + (2 : Int32)) 72) (
  lt (sI S5 106 0 ((((3 : Int32) * (gI S5 107 0 0)) + (2 : Int32)).toNatClampNeg) (0 : Int32)) fun S7 =>
  bnd (f_X1_advance S7 ) fun q8 =>
 if (1 : Int32) < x1 then
  (bnd (f_X1_readDeed q8 x1) fun q9 =>
 f_X1_clause_b126 N q9.1 q9.2)
  else
  (bnd (f_X1_readLaw N q8 x1) fun q12 =>
 f_X1_clause_b126 N q12.1 q12.2)))))
  else
  (bnd (f_X1_faulty S (6 : Int32)) fun q13 =>
 chk (isz q13.1) (some (q13.1, q13.2)))
set_option maxRecDepth 100000 in
set_option maxHeartbeats 4000000 in
theorem tb_X1_clause_48 {l : Launch} {G : v_G} {N : Nat}    {r : Int32 × St}   : ∀ (x1 : Int32) (S : St),  f_X1_clause_b48 N x1 S = some r → V l G yX1_clause cX1_clause 3 (some .boolean) (v_rm 206 1 300) (QI r.1 (lay G r.2)) 0 0 48 [(0, .ref (v_B G + 288)), (1, .int x1)] [] (lay G S) := by
  intro x1 S  hh
  unfold f_X1_clause_b48 at hh
  refine v_aload_n 0 dX1_clause_48 rfl rfl ?_
  refine r_Reader_clauseCount dX1_clause_49 fl_X1_44 ?_
  refine v_bipush dX1_clause_52 (by decide : _ = (24 : Int32)) ?_
  refine v_icmp_lt (tgt := 64) dX1_clause_54 (by decide) (fun c => ?_) (fun c => ?_)
  · replace hh := (if_pos c).symm.trans hh
    refine v_aload_n 0 dX1_clause_64 rfl rfl ?_
    refine r_Reader_clauses dX1_clause_65 fl_X1_11 ?_
    refine v_iconst dX1_clause_68 (by decide : _ = (3 : Int32)) ?_
    refine v_aload_n 0 dX1_clause_69 rfl rfl ?_
    refine r_Reader_clauseCount dX1_clause_70 fl_X1_44 ?_
    refine v_imul dX1_clause_73 ?_
    refine v_iload_n 1 dX1_clause_74 rfl rfl ?_
    obtain ⟨g2, hh⟩ := chk_some hh
    replace g2 := inb_in g2
    refine st_clauses dX1_clause_75 g2 ?_
    replace hh := lt_of hh
    refine v_aload_n 0 dX1_clause_76 rfl rfl ?_
    refine r_Reader_clauses dX1_clause_77 fl_X1_11 ?_
    refine v_iconst dX1_clause_80 (by decide : _ = (3 : Int32)) ?_
    refine v_aload_n 0 dX1_clause_81 rfl rfl ?_
    refine r_Reader_clauseCount dX1_clause_82 fl_X1_44 ?_
    refine v_imul dX1_clause_85 ?_
    refine v_iconst dX1_clause_86 (by decide : _ = (1 : Int32)) ?_
    refine v_iadd dX1_clause_87 ?_
    refine v_iconst dX1_clause_88 (by decide : _ = (0 : Int32)) ?_
    obtain ⟨g4, hh⟩ := chk_some hh
    replace g4 := inb_in g4
    refine st_clauses dX1_clause_89 g4 ?_
    replace hh := lt_of hh
    refine v_aload_n 0 dX1_clause_90 rfl rfl ?_
    refine r_Reader_clauses dX1_clause_91 fl_X1_11 ?_
    refine v_iconst dX1_clause_94 (by decide : _ = (3 : Int32)) ?_
    refine v_aload_n 0 dX1_clause_95 rfl rfl ?_
    refine r_Reader_clauseCount dX1_clause_96 fl_X1_44 ?_
    refine v_imul dX1_clause_99 ?_
    refine v_iconst dX1_clause_100 (by decide : _ = (2 : Int32)) ?_
    refine v_iadd dX1_clause_101 ?_
    refine v_iconst dX1_clause_102 (by decide : _ = (0 : Int32)) ?_
    obtain ⟨g6, hh⟩ := chk_some hh
    replace g6 := inb_in g6
    refine st_clauses dX1_clause_103 g6 ?_
    replace hh := lt_of hh
    refine v_aload_n 0 dX1_clause_104 rfl rfl ?_
    obtain ⟨q8, eq8, hh⟩ := bnd_some hh
    refine v_callVv (t_X1_advance eq8) dX1_clause_105 y_X1_advance ml_X1_89 (ci := 0) rfl rfl (e_Reader) rfl rfl (Nat.le_of_ble_eq_true rfl) ⟨(Nat.le_of_ble_eq_true rfl), (Nat.le_of_ble_eq_true rfl)⟩ ⟨by show _ ≤ 1; omega, by show _ ≤ 300; omega⟩ ?_
    refine v_iload_n 1 dX1_clause_108 rfl rfl ?_
    refine v_iconst dX1_clause_109 (by decide : _ = (1 : Int32)) ?_
    refine v_icmp_gt (tgt := 121) dX1_clause_110 (by decide) (fun c => ?_) (fun c => ?_)
    · replace hh := (if_pos c).symm.trans hh
      refine v_aload_n 0 dX1_clause_121 rfl rfl ?_
      refine v_iload_n 1 dX1_clause_122 rfl rfl ?_
      obtain ⟨q9, eq9, hh⟩ := bnd_some hh
      refine v_callVi (t_X1_readDeed eq9) dX1_clause_123 y_X1_readDeed ml_X1_95 (ci := 0) rfl rfl (e_Reader) rfl rfl (Nat.le_of_ble_eq_true rfl) ⟨(Nat.le_of_ble_eq_true rfl), (Nat.le_of_ble_eq_true rfl)⟩ ⟨by show _ ≤ 1; omega, by show _ ≤ 300; omega⟩ ?_
      exact v_sub [0] rfl <| v_widen (k := 1) (n := 300) (by omega) (by omega) (tb_X1_clause_126 _ _ hh)
    · replace hh := (if_neg c).symm.trans hh
      refine v_aload_n 0 dX1_clause_113 rfl rfl ?_
      refine v_iload_n 1 dX1_clause_114 rfl rfl ?_
      obtain ⟨q12, eq12, hh⟩ := bnd_some hh
      refine v_callViA (t_X1_readLaw eq12) dX1_clause_115 y_X1_readLaw ml_X1_92 (ci := 0) rfl rfl (e_Reader) rfl rfl (Nat.le_of_ble_eq_true rfl) ⟨(Nat.le_of_ble_eq_true rfl), (Nat.le_of_ble_eq_true rfl)⟩ ⟨by show _ ≤ 1; omega, by show _ ≤ 300; omega⟩ ?_
      refine v_goto (tgt := 126) dX1_clause_118 (by decide) ?_
      exact v_sub [0] rfl <| v_widen (k := 1) (n := 300) (by omega) (by omega) (tb_X1_clause_126 _ _ hh)
  · replace hh := (if_neg c).symm.trans hh
    refine v_aload_n 0 dX1_clause_57 rfl rfl ?_
    refine v_bipush dX1_clause_58 (by decide : _ = (6 : Int32)) ?_
    obtain ⟨q13, eq13, hh⟩ := bnd_some hh
    refine v_callVi (t_X1_faulty eq13) dX1_clause_60 y_X1_faulty ml_X1_85 (ci := 0) rfl rfl (e_Reader) rfl rfl (Nat.le_of_ble_eq_true rfl) ⟨(Nat.le_of_ble_eq_true rfl), (Nat.le_of_ble_eq_true rfl)⟩ ⟨by show _ ≤ 1; omega, by show _ ≤ 300; omega⟩ ?_
    obtain ⟨g, hh⟩ := chk_some hh
    obtain rfl := Option.some.inj hh
    exact v_zret dX1_clause_63 rfl (zb (isz_or g)).1 (by show _ ≤ 1; omega) (by show _ ≤ 300; omega) ⟨rfl, rfl⟩
def f_X1_clause_b42 (N : Nat)  (S : St) : Option (Int32 × St) :=
  bnd (f_X1_faulty S (4 : Int32)) fun q15 =>
 chk (isz q15.1) (some (q15.1, q15.2))
set_option maxRecDepth 100000 in
set_option maxHeartbeats 4000000 in
theorem tb_X1_clause_42 {l : Launch} {G : v_G} {N : Nat}    {r : Int32 × St}   : ∀  (S : St),  f_X1_clause_b42 N  S = some r → V l G yX1_clause cX1_clause 3 (some .boolean) (v_rm 206 1 300) (QI r.1 (lay G r.2)) 1 300 42 [(0, .ref (v_B G + 288))] [] (lay G S) := by
  intro  S  hh
  unfold f_X1_clause_b42 at hh
  refine v_aload_n 0 dX1_clause_42 rfl rfl ?_
  refine v_iconst dX1_clause_43 (by decide : _ = (4 : Int32)) ?_
  obtain ⟨q15, eq15, hh⟩ := bnd_some hh
  refine v_callVi (t_X1_faulty eq15) dX1_clause_44 y_X1_faulty ml_X1_85 (ci := 0) rfl rfl (e_Reader) rfl rfl (Nat.le_of_ble_eq_true rfl) ⟨(Nat.le_of_ble_eq_true rfl), (Nat.le_of_ble_eq_true rfl)⟩ ⟨by show _ ≤ 1; omega, by show _ ≤ 300; omega⟩ ?_
  obtain ⟨g, hh⟩ := chk_some hh
  obtain rfl := Option.some.inj hh
  exact v_zret dX1_clause_47 rfl (zb (isz_or g)).1 (by show _ ≤ 1; omega) (by show _ ≤ 300; omega) ⟨rfl, rfl⟩
def f_X1_clause_b29 (N : Nat) (x1 : Int32) (S : St) : Option (Int32 × St) :=
  if x1 = (1 : Int32) then
  (bnd (gN S (gR S 111 0 0)) fun q14 =>
  if ((Int32.ofNat q14)) ≤ (0 : Int32) then
  (f_X1_clause_b48 N x1 S)
  else
  (f_X1_clause_b42 N S))
  else
  (f_X1_clause_b48 N x1 S)
set_option maxRecDepth 100000 in
set_option maxHeartbeats 4000000 in
theorem tb_X1_clause_29 {l : Launch} {G : v_G} {N : Nat}    {r : Int32 × St}   : ∀ (x1 : Int32) (S : St),  f_X1_clause_b29 N x1 S = some r → V l G yX1_clause cX1_clause 3 (some .boolean) (v_rm 206 1 300) (QI r.1 (lay G r.2)) 0 0 29 [(0, .ref (v_B G + 288)), (1, .int x1)] [] (lay G S) := by
  intro x1 S  hh
  unfold f_X1_clause_b29 at hh
  refine v_iload_n 1 dX1_clause_29 rfl rfl ?_
  refine v_iconst dX1_clause_30 (by decide : _ = (1 : Int32)) ?_
  refine v_icmp_ne (tgt := 48) dX1_clause_31 (by decide) (fun c => ?_) (fun c => ?_)
  · replace hh := (if_neg c).symm.trans hh
    exact v_sub [0, 1] rfl (tb_X1_clause_48 _ _ hh)
  · replace hh := (if_pos c).symm.trans hh
    refine v_aload_n 0 dX1_clause_34 rfl rfl ?_
    refine r_Reader_tears dX1_clause_35 fl_X1_26 ?_
    obtain ⟨q14, eq14, hh⟩ := bnd_some hh
    refine ln_dyn eq14 dX1_clause_38 ?_
    refine v_if_le (tgt := 48) dX1_clause_39 (by decide) (fun c => ?_) (fun c => ?_)
    · replace hh := (if_pos c).symm.trans hh
      exact v_sub [0, 1] rfl (tb_X1_clause_48 _ _ hh)
    · replace hh := (if_neg c).symm.trans hh
      exact v_sub [0] rfl <| v_widen (k := 1) (n := 300) (by omega) (by omega) (tb_X1_clause_42 _ hh)
def f_X1_clause (N : Nat) (S : St)  : Option (Int32 × St) :=
  lt (gI S 105 0 0) fun v1 =>
  if v1 ≤ (9 : Int32) then
  (if v1 = (0 : Int32) then
  (bnd (gN S (gR S 110 0 0)) fun q16 =>
  if (0 : Int32) < ((Int32.ofNat q16)) then
  (f_X1_clause_b42 N S)
  else
  (f_X1_clause_b29 N v1 S))
  else
  (f_X1_clause_b29 N v1 S))
  else
  (bnd (f_X1_faulty S (1 : Int32)) fun q17 =>
 chk (isz q17.1) (some (q17.1, q17.2)))
set_option maxRecDepth 100000 in
set_option maxHeartbeats 4000000 in
theorem t_X1_clause {l : Launch} {G : v_G} {N : Nat} {S : St}    {r : Int32 × St} (hh : f_X1_clause N S  = some r) : v_M l G yX1_clause cX1_clause 3 (some .boolean) 206 1 300 [.ref (v_B G + 288)] (lay G S) (QI r.1 (lay G r.2)) := by
  refine v_entry (by decide) (Nat.le_of_ble_eq_true rfl) ?_
  unfold f_X1_clause at hh
  show V l G yX1_clause cX1_clause 3 (some .boolean) (v_rm 206 1 300) (QI r.1 (lay G r.2)) 0 0 0 [(0, .ref (v_B G + 288))] [] (lay G S)
  refine v_aload_n 0 dX1_clause_0 rfl rfl ?_
  refine r_Reader_token dX1_clause_1 fl_X1_58 ?_
  refine v_istore_n dX1_clause_4 rfl (by decide) rfl ?_
  replace hh := lt_of hh
  refine v_iload_n 0 dX1_clause_5 rfl rfl ?_
  refine v_bipush dX1_clause_6 (by decide : _ = (9 : Int32)) ?_
  refine v_icmp_le (tgt := 17) dX1_clause_8 (by decide) (fun c => ?_) (fun c => ?_)
  · replace hh := (if_pos c).symm.trans hh
    refine v_iload_n 0 dX1_clause_17 rfl rfl ?_
    refine v_if_ne (tgt := 29) dX1_clause_18 (by decide) (fun c => ?_) (fun c => ?_)
    · replace hh := (if_neg c).symm.trans hh
      exact v_sub [1, 0] rfl (tb_X1_clause_29 _ _ hh)
    · replace hh := (if_pos c).symm.trans hh
      refine v_aload_n 1 dX1_clause_21 rfl rfl ?_
      refine r_Reader_moves dX1_clause_22 fl_X1_23 ?_
      obtain ⟨q16, eq16, hh⟩ := bnd_some hh
      refine ln_dyn eq16 dX1_clause_25 ?_
      refine v_if_gt (tgt := 42) dX1_clause_26 (by decide) (fun c => ?_) (fun c => ?_)
      · replace hh := (if_pos c).symm.trans hh
        exact v_sub [1] rfl <| v_widen (k := 1) (n := 300) (by omega) (by omega) (tb_X1_clause_42 _ hh)
      · replace hh := (if_neg c).symm.trans hh
        exact v_sub [1, 0] rfl (tb_X1_clause_29 _ _ hh)
  · replace hh := (if_neg c).symm.trans hh
    refine v_aload_n 1 dX1_clause_11 rfl rfl ?_
    refine v_iconst dX1_clause_12 (by decide : _ = (1 : Int32)) ?_
    obtain ⟨q17, eq17, hh⟩ := bnd_some hh
    refine v_callVi (t_X1_faulty eq17) dX1_clause_13 y_X1_faulty ml_X1_85 (ci := 0) rfl rfl (e_Reader) rfl rfl (Nat.le_of_ble_eq_true rfl) ⟨(Nat.le_of_ble_eq_true rfl), (Nat.le_of_ble_eq_true rfl)⟩ ⟨by show _ ≤ 1; omega, by show _ ≤ 300; omega⟩ ?_
    obtain ⟨g, hh⟩ := chk_some hh
    obtain rfl := Option.some.inj hh
    exact v_zret dX1_clause_16 rfl (zb (isz_or g)).1 (by show _ ≤ 1; omega) (by show _ ≤ 300; omega) ⟨rfl, rfl⟩
def f_X1_readTape_b96 (N : Nat) (x1 : Int32) (S : St) : Option (Nat × St) :=
  lt (sI S 501 0 0 (0 : Int32)) fun S11 =>
  if x1 = (0 : Int32) then
  (some (0, S11))
  else
  (chk (inb ((3 : Int32) * (gI S11 107 0 0)) 73) (
  lt (sD (sD S11 (.inr (gZ S11 + 3, gR S11 110 0 0, gR S11 111 0 0))) (.inl (((3 : Int32) * (gI S11 107 0 0)).toNatClampNeg, fun i => gI S11 106 0 i))) fun S13 =>
  some (gZ S11 + 2, S13)))
set_option maxRecDepth 100000 in
set_option maxHeartbeats 4000000 in
theorem tb_X1_readTape_96 {l : Launch} {G : v_G} {N : Nat}    {r : Nat × St}   : ∀ (x1 : Int32) (S : St),  f_X1_readTape_b96 N x1 S = some r → V l G yX1_readTape cX1_readTape 3 (some (.object "RolledOut$Text")) (v_rm 207 28 8200) (QA (if r.1 = 0 then .null else .ref (da G r.1)) (lay G r.2)) 26 7800 96 [(0, .ref (v_B G + 288)), (1, .int x1)] [] (lay G S) := by
  intro x1 S  hh
  unfold f_X1_readTape_b96 at hh
  refine v_aload_n 0 dX1_readTape_96 rfl rfl ?_
  refine r_Reader_tape dX1_readTape_97 fl_X1_29 ?_
  refine v_iconst dX1_readTape_100 (by decide : _ = (0 : Int32)) ?_
  refine w_Tape_length dX1_readTape_101 fl_X1_67 ?_
  replace hh := lt_of hh
  refine v_iload_n 1 dX1_readTape_104 rfl rfl ?_
  refine v_if_eq (tgt := 139) dX1_readTape_105 (by decide) (fun c => ?_) (fun c => ?_)
  · replace hh := (if_pos c).symm.trans hh
    refine v_null dX1_readTape_139 ?_
    obtain rfl := Option.some.inj hh
    exact v_aret dX1_readTape_140 rfl (Or.inl ⟨_, rfl⟩) (Or.inl rfl) (by show _ ≤ 28; omega) (by show _ ≤ 8200; omega) ⟨rfl, rfl⟩
  · replace hh := (if_neg c).symm.trans hh
    obtain ⟨g12, hh⟩ := chk_some hh
    replace g12 := inb_in g12
    refine mk_text 0 rfl g12 (by show _ ≤ 28; omega) (by show _ ≤ 8200; omega) ⟨Nat.le_of_ble_eq_true rfl, Nat.le_of_ble_eq_true rfl⟩ ?_
    replace hh := lt_of hh
    refine v_goto (tgt := 140) dX1_readTape_136 (by decide) ?_
    obtain rfl := Option.some.inj hh
    exact v_aret dX1_readTape_140 rfl (Or.inl ⟨_, rfl⟩) (Or.inr ⟨_, rfl⟩) (by show _ ≤ 28; omega) (by show _ ≤ 8200; omega) ⟨by show some _ = some (if _ + 2 = 0 then _ else _); rw [if_neg (by omega)], rfl⟩
def f_X1_readTape_b66 (N : Nat) : Nat → Int32 → Int32 → St → Option (Nat × St)
  | 0, _, _, _ => none
  | n + 1, x1, x2, S =>
  if (24 : Int32) < x2 then
  (f_X1_readTape_b96 N x1 S)
  else
  (if x1 = (0 : Int32) then
  (f_X1_readTape_b96 N x1 S)
  else
  (if (gI S 105 0 0) = (40 : Int32) then
  (f_X1_readTape_b96 N x1 S)
  else
  (bnd (f_X1_clause N S ) fun q14 =>
 lt (x2 + (1 : Int32)) fun v15 =>
  f_X1_readTape_b66 N n q14.1 v15 q14.2)))
set_option maxRecDepth 100000 in
set_option maxHeartbeats 4000000 in
theorem tb_X1_readTape_66 {l : Launch} {G : v_G} {N : Nat}    {r : Nat × St}   : ∀ (n : Nat) (cc0 ss0 : Nat) (hc0 : cc0 + 1 * n ≤ 26) (hs0 : ss0 + 300 * n ≤ 7800) (x1 : Int32) (x2 : Int32) (S : St),  f_X1_readTape_b66 N n x1 x2 S = some r → V l G yX1_readTape cX1_readTape 3 (some (.object "RolledOut$Text")) (v_rm 207 28 8200) (QA (if r.1 = 0 then .null else .ref (da G r.1)) (lay G r.2)) cc0 ss0 66 [(0, .ref (v_B G + 288)), (1, .int x1), (2, .int x2)] [] (lay G S) := by
  intro n
  induction n with
  | zero =>
    intro cc0 ss0 hc0 hs0 x1 x2 S  hh
    rw [f_X1_readTape_b66] at hh
    cases hh
  | succ n ih =>
    intro cc0 ss0 hc0 hs0 x1 x2 S  hh
    rw [f_X1_readTape_b66] at hh
    refine v_iload_n 2 dX1_readTape_66 rfl rfl ?_
    refine v_bipush dX1_readTape_67 (by decide : _ = (24 : Int32)) ?_
    refine v_icmp_gt (tgt := 96) dX1_readTape_69 (by decide) (fun c => ?_) (fun c => ?_)
    · replace hh := (if_pos c).symm.trans hh
      exact v_sub [0, 1] rfl <| v_widen (k := 26) (n := 7800) (by omega) (by omega) (tb_X1_readTape_96 _ _ hh)
    · replace hh := (if_neg c).symm.trans hh
      refine v_iload_n 1 dX1_readTape_72 rfl rfl ?_
      refine v_if_eq (tgt := 96) dX1_readTape_73 (by decide) (fun c => ?_) (fun c => ?_)
      · replace hh := (if_pos c).symm.trans hh
        exact v_sub [0, 1] rfl <| v_widen (k := 26) (n := 7800) (by omega) (by omega) (tb_X1_readTape_96 _ _ hh)
      · replace hh := (if_neg c).symm.trans hh
        refine v_aload_n 0 dX1_readTape_76 rfl rfl ?_
        refine r_Reader_token dX1_readTape_77 fl_X1_58 ?_
        refine v_bipush dX1_readTape_80 (by decide : _ = (40 : Int32)) ?_
        refine v_icmp_eq (tgt := 96) dX1_readTape_82 (by decide) (fun c => ?_) (fun c => ?_)
        · replace hh := (if_pos c).symm.trans hh
          exact v_sub [0, 1] rfl <| v_widen (k := 26) (n := 7800) (by omega) (by omega) (tb_X1_readTape_96 _ _ hh)
        · replace hh := (if_neg c).symm.trans hh
          refine v_aload_n 0 dX1_readTape_85 rfl rfl ?_
          obtain ⟨q14, eq14, hh⟩ := bnd_some hh
          refine v_callViA (t_X1_clause eq14) dX1_readTape_86 y_X1_clause ml_X1_63 (ci := 0) rfl rfl (e_Reader) rfl rfl (Nat.le_of_ble_eq_true rfl) ⟨(Nat.le_of_ble_eq_true rfl), (Nat.le_of_ble_eq_true rfl)⟩ ⟨by show _ ≤ 28; omega, by show _ ≤ 8200; omega⟩ ?_
          refine v_istore_n dX1_readTape_89 rfl (by decide) rfl ?_
          refine v_iinc (v := _ + (1 : Int32)) 2 dX1_readTape_90 rfl rfl (by decide) rfl ?_
          replace hh := lt_of hh
          refine v_goto (tgt := 66) dX1_readTape_93 (by decide) ?_
          exact v_sub [2, 1, 0] rfl (ih (cc0 + 1) (ss0 + 300) (by omega) (by omega) _ _ _ hh)
def f_X1_readTape (N : Nat) (S : St)  : Option (Nat × St) :=
  lt (sI S 101 0 0 (1 : Int32)) fun S1 =>
  lt (sI S1 102 0 0 (0 : Int32)) fun S2 =>
  lt (sI S2 103 0 0 (-1 : Int32)) fun S3 =>
  lt (sI S3 107 0 0 (0 : Int32)) fun S4 =>
  lt (sR S4 110 0 0 (1)) fun S5 =>
  lt (sR S5 111 0 0 (1)) fun S6 =>
  bnd (f_X5_findTokens N S6 ) fun q7 =>
 lt (sI q7 104 0 0 (0 : Int32)) fun S8 =>
  chk (inb (gI S8 104 0 0) 301) (
  lt (sI S8 105 0 0 (gI S8 502 0 (gI S8 104 0 0).toNatClampNeg)) fun S10 =>
  f_X1_readTape_b66 N 26 (1 : Int32) (0 : Int32) S10)
set_option maxRecDepth 100000 in
set_option maxHeartbeats 4000000 in
theorem t_X1_readTape {l : Launch} {G : v_G} {N : Nat} {S : St}    {r : Nat × St} (hh : f_X1_readTape N S  = some r) : v_M l G yX1_readTape cX1_readTape 3 (some (.object "RolledOut$Text")) 207 28 8200 [.ref (v_B G + 288)] (lay G S) (QA (if r.1 = 0 then .null else .ref (da G r.1)) (lay G r.2)) := by
  refine v_entry (by decide) (Nat.le_of_ble_eq_true rfl) ?_
  unfold f_X1_readTape at hh
  show V l G yX1_readTape cX1_readTape 3 (some (.object "RolledOut$Text")) (v_rm 207 28 8200) (QA (if r.1 = 0 then .null else .ref (da G r.1)) (lay G r.2)) 0 0 0 [(0, .ref (v_B G + 288))] [] (lay G S)
  refine v_aload_n 0 dX1_readTape_0 rfl rfl ?_
  refine v_iconst dX1_readTape_1 (by decide : _ = (1 : Int32)) ?_
  refine w_Reader_hasRead dX1_readTape_2 fl_X1_33 (by decide) ?_
  replace hh := lt_of hh
  refine v_aload_n 0 dX1_readTape_5 rfl rfl ?_
  refine v_iconst dX1_readTape_6 (by decide : _ = (0 : Int32)) ?_
  refine w_Reader_fault dX1_readTape_7 fl_X1_37 ?_
  replace hh := lt_of hh
  refine v_aload_n 0 dX1_readTape_10 rfl rfl ?_
  refine v_iconst dX1_readTape_11 (by decide : _ = (-1 : Int32)) ?_
  refine w_Reader_faultAt dX1_readTape_12 fl_X1_41 ?_
  replace hh := lt_of hh
  refine v_aload_n 0 dX1_readTape_15 rfl rfl ?_
  refine v_iconst dX1_readTape_16 (by decide : _ = (0 : Int32)) ?_
  refine w_Reader_clauseCount dX1_readTape_17 fl_X1_44 ?_
  replace hh := lt_of hh
  refine v_aload_n 0 dX1_readTape_20 rfl rfl ?_
  refine v_getNL dX1_readTape_21 rfl fl_X1_18 ?_
  refine w_Reader_moves (v := 1) dX1_readTape_24 fl_X1_23 ?_
  replace hh := lt_of hh
  refine v_aload_n 0 dX1_readTape_27 rfl rfl ?_
  refine v_getNL dX1_readTape_28 rfl fl_X1_18 ?_
  refine w_Reader_tears (v := 1) dX1_readTape_31 fl_X1_26 ?_
  replace hh := lt_of hh
  refine v_aload_n 0 dX1_readTape_34 rfl rfl ?_
  refine r_Reader_tape dX1_readTape_35 fl_X1_29 ?_
  obtain ⟨q7, eq7, hh⟩ := bnd_some hh
  refine v_callVv (t_X5_findTokens eq7) dX1_readTape_38 y_X5_findTokens ml_X1_47 (ci := 4) rfl rfl (e_Tape) rfl rfl (Nat.le_of_ble_eq_true rfl) ⟨(Nat.le_of_ble_eq_true rfl), (Nat.le_of_ble_eq_true rfl)⟩ ⟨by show _ ≤ 28; omega, by show _ ≤ 8200; omega⟩ ?_
  refine v_aload_n 0 dX1_readTape_41 rfl rfl ?_
  refine v_iconst dX1_readTape_42 (by decide : _ = (0 : Int32)) ?_
  refine w_Reader_at dX1_readTape_43 fl_X1_52 ?_
  replace hh := lt_of hh
  refine v_aload_n 0 dX1_readTape_46 rfl rfl ?_
  refine v_aload_n 0 dX1_readTape_47 rfl rfl ?_
  refine r_Reader_tape dX1_readTape_48 fl_X1_29 ?_
  refine r_Tape_kinds dX1_readTape_51 fl_X1_55 ?_
  refine v_aload_n 0 dX1_readTape_54 rfl rfl ?_
  refine r_Reader_at dX1_readTape_55 fl_X1_52 ?_
  obtain ⟨g9, hh⟩ := chk_some hh
  replace g9 := inb_in g9
  refine ld_kinds dX1_readTape_58 g9 ?_
  refine w_Reader_token dX1_readTape_59 fl_X1_58 ?_
  replace hh := lt_of hh
  refine v_iconst dX1_readTape_62 (by decide : _ = (1 : Int32)) ?_
  refine v_istore_n dX1_readTape_63 rfl (by decide) rfl ?_
  refine v_iconst dX1_readTape_64 (by decide : _ = (0 : Int32)) ?_
  refine v_istore_n dX1_readTape_65 rfl (by decide) rfl ?_
  exact v_sub [2, 1, 0] rfl (tb_X1_readTape_66 26 (0) (0) (by omega) (by omega) _ _ _ hh)
def f_X9_text (N : Nat) (S : St)  : Option (Int32 × St) :=
  if (gI S 808 0 0) < (4 : Int32) then
  (bnd (f_X1_readTape N  S ) fun q1 =>
  if q1.1 = 0 then
  (some ((-1 : Int32), q1.2))
  else
  (chk (inb (gI q1.2 808 0 0) 4) (
  bnd (gT q1.2 q1.1) fun q5 =>
  lt (sR q1.2 807 0 (gI q1.2 808 0 0).toNatClampNeg q1.1) fun S3 =>
  lt (sI S3 808 0 0 ((gI S3 808 0 0) + (1 : Int32))) fun S4 =>
  some ((gI S4 808 0 0) - (1 : Int32), S4))))
  else
  (some ((-1 : Int32), S))
set_option maxRecDepth 100000 in
set_option maxHeartbeats 4000000 in
theorem t_X9_text {l : Launch} {G : v_G} {N : Nat} {S : St}    {r : Int32 × St} (hh : f_X9_text N S  = some r) : v_M l G yX9_text cX9_text 2 (some .int) 208 28 8200 [.ref (v_B G + 0)] (lay G S) (QI r.1 (lay G r.2)) := by
  refine v_entry (by decide) (Nat.le_of_ble_eq_true rfl) ?_
  unfold f_X9_text at hh
  show V l G yX9_text cX9_text 2 (some .int) (v_rm 208 28 8200) (QI r.1 (lay G r.2)) 0 0 0 [(0, .ref (v_B G + 0))] [] (lay G S)
  refine v_aload_n 0 dX9_text_0 rfl rfl ?_
  refine r_RolledOut_now dX9_text_1 fl_X9_12 ?_
  refine r_World_textCount (by decide) dX9_text_4 fl_X9_92 ?_
  refine v_iconst dX9_text_7 (by decide : _ = (4 : Int32)) ?_
  refine v_icmp_lt (tgt := 13) dX9_text_8 (by decide) (fun c => ?_) (fun c => ?_)
  · replace hh := (if_pos c).symm.trans hh
    refine v_aload_n 0 dX9_text_13 rfl rfl ?_
    refine r_RolledOut_reader dX9_text_14 fl_X9_56 ?_
    obtain ⟨q1, eq1, hh⟩ := bnd_some hh
    refine v_callVt (t_X1_readTape eq1) dX9_text_17 y_X1_readTape ml_X9_95 (ci := 0) rfl rfl e_Reader rfl rfl (Nat.le_of_ble_eq_true rfl) ⟨Nat.le_of_ble_eq_true rfl, Nat.le_of_ble_eq_true rfl⟩ ⟨by show _ ≤ 28; omega, by show _ ≤ 8200; omega⟩ (fun c => ?_) (fun c => ?_)
    · replace hh := (if_pos c).symm.trans hh
      refine v_astore_nN dX9_text_20 rfl (by decide) rfl ?_
      refine v_aload_nN 0 dX9_text_21 rfl rfl ?_
      refine v_ifnonnullN dX9_text_22 ?_
      refine v_iconst dX9_text_25 (by decide : _ = (-1 : Int32)) ?_
      obtain rfl := Option.some.inj hh
      exact v_iret dX9_text_26 rfl (by show _ ≤ 28; omega) (by show _ ≤ 8200; omega) ⟨rfl, rfl⟩
    · replace hh := (if_neg c).symm.trans hh
      refine v_astore_n dX9_text_20 rfl (by decide) rfl ?_
      refine v_aload_n 0 dX9_text_21 rfl rfl ?_
      refine v_ifnonnull (tgt := 27) dX9_text_22 (by decide) ?_
      refine v_aload_n 1 dX9_text_27 rfl rfl ?_
      refine r_RolledOut_now dX9_text_28 fl_X9_12 ?_
      refine r_World_texts (by decide) dX9_text_31 fl_X9_99 ?_
      refine v_aload_n 1 dX9_text_34 rfl rfl ?_
      refine r_RolledOut_now dX9_text_35 fl_X9_12 ?_
      refine r_World_textCount (by decide) dX9_text_38 fl_X9_92 ?_
      refine v_aload_n 0 dX9_text_41 rfl rfl ?_
      obtain ⟨g2, hh⟩ := chk_some hh
      replace g2 := inb_in g2
      obtain ⟨q5, eq5, hh⟩ := bnd_some hh
      refine st_textsT (by decide) dX9_text_42 g2 eq5 ?_
      replace hh := lt_of hh
      refine v_aload_n 1 dX9_text_43 rfl rfl ?_
      refine r_RolledOut_now dX9_text_44 fl_X9_12 ?_
      refine v_dup dX9_text_47 rfl ?_
      refine r_World_textCount (by decide) dX9_text_48 fl_X9_92 ?_
      refine v_iconst dX9_text_51 (by decide : _ = (1 : Int32)) ?_
      refine v_iadd dX9_text_52 ?_
      refine w_World_textCount (by decide) dX9_text_53 fl_X9_92 ?_
      replace hh := lt_of hh
      refine v_aload_n 1 dX9_text_56 rfl rfl ?_
      refine r_RolledOut_now dX9_text_57 fl_X9_12 ?_
      refine r_World_textCount (by decide) dX9_text_60 fl_X9_92 ?_
      refine v_iconst dX9_text_63 (by decide : _ = (1 : Int32)) ?_
      refine v_isub dX9_text_64 ?_
      obtain rfl := Option.some.inj hh
      exact v_iret dX9_text_65 rfl (by show _ ≤ 28; omega) (by show _ ≤ 8200; omega) ⟨rfl, rfl⟩
  · replace hh := (if_neg c).symm.trans hh
    refine v_iconst dX9_text_11 (by decide : _ = (-1 : Int32)) ?_
    obtain rfl := Option.some.inj hh
    exact v_iret dX9_text_12 rfl (by show _ ≤ 28; omega) (by show _ ≤ 8200; omega) ⟨rfl, rfl⟩
