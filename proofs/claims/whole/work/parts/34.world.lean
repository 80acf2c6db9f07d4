def f_X8_becomes_b88 (N : Nat) (w : Nat) (u : Nat) : Nat → Int32 → St → Option (St)
  | 0, _, _ => none
  | n + 1, x2, S =>
  if (4 : Int32) ≤ x2 then
  (lt (sI S 808 w 0 (gI S 808 u 0)) fun S7 =>
  lt (sI S7 809 w 0 (gI S7 809 u 0)) fun S8 =>
  lt (sIA S8 810 w (fun i => gI S8 810 u i)) fun S9 =>
  lt (sI S9 811 w 0 (gI S9 811 u 0)) fun S10 =>
  some S10)
  else
  (chk (inb x2 4) (
  if gR S 807 u x2.toNatClampNeg = 0 then
  (chk (inb x2 4) (
  lt (sR S 807 w x2.toNatClampNeg 0) fun S13 =>
  lt (x2 + (1 : Int32)) fun v14 =>
  f_X8_becomes_b88 N w u n v14 S13))
  else
  (chk (inb x2 4) (
  bnd (gT S (gR S 807 u x2.toNatClampNeg)) fun q18 =>
  lt (sR S 807 w x2.toNatClampNeg (gR S 807 u x2.toNatClampNeg)) fun S16 =>
  lt (x2 + (1 : Int32)) fun v17 =>
  f_X8_becomes_b88 N w u n v17 S16))))
set_option maxRecDepth 100000 in
set_option maxHeartbeats 4000000 in
theorem tb_X8_becomes_88 {l : Launch} {G : v_G} {N : Nat}  {w : Nat} (hw : w < 2) {u : Nat} (hu : u < 2)  {r : St}   : ∀ (n : Nat) (x2 : Int32) (S : St),  f_X8_becomes_b88 N w u n x2 S = some r → V l G yX8_becomes cX8_becomes 3 (none) (v_rm 3 0 0) (QV (lay G r)) 0 0 88 [(0, .ref (v_B G + (1 + 129 * w))), (1, .ref (v_B G + (1 + 129 * u))), (2, .int x2)] [] (lay G S) := by
  intro n
  induction n with
  | zero =>
    intro x2 S  hh
    rw [f_X8_becomes_b88] at hh
    cases hh
  | succ n ih =>
    intro x2 S  hh
    rw [f_X8_becomes_b88] at hh
    refine v_iload_n 2 dX8_becomes_88 rfl rfl ?_
    refine v_iconst dX8_becomes_89 (by decide : _ = (4 : Int32)) ?_
    refine v_icmp_ge (tgt := 111) dX8_becomes_90 (by decide) (fun c => ?_) (fun c => ?_)
    · replace hh := (if_pos c).symm.trans hh
      refine v_aload_n 0 dX8_becomes_111 rfl rfl ?_
      refine v_aload_n 1 dX8_becomes_112 rfl rfl ?_
      refine r_World_textCount hu dX8_becomes_113 fl_X8_61 ?_
      refine w_World_textCount hw dX8_becomes_116 fl_X8_61 ?_
      replace hh := lt_of hh
      refine v_aload_n 0 dX8_becomes_119 rfl rfl ?_
      refine v_aload_n 1 dX8_becomes_120 rfl rfl ?_
      refine r_World_law hu dX8_becomes_121 fl_X8_32 ?_
      refine w_World_law hw dX8_becomes_124 fl_X8_32 ?_
      replace hh := lt_of hh
      refine v_aload_n 1 dX8_becomes_127 rfl rfl ?_
      refine r_World_said hu dX8_becomes_128 fl_X8_36 ?_
      refine v_iconst dX8_becomes_131 (by decide : _ = (0 : Int32)) ?_
      refine v_aload_n 0 dX8_becomes_132 rfl rfl ?_
      refine r_World_said hw dX8_becomes_133 fl_X8_36 ?_
      refine v_iconst dX8_becomes_136 (by decide : _ = (0 : Int32)) ?_
      refine v_aload_n 0 dX8_becomes_137 rfl rfl ?_
      refine r_World_said hw dX8_becomes_138 fl_X8_36 ?_
      refine ln_said hw dX8_becomes_141 ?_
      refine cp_said hw hu dX8_becomes_142 ml_X8_49 (Nat.le_of_ble_eq_true rfl) (Nat.le_of_ble_eq_true rfl) ?_
      replace hh := lt_of hh
      refine v_aload_n 0 dX8_becomes_145 rfl rfl ?_
      refine v_aload_n 1 dX8_becomes_146 rfl rfl ?_
      refine r_World_saidCount hu dX8_becomes_147 fl_X8_64 ?_
      refine w_World_saidCount hw dX8_becomes_150 fl_X8_64 ?_
      replace hh := lt_of hh
      obtain rfl := Option.some.inj hh
      exact v_vret dX8_becomes_153 rfl (Nat.zero_le _) (Nat.zero_le _) ⟨rfl, rfl⟩
    · replace hh := (if_neg c).symm.trans hh
      refine v_aload_n 0 dX8_becomes_93 rfl rfl ?_
      refine r_World_texts hw dX8_becomes_94 fl_X8_28 ?_
      refine v_iload_n 2 dX8_becomes_97 rfl rfl ?_
      refine v_aload_n 1 dX8_becomes_98 rfl rfl ?_
      refine r_World_texts hu dX8_becomes_99 fl_X8_28 ?_
      refine v_iload_n 2 dX8_becomes_102 rfl rfl ?_
      obtain ⟨g11, hh⟩ := chk_some hh
      replace g11 := inb_in g11
      refine tx_cases (fun c => ?_) (fun c => ?_) hh
      · intro hh
        refine ld_textsN hu dX8_becomes_103 g11 c ?_
        obtain ⟨g12, hh⟩ := chk_some hh
        replace g12 := inb_in g12
        refine st_textsN hw dX8_becomes_104 g12 ?_
        replace hh := lt_of hh
        refine v_iinc (v := _ + (1 : Int32)) 2 dX8_becomes_105 rfl rfl (by decide) rfl ?_
        replace hh := lt_of hh
        refine v_goto (tgt := 88) dX8_becomes_108 (by decide) ?_
        exact v_sub [1, 2, 0] rfl (ih _ _ hh)
      · intro hh
        refine ld_textsT hu dX8_becomes_103 g11 c ?_
        obtain ⟨g15, hh⟩ := chk_some hh
        replace g15 := inb_in g15
        obtain ⟨q18, eq18, hh⟩ := bnd_some hh
        refine st_textsT hw dX8_becomes_104 g15 eq18 ?_
        replace hh := lt_of hh
        refine v_iinc (v := _ + (1 : Int32)) 2 dX8_becomes_105 rfl rfl (by decide) rfl ?_
        replace hh := lt_of hh
        refine v_goto (tgt := 88) dX8_becomes_108 (by decide) ?_
        exact v_sub [1, 2, 0] rfl (ih _ _ hh)
def f_X8_becomes_b13 (N : Nat) (w : Nat) (u : Nat) : Nat → Int32 → St → Option (St)
  | 0, _, _ => none
  | n + 1, x2, S =>
  if (30 : Int32) ≤ x2 then
  (lt (sI S 802 w 0 (gI S 802 u 0)) fun S2 =>
  lt (sI S2 803 w 0 (gI S2 803 u 0)) fun S3 =>
  lt (sIA S3 804 w (fun i => gI S3 804 u i)) fun S4 =>
  lt (sI S4 805 w 0 (gI S4 805 u 0)) fun S5 =>
  lt (sI S5 806 w 0 (gI S5 806 u 0)) fun S6 =>
  f_X8_becomes_b88 N w u N (0 : Int32) S6)
  else
  (chk (inb x2 30) (
  chk (inb x2 30) (
  bnd (f_X4_becomes (31 * w + 1 + x2.toNatClampNeg) (31 * u + 1 + x2.toNatClampNeg) S ) fun q21 =>
 lt (x2 + (1 : Int32)) fun v22 =>
  f_X8_becomes_b13 N w u n v22 q21)))
set_option maxRecDepth 100000 in
set_option maxHeartbeats 4000000 in
theorem tb_X8_becomes_13 {l : Launch} {G : v_G} {N : Nat}  {w : Nat} (hw : w < 2) {u : Nat} (hu : u < 2)  {r : St}   : ∀ (n : Nat) (x2 : Int32) (S : St),  f_X8_becomes_b13 N w u n x2 S = some r → V l G yX8_becomes cX8_becomes 3 (none) (v_rm 3 0 0) (QV (lay G r)) 0 0 13 [(0, .ref (v_B G + (1 + 129 * w))), (1, .ref (v_B G + (1 + 129 * u))), (2, .int x2)] [] (lay G S) := by
  intro n
  induction n with
  | zero =>
    intro x2 S  hh
    rw [f_X8_becomes_b13] at hh
    cases hh
  | succ n ih =>
    intro x2 S  hh
    rw [f_X8_becomes_b13] at hh
    refine v_iload_n 2 dX8_becomes_13 rfl rfl ?_
    refine v_bipush dX8_becomes_14 (by decide : _ = (30 : Int32)) ?_
    refine v_icmp_ge (tgt := 40) dX8_becomes_16 (by decide) (fun c => ?_) (fun c => ?_)
    · replace hh := (if_pos c).symm.trans hh
      refine v_aload_n 0 dX8_becomes_40 rfl rfl ?_
      refine v_aload_n 1 dX8_becomes_41 rfl rfl ?_
      refine r_World_nextStep hu dX8_becomes_42 fl_X8_43 ?_
      refine w_World_nextStep hw dX8_becomes_45 fl_X8_43 ?_
      replace hh := lt_of hh
      refine v_aload_n 0 dX8_becomes_48 rfl rfl ?_
      refine v_aload_n 1 dX8_becomes_49 rfl rfl ?_
      refine r_World_stepCount hu dX8_becomes_50 fl_X8_46 ?_
      refine w_World_stepCount hw dX8_becomes_53 fl_X8_46 ?_
      replace hh := lt_of hh
      refine v_aload_n 1 dX8_becomes_56 rfl rfl ?_
      refine r_World_strengths hu dX8_becomes_57 fl_X8_22 ?_
      refine v_iconst dX8_becomes_60 (by decide : _ = (0 : Int32)) ?_
      refine v_aload_n 0 dX8_becomes_61 rfl rfl ?_
      refine r_World_strengths hw dX8_becomes_62 fl_X8_22 ?_
      refine v_iconst dX8_becomes_65 (by decide : _ = (0 : Int32)) ?_
      refine v_iconst dX8_becomes_66 (by decide : _ = (4 : Int32)) ?_
      refine cp_strengths hw hu dX8_becomes_67 ml_X8_49 (Nat.le_of_ble_eq_true rfl) (Nat.le_of_ble_eq_true rfl) ?_
      replace hh := lt_of hh
      refine v_aload_n 0 dX8_becomes_70 rfl rfl ?_
      refine v_aload_n 1 dX8_becomes_71 rfl rfl ?_
      refine r_World_hands hu dX8_becomes_72 fl_X8_55 ?_
      refine w_World_hands hw dX8_becomes_75 fl_X8_55 ?_
      replace hh := lt_of hh
      refine v_aload_n 0 dX8_becomes_78 rfl rfl ?_
      refine v_aload_n 1 dX8_becomes_79 rfl rfl ?_
      refine r_World_towns hu dX8_becomes_80 fl_X8_58 ?_
      refine w_World_towns hw dX8_becomes_83 fl_X8_58 ?_
      replace hh := lt_of hh
      refine v_iconst dX8_becomes_86 (by decide : _ = (0 : Int32)) ?_
      refine v_istore_n dX8_becomes_87 rfl (by decide) rfl ?_
      exact v_sub [1, 2, 0] rfl (tb_X8_becomes_88 hw hu N _ _ hh)
    · replace hh := (if_neg c).symm.trans hh
      refine v_aload_n 0 dX8_becomes_19 rfl rfl ?_
      refine r_World_steps hw dX8_becomes_20 fl_X8_18 ?_
      refine v_iload_n 2 dX8_becomes_23 rfl rfl ?_
      obtain ⟨g19, hh⟩ := chk_some hh
      replace g19 := inb_in g19
      refine ld_steps hw dX8_becomes_24 g19 ?_
      refine v_aload_n 1 dX8_becomes_25 rfl rfl ?_
      refine r_World_steps hu dX8_becomes_26 fl_X8_18 ?_
      refine v_iload_n 2 dX8_becomes_29 rfl rfl ?_
      obtain ⟨g20, hh⟩ := chk_some hh
      replace g20 := inb_in g20
      refine ld_steps hu dX8_becomes_30 g20 ?_
      obtain ⟨q21, eq21, hh⟩ := bnd_some hh
      refine v_callVv (t_X4_becomes (ix_steps hw g19) (ix_steps hu g20) eq21) dX8_becomes_31 y_X4_becomes ml_X8_39 (ci := 3) rfl rfl (e_Sheet (ix_steps hw g19)) rfl rfl (Nat.le_of_ble_eq_true rfl) ⟨(Nat.le_of_ble_eq_true rfl), (Nat.le_of_ble_eq_true rfl)⟩ ⟨Nat.zero_le _, Nat.zero_le _⟩ ?_
      refine v_iinc (v := _ + (1 : Int32)) 2 dX8_becomes_34 rfl rfl (by decide) rfl ?_
      replace hh := lt_of hh
      refine v_goto (tgt := 13) dX8_becomes_37 (by decide) ?_
      exact v_sub [1, 2, 0] rfl (ih _ _ hh)
def f_X8_becomes (N : Nat) (w : Nat) (u : Nat) (S : St)  : Option (St) :=
  bnd (f_X4_becomes (31 * w) (31 * u) S ) fun q1 =>
 f_X8_becomes_b13 N w u N (0 : Int32) q1
set_option maxRecDepth 100000 in
set_option maxHeartbeats 4000000 in
theorem t_X8_becomes {l : Launch} {G : v_G} {N : Nat} {S : St}  {w : Nat} (hw : w < 2) {u : Nat} (hu : u < 2)  {r : St} (hh : f_X8_becomes N w u S  = some r) : v_M l G yX8_becomes cX8_becomes 3 (none) 3 0 0 [.ref (v_B G + (1 + 129 * w)), .ref (v_B G + (1 + 129 * u))] (lay G S) (QV (lay G r)) := by
  refine v_entry (by decide) (Nat.le_of_ble_eq_true rfl) ?_
  unfold f_X8_becomes at hh
  show V l G yX8_becomes cX8_becomes 3 (none) (v_rm 3 0 0) (QV (lay G r)) 0 0 0 [(0, .ref (v_B G + (1 + 129 * w))), (1, .ref (v_B G + (1 + 129 * u)))] [] (lay G S)
  refine v_aload_n 0 dX8_becomes_0 rfl rfl ?_
  refine r_World_sheet hw dX8_becomes_1 fl_X8_12 ?_
  refine v_aload_n 1 dX8_becomes_4 rfl rfl ?_
  refine r_World_sheet hu dX8_becomes_5 fl_X8_12 ?_
  obtain ⟨q1, eq1, hh⟩ := bnd_some hh
  refine v_callVv (t_X4_becomes (ix_sheet hw) (ix_sheet hu) eq1) dX8_becomes_8 y_X4_becomes ml_X8_39 (ci := 3) rfl rfl (e_Sheet (ix_sheet hw)) rfl rfl (Nat.le_of_ble_eq_true rfl) ⟨(Nat.le_of_ble_eq_true rfl), (Nat.le_of_ble_eq_true rfl)⟩ ⟨Nat.zero_le _, Nat.zero_le _⟩ ?_
  refine v_iconst dX8_becomes_11 (by decide : _ = (0 : Int32)) ?_
  refine v_istore_n dX8_becomes_12 rfl (by decide) rfl ?_
  exact v_sub [1, 2, 0] rfl (tb_X8_becomes_13 hw hu N _ _ hh)
def f_X8_keepStep (w : Nat) (S : St)  : Option (St) :=
  chk (inb (gI S 802 w 0) 30) (
  bnd (f_X4_becomes (31 * w + 1 + (gI S 802 w 0).toNatClampNeg) (31 * w) S ) fun q2 =>
 lt (sI q2 802 w 0 (((gI q2 802 w 0) + (1 : Int32)) - ((gI q2 802 w 0) + (1 : Int32)) / (30 : Int32) * (30 : Int32))) fun S3 =>
  lt (if (30 : Int32) < ((gI S3 803 w 0) + (1 : Int32)) then (30 : Int32) else ((gI S3 803 w 0) + (1 : Int32))) fun v4 =>
  lt (sI S3 803 w 0 v4) fun S5 =>
  some S5)
set_option maxRecDepth 100000 in
set_option maxHeartbeats 4000000 in
theorem t_X8_keepStep {l : Launch} {G : v_G} {S : St}  {w : Nat} (hw : w < 2)  {r : St} (hh : f_X8_keepStep w S  = some r) : v_M l G yX8_keepStep cX8_keepStep 1 (none) 3 0 0 [.ref (v_B G + (1 + 129 * w))] (lay G S) (QV (lay G r)) := by
  refine v_entry (by decide) (Nat.le_of_ble_eq_true rfl) ?_
  unfold f_X8_keepStep at hh
  show V l G yX8_keepStep cX8_keepStep 1 (none) (v_rm 3 0 0) (QV (lay G r)) 0 0 0 [(0, .ref (v_B G + (1 + 129 * w)))] [] (lay G S)
  refine v_aload_n 0 dX8_keepStep_0 rfl rfl ?_
  refine r_World_steps hw dX8_keepStep_1 fl_X8_18 ?_
  refine v_aload_n 0 dX8_keepStep_4 rfl rfl ?_
  refine r_World_nextStep hw dX8_keepStep_5 fl_X8_43 ?_
  obtain ⟨g1, hh⟩ := chk_some hh
  replace g1 := inb_in g1
  refine ld_steps hw dX8_keepStep_8 g1 ?_
  refine v_aload_n 0 dX8_keepStep_9 rfl rfl ?_
  refine r_World_sheet hw dX8_keepStep_10 fl_X8_12 ?_
  obtain ⟨q2, eq2, hh⟩ := bnd_some hh
  refine v_callVv (t_X4_becomes (ix_steps hw g1) (ix_sheet hw) eq2) dX8_keepStep_13 y_X4_becomes ml_X8_39 (ci := 3) rfl rfl (e_Sheet (ix_steps hw g1)) rfl rfl (Nat.le_of_ble_eq_true rfl) ⟨(Nat.le_of_ble_eq_true rfl), (Nat.le_of_ble_eq_true rfl)⟩ ⟨Nat.zero_le _, Nat.zero_le _⟩ ?_
  refine v_aload_n 0 dX8_keepStep_16 rfl rfl ?_
  refine v_aload_n 0 dX8_keepStep_17 rfl rfl ?_
  refine r_World_nextStep hw dX8_keepStep_18 fl_X8_43 ?_
  refine v_iconst dX8_keepStep_21 (by decide : _ = (1 : Int32)) ?_
  refine v_iadd dX8_keepStep_22 ?_
  refine v_bipush dX8_keepStep_23 (by decide : _ = (30 : Int32)) ?_
  refine v_irem dX8_keepStep_25 (by decide) ?_
  refine w_World_nextStep hw dX8_keepStep_26 fl_X8_43 ?_
  replace hh := lt_of hh
  refine v_aload_n 0 dX8_keepStep_29 rfl rfl ?_
  refine v_aload_n 0 dX8_keepStep_30 rfl rfl ?_
  refine r_World_stepCount hw dX8_keepStep_31 fl_X8_46 ?_
  refine v_iconst dX8_keepStep_34 (by decide : _ = (1 : Int32)) ?_
  refine v_iadd dX8_keepStep_35 ?_
  refine v_bipush dX8_keepStep_36 (by decide : _ = (30 : Int32)) ?_
  refine v_mmin dX8_keepStep_38 ml_X8_67 y_J9_min_7cf53.2 y_J9_min_7cf53.1.2.1 y_J9_min_7cf53.1.1 (Nat.le_of_ble_eq_true rfl) (Nat.le_of_ble_eq_true rfl) (Nat.zero_le _) (Nat.zero_le _) ?_
  replace hh := lt_of hh
  refine w_World_stepCount hw dX8_keepStep_41 fl_X8_46 ?_
  replace hh := lt_of hh
  obtain rfl := Option.some.inj hh
  exact v_vret dX8_keepStep_44 rfl (Nat.zero_le _) (Nat.zero_le _) ⟨rfl, rfl⟩
def f_X8_takeBack (w : Nat) (S : St)  : Option (Int32 × St) :=
  if (gI S 803 w 0) = (0 : Int32) then
  (some ((-1 : Int32), S))
  else
  (lt (sI S 802 w 0 ((((gI S 802 w 0) + (30 : Int32)) - (1 : Int32)) - (((gI S 802 w 0) + (30 : Int32)) - (1 : Int32)) / (30 : Int32) * (30 : Int32))) fun S1 =>
  chk (inb (gI S1 802 w 0) 30) (
  bnd (f_X4_becomes (31 * w) (31 * w + 1 + (gI S1 802 w 0).toNatClampNeg) S1 ) fun q3 =>
 lt (sI q3 803 w 0 ((gI q3 803 w 0) - (1 : Int32))) fun S4 =>
  some (gI S4 803 w 0, S4)))
set_option maxRecDepth 100000 in
set_option maxHeartbeats 4000000 in
theorem t_X8_takeBack {l : Launch} {G : v_G} {S : St}  {w : Nat} (hw : w < 2)  {r : Int32 × St} (hh : f_X8_takeBack w S  = some r) : v_M l G yX8_takeBack cX8_takeBack 1 (some .int) 3 0 0 [.ref (v_B G + (1 + 129 * w))] (lay G S) (QI r.1 (lay G r.2)) := by
  refine v_entry (by decide) (Nat.le_of_ble_eq_true rfl) ?_
  unfold f_X8_takeBack at hh
  show V l G yX8_takeBack cX8_takeBack 1 (some .int) (v_rm 3 0 0) (QI r.1 (lay G r.2)) 0 0 0 [(0, .ref (v_B G + (1 + 129 * w)))] [] (lay G S)
  refine v_aload_n 0 dX8_takeBack_0 rfl rfl ?_
  refine r_World_stepCount hw dX8_takeBack_1 fl_X8_46 ?_
  refine v_if_ne (tgt := 9) dX8_takeBack_4 (by decide) (fun c => ?_) (fun c => ?_)
  · replace hh := (if_neg c).symm.trans hh
    refine v_aload_n 0 dX8_takeBack_9 rfl rfl ?_
    refine v_aload_n 0 dX8_takeBack_10 rfl rfl ?_
    refine r_World_nextStep hw dX8_takeBack_11 fl_X8_43 ?_
    refine v_bipush dX8_takeBack_14 (by decide : _ = (30 : Int32)) ?_
    refine v_iadd dX8_takeBack_16 ?_
    refine v_iconst dX8_takeBack_17 (by decide : _ = (1 : Int32)) ?_
    refine v_isub dX8_takeBack_18 ?_
    refine v_bipush dX8_takeBack_19 (by decide : _ = (30 : Int32)) ?_
    refine v_irem dX8_takeBack_21 (by decide) ?_
    refine w_World_nextStep hw dX8_takeBack_22 fl_X8_43 ?_
    replace hh := lt_of hh
    refine v_aload_n 0 dX8_takeBack_25 rfl rfl ?_
    refine r_World_sheet hw dX8_takeBack_26 fl_X8_12 ?_
    refine v_aload_n 0 dX8_takeBack_29 rfl rfl ?_
    refine r_World_steps hw dX8_takeBack_30 fl_X8_18 ?_
    refine v_aload_n 0 dX8_takeBack_33 rfl rfl ?_
    refine r_World_nextStep hw dX8_takeBack_34 fl_X8_43 ?_
    obtain ⟨g2, hh⟩ := chk_some hh
    replace g2 := inb_in g2
    refine ld_steps hw dX8_takeBack_37 g2 ?_
    obtain ⟨q3, eq3, hh⟩ := bnd_some hh
    refine v_callVv (t_X4_becomes (ix_sheet hw) (ix_steps hw g2) eq3) dX8_takeBack_38 y_X4_becomes ml_X8_39 (ci := 3) rfl rfl (e_Sheet (ix_sheet hw)) rfl rfl (Nat.le_of_ble_eq_true rfl) ⟨(Nat.le_of_ble_eq_true rfl), (Nat.le_of_ble_eq_true rfl)⟩ ⟨Nat.zero_le _, Nat.zero_le _⟩ ?_
    refine v_aload_n 0 dX8_takeBack_41 rfl rfl ?_
    refine v_dup dX8_takeBack_42 rfl ?_
    refine r_World_stepCount hw dX8_takeBack_43 fl_X8_46 ?_
    refine v_iconst dX8_takeBack_46 (by decide : _ = (1 : Int32)) ?_
    refine v_isub dX8_takeBack_47 ?_
    refine w_World_stepCount hw dX8_takeBack_48 fl_X8_46 ?_
    replace hh := lt_of hh
    refine v_aload_n 0 dX8_takeBack_51 rfl rfl ?_
    refine r_World_stepCount hw dX8_takeBack_52 fl_X8_46 ?_
    obtain rfl := Option.some.inj hh
    exact v_iret dX8_takeBack_55 rfl (Nat.zero_le _) (Nat.zero_le _) ⟨rfl, rfl⟩
  · replace hh := (if_pos c).symm.trans hh
    refine v_iconst dX8_takeBack_7 (by decide : _ = (-1 : Int32)) ?_
    obtain rfl := Option.some.inj hh
    exact v_iret dX8_takeBack_8 rfl (Nat.zero_le _) (Nat.zero_le _) ⟨rfl, rfl⟩
def f_X8_tellDough_b12 (N : Nat) (w : Nat) : Nat → Int32 → Int32 → Int32 → St → Option (St)
  | 0, _, _, _, _ => none
  | n + 1, x1, x2, x3, S =>
  if (30 : Int32) ≤ x3 then
  (some S)
  else
  (chk (inb x3 30) (
  chk (inb x1 12) (
  lt (sI S 400 (31 * w + 1 + x3.toNatClampNeg) x1.toNatClampNeg x2) fun S5 =>
  lt (x3 + (1 : Int32)) fun v6 =>
  f_X8_tellDough_b12 N w n x1 x2 v6 S5)))
set_option maxRecDepth 100000 in
set_option maxHeartbeats 4000000 in
theorem tb_X8_tellDough_12 {l : Launch} {G : v_G} {N : Nat}  {w : Nat} (hw : w < 2)  {r : St}   : ∀ (n : Nat) (x1 : Int32) (x2 : Int32) (x3 : Int32) (S : St),  f_X8_tellDough_b12 N w n x1 x2 x3 S = some r → V l G yX8_tellDough cX8_tellDough 4 (none) (v_rm 0 0 0) (QV (lay G r)) 0 0 12 [(0, .ref (v_B G + (1 + 129 * w))), (1, .int x1), (2, .int x2), (3, .int x3)] [] (lay G S) := by
  intro n
  induction n with
  | zero =>
    intro x1 x2 x3 S  hh
    rw [f_X8_tellDough_b12] at hh
    cases hh
  | succ n ih =>
    intro x1 x2 x3 S  hh
    rw [f_X8_tellDough_b12] at hh
    refine v_iload_n 3 dX8_tellDough_12 rfl rfl ?_
    refine v_bipush dX8_tellDough_13 (by decide : _ = (30 : Int32)) ?_
    refine v_icmp_ge (tgt := 36) dX8_tellDough_15 (by decide) (fun c => ?_) (fun c => ?_)
    · replace hh := (if_pos c).symm.trans hh
      obtain rfl := Option.some.inj hh
      exact v_vret dX8_tellDough_36 rfl (Nat.zero_le _) (Nat.zero_le _) ⟨rfl, rfl⟩
    · replace hh := (if_neg c).symm.trans hh
      refine v_aload_n 0 dX8_tellDough_18 rfl rfl ?_
      refine r_World_steps hw dX8_tellDough_19 fl_X8_18 ?_
      refine v_iload_n 3 dX8_tellDough_22 rfl rfl ?_
      obtain ⟨g3, hh⟩ := chk_some hh
      replace g3 := inb_in g3
      refine ld_steps hw dX8_tellDough_23 g3 ?_
      refine r_Sheet_cells (ix_steps hw g3) dX8_tellDough_24 fl_X8_73 ?_
      refine v_iload_n 1 dX8_tellDough_27 rfl rfl ?_
      refine v_iload_n 2 dX8_tellDough_28 rfl rfl ?_
      obtain ⟨g4, hh⟩ := chk_some hh
      replace g4 := inb_in g4
      refine st_cells (ix_steps hw g3) dX8_tellDough_29 g4 ?_
      replace hh := lt_of hh
      refine v_iinc (v := _ + (1 : Int32)) 3 dX8_tellDough_30 rfl rfl (by decide) rfl ?_
      replace hh := lt_of hh
      refine v_goto (tgt := 12) dX8_tellDough_33 (by decide) ?_
      exact v_sub [1, 2, 3, 0] rfl (ih _ _ _ _ hh)
def f_X8_tellDough (N : Nat) (w : Nat) (S : St) (x1 : Int32) (x2 : Int32) : Option (St) :=
  chk (inb x1 12) (
  lt (sI S 400 (31 * w) x1.toNatClampNeg x2) fun S2 =>
  f_X8_tellDough_b12 N w N x1 x2 (0 : Int32) S2)
set_option maxRecDepth 100000 in
set_option maxHeartbeats 4000000 in
theorem t_X8_tellDough {l : Launch} {G : v_G} {N : Nat} {S : St}  {w : Nat} (hw : w < 2) {x1 : Int32} {x2 : Int32} {r : St} (hh : f_X8_tellDough N w S x1 x2 = some r) : v_M l G yX8_tellDough cX8_tellDough 4 (none) 0 0 0 [.ref (v_B G + (1 + 129 * w)), .int x1, .int x2] (lay G S) (QV (lay G r)) := by
  refine v_entry (by decide) (Nat.le_of_ble_eq_true rfl) ?_
  unfold f_X8_tellDough at hh
  show V l G yX8_tellDough cX8_tellDough 4 (none) (v_rm 0 0 0) (QV (lay G r)) 0 0 0 [(0, .ref (v_B G + (1 + 129 * w))), (1, .int x1), (2, .int x2)] [] (lay G S)
  refine v_aload_n 0 dX8_tellDough_0 rfl rfl ?_
  refine r_World_sheet hw dX8_tellDough_1 fl_X8_12 ?_
  refine r_Sheet_cells (ix_sheet hw) dX8_tellDough_4 fl_X8_73 ?_
  refine v_iload_n 1 dX8_tellDough_7 rfl rfl ?_
  refine v_iload_n 2 dX8_tellDough_8 rfl rfl ?_
  obtain ⟨g1, hh⟩ := chk_some hh
  replace g1 := inb_in g1
  refine st_cells (ix_sheet hw) dX8_tellDough_9 g1 ?_
  replace hh := lt_of hh
  refine v_iconst dX8_tellDough_10 (by decide : _ = (0 : Int32)) ?_
  refine v_istore_n dX8_tellDough_11 rfl (by decide) rfl ?_
  exact v_sub [1, 2, 3, 0] rfl (tb_X8_tellDough_12 hw N _ _ _ _ hh)
def f_X8_tellTown_b25 (N : Nat) (w : Nat) : Nat → Int32 → Int32 → St → Option (St)
  | 0, _, _, _ => none
  | n + 1, x1, x2, S =>
  if (30 : Int32) ≤ x2 then
  (lt (sI S 806 w 0 ((gI S 806 w 0) + (1 : Int32))) fun S3 =>
  some S3)
  else
  (chk (inb x2 30) (
  chk (inb (gI S 806 w 0) 6) (
  lt (sI S 401 (31 * w + 1 + x2.toNatClampNeg) ((gI S 806 w 0).toNatClampNeg) x1) fun S6 =>
  lt (x2 + (1 : Int32)) fun v7 =>
  f_X8_tellTown_b25 N w n x1 v7 S6)))
set_option maxRecDepth 100000 in
set_option maxHeartbeats 4000000 in
theorem tb_X8_tellTown_25 {l : Launch} {G : v_G} {N : Nat}  {w : Nat} (hw : w < 2)  {r : St}   : ∀ (n : Nat) (x1 : Int32) (x2 : Int32) (S : St),  f_X8_tellTown_b25 N w n x1 x2 S = some r → V l G yX8_tellTown cX8_tellTown 3 (none) (v_rm 0 0 0) (QV (lay G r)) 0 0 25 [(0, .ref (v_B G + (1 + 129 * w))), (1, .int x1), (2, .int x2)] [] (lay G S) := by
  intro n
  induction n with
  | zero =>
    intro x1 x2 S  hh
    rw [f_X8_tellTown_b25] at hh
    cases hh
  | succ n ih =>
    intro x1 x2 S  hh
    rw [f_X8_tellTown_b25] at hh
    refine v_iload_n 2 dX8_tellTown_25 rfl rfl ?_
    refine v_bipush dX8_tellTown_26 (by decide : _ = (30 : Int32)) ?_
    refine v_icmp_ge (tgt := 52) dX8_tellTown_28 (by decide) (fun c => ?_) (fun c => ?_)
    · replace hh := (if_pos c).symm.trans hh
      refine v_aload_n 0 dX8_tellTown_52 rfl rfl ?_
      refine v_dup dX8_tellTown_53 rfl ?_
      refine r_World_towns hw dX8_tellTown_54 fl_X8_58 ?_
      refine v_iconst dX8_tellTown_57 (by decide : _ = (1 : Int32)) ?_
      refine v_iadd dX8_tellTown_58 ?_
      refine w_World_towns hw dX8_tellTown_59 fl_X8_58 ?_
      replace hh := lt_of hh
      obtain rfl := Option.some.inj hh
      exact v_vret dX8_tellTown_62 rfl (Nat.zero_le _) (Nat.zero_le _) ⟨rfl, rfl⟩
    · replace hh := (if_neg c).symm.trans hh
      refine v_aload_n 0 dX8_tellTown_31 rfl rfl ?_
      refine r_World_steps hw dX8_tellTown_32 fl_X8_18 ?_
      refine v_iload_n 2 dX8_tellTown_35 rfl rfl ?_
      obtain ⟨g4, hh⟩ := chk_some hh
      replace g4 := inb_in g4
      refine ld_steps hw dX8_tellTown_36 g4 ?_
      refine r_Sheet_homes (ix_steps hw g4) dX8_tellTown_37 fl_X8_76 ?_
      refine v_aload_n 0 dX8_tellTown_40 rfl rfl ?_
      refine r_World_towns hw dX8_tellTown_41 fl_X8_58 ?_
      refine v_iload_n 1 dX8_tellTown_44 rfl rfl ?_
      obtain ⟨g5, hh⟩ := chk_some hh
      replace g5 := inb_in g5
      refine st_homes (ix_steps hw g4) dX8_tellTown_45 g5 ?_
      replace hh := lt_of hh
      refine v_iinc (v := _ + (1 : Int32)) 2 dX8_tellTown_46 rfl rfl (by decide) rfl ?_
      replace hh := lt_of hh
      refine v_goto (tgt := 25) dX8_tellTown_49 (by decide) ?_
      exact v_sub [1, 2, 0] rfl (ih _ _ _ hh)
def f_X8_tellTown (N : Nat) (w : Nat) (S : St) (x1 : Int32) : Option (St) :=
  if (gI S 806 w 0) < (6 : Int32) then
  (chk (inb (gI S 806 w 0) 6) (
  lt (sI S 401 (31 * w) ((gI S 806 w 0).toNatClampNeg) x1) fun S2 =>
  f_X8_tellTown_b25 N w N x1 (0 : Int32) S2))
  else
  (some S)
set_option maxRecDepth 100000 in
set_option maxHeartbeats 4000000 in
theorem t_X8_tellTown {l : Launch} {G : v_G} {N : Nat} {S : St}  {w : Nat} (hw : w < 2) {x1 : Int32} {r : St} (hh : f_X8_tellTown N w S x1 = some r) : v_M l G yX8_tellTown cX8_tellTown 3 (none) 0 0 0 [.ref (v_B G + (1 + 129 * w)), .int x1] (lay G S) (QV (lay G r)) := by
  refine v_entry (by decide) (Nat.le_of_ble_eq_true rfl) ?_
  unfold f_X8_tellTown at hh
  show V l G yX8_tellTown cX8_tellTown 3 (none) (v_rm 0 0 0) (QV (lay G r)) 0 0 0 [(0, .ref (v_B G + (1 + 129 * w))), (1, .int x1)] [] (lay G S)
  refine v_aload_n 0 dX8_tellTown_0 rfl rfl ?_
  refine r_World_towns hw dX8_tellTown_1 fl_X8_58 ?_
  refine v_bipush dX8_tellTown_4 (by decide : _ = (6 : Int32)) ?_
  refine v_icmp_lt (tgt := 10) dX8_tellTown_6 (by decide) (fun c => ?_) (fun c => ?_)
  · replace hh := (if_pos c).symm.trans hh
    refine v_aload_n 0 dX8_tellTown_10 rfl rfl ?_
    refine r_World_sheet hw dX8_tellTown_11 fl_X8_12 ?_
    refine r_Sheet_homes (ix_sheet hw) dX8_tellTown_14 fl_X8_76 ?_
    refine v_aload_n 0 dX8_tellTown_17 rfl rfl ?_
    refine r_World_towns hw dX8_tellTown_18 fl_X8_58 ?_
    refine v_iload_n 1 dX8_tellTown_21 rfl rfl ?_
    obtain ⟨g1, hh⟩ := chk_some hh
    replace g1 := inb_in g1
    refine st_homes (ix_sheet hw) dX8_tellTown_22 g1 ?_
    replace hh := lt_of hh
    refine v_iconst dX8_tellTown_23 (by decide : _ = (0 : Int32)) ?_
    refine v_istore_n dX8_tellTown_24 rfl (by decide) rfl ?_
    exact v_sub [1, 2, 0] rfl (tb_X8_tellTown_25 hw N _ _ _ hh)
  · replace hh := (if_neg c).symm.trans hh
    obtain rfl := Option.some.inj hh
    exact v_vret dX8_tellTown_9 rfl (Nat.zero_le _) (Nat.zero_le _) ⟨rfl, rfl⟩
def f_X8_tellSaid (w : Nat) (S : St) (x1 : Int32) (x2 : Int32) (x3 : Int32) : Option (St) :=
  lt ((3 : Int32) * (gI S 811 w 0)) fun v1 =>
  if (v1 + (2 : Int32)) < (24 : Int32) then
  (chk (inb v1 24) (
  lt (sI S 810 w v1.toNatClampNeg x1) fun S3 =>
  chk (inb (v1 + (1 : Int32)) 24) (
  lt (sI S3 810 w ((v1 + (1 : Int32)).toNatClampNeg) x2) fun S5 =>
  chk (inb (v1 + (2 : Int32)) 24) (
  lt (sI S5 810 w ((v1 + (2 : Int32)).toNatClampNeg) x3) fun S7 =>
  lt (sI S7 811 w 0 ((gI S7 811 w 0) + (1 : Int32))) fun S8 =>
  some S8))))
  else
  (some S)
set_option maxRecDepth 100000 in
set_option maxHeartbeats 4000000 in
theorem t_X8_tellSaid {l : Launch} {G : v_G} {S : St}  {w : Nat} (hw : w < 2) {x1 : Int32} {x2 : Int32} {x3 : Int32} {r : St} (hh : f_X8_tellSaid w S x1 x2 x3 = some r) : v_M l G yX8_tellSaid cX8_tellSaid 5 (none) 0 0 0 [.ref (v_B G + (1 + 129 * w)), .int x1, .int x2, .int x3] (lay G S) (QV (lay G r)) := by
  refine v_entry (by decide) (Nat.le_of_ble_eq_true rfl) ?_
  unfold f_X8_tellSaid at hh
  show V l G yX8_tellSaid cX8_tellSaid 5 (none) (v_rm 0 0 0) (QV (lay G r)) 0 0 0 [(0, .ref (v_B G + (1 + 129 * w))), (1, .int x1), (2, .int x2), (3, .int x3)] [] (lay G S)
  refine v_iconst dX8_tellSaid_0 (by decide : _ = (3 : Int32)) ?_
  refine v_aload_n 0 dX8_tellSaid_1 rfl rfl ?_
  refine r_World_saidCount hw dX8_tellSaid_2 fl_X8_64 ?_
  refine v_imul dX8_tellSaid_5 ?_
  refine v_istore dX8_tellSaid_6 (by decide) rfl ?_
  replace hh := lt_of hh
  refine v_iload 0 dX8_tellSaid_8 rfl ?_
  refine v_iconst dX8_tellSaid_10 (by decide : _ = (2 : Int32)) ?_
  refine v_iadd dX8_tellSaid_11 ?_
  refine v_aload_n 1 dX8_tellSaid_12 rfl rfl ?_
  refine r_World_said hw dX8_tellSaid_13 fl_X8_36 ?_
  refine ln_said hw dX8_tellSaid_16 ?_
  refine v_icmp_lt (tgt := 21) dX8_tellSaid_17 (by decide) (fun c => ?_) (fun c => ?_)
  · replace hh := (if_pos c).symm.trans hh
    refine v_aload_n 1 dX8_tellSaid_21 rfl rfl ?_
    refine r_World_said hw dX8_tellSaid_22 fl_X8_36 ?_
    refine v_iload 0 dX8_tellSaid_25 rfl ?_
    refine v_iload_n 2 dX8_tellSaid_27 rfl rfl ?_
    obtain ⟨g2, hh⟩ := chk_some hh
    replace g2 := inb_in g2
    refine st_said hw dX8_tellSaid_28 g2 ?_
    replace hh := lt_of hh
    refine v_aload_n 1 dX8_tellSaid_29 rfl rfl ?_
    refine r_World_said hw dX8_tellSaid_30 fl_X8_36 ?_
    refine v_iload 0 dX8_tellSaid_33 rfl ?_
    refine v_iconst dX8_tellSaid_35 (by decide : _ = (1 : Int32)) ?_
    refine v_iadd dX8_tellSaid_36 ?_
    refine v_iload_n 3 dX8_tellSaid_37 rfl rfl ?_
    obtain ⟨g4, hh⟩ := chk_some hh
    replace g4 := inb_in g4
    refine st_said hw dX8_tellSaid_38 g4 ?_
    replace hh := lt_of hh
    refine v_aload_n 1 dX8_tellSaid_39 rfl rfl ?_
    refine r_World_said hw dX8_tellSaid_40 fl_X8_36 ?_
    refine v_iload 0 dX8_tellSaid_43 rfl ?_
    refine v_iconst dX8_tellSaid_45 (by decide : _ = (2 : Int32)) ?_
    refine v_iadd dX8_tellSaid_46 ?_
    refine v_iload_n 4 dX8_tellSaid_47 rfl rfl ?_
    obtain ⟨g6, hh⟩ := chk_some hh
    replace g6 := inb_in g6
    refine st_said hw dX8_tellSaid_48 g6 ?_
    replace hh := lt_of hh
    refine v_aload_n 1 dX8_tellSaid_49 rfl rfl ?_
    refine v_dup dX8_tellSaid_50 rfl ?_
    refine r_World_saidCount hw dX8_tellSaid_51 fl_X8_64 ?_
    refine v_iconst dX8_tellSaid_54 (by decide : _ = (1 : Int32)) ?_
    refine v_iadd dX8_tellSaid_55 ?_
    refine w_World_saidCount hw dX8_tellSaid_56 fl_X8_64 ?_
    replace hh := lt_of hh
    obtain rfl := Option.some.inj hh
    exact v_vret dX8_tellSaid_59 rfl (Nat.zero_le _) (Nat.zero_le _) ⟨rfl, rfl⟩
  · replace hh := (if_neg c).symm.trans hh
    obtain rfl := Option.some.inj hh
    exact v_vret dX8_tellSaid_20 rfl (Nat.zero_le _) (Nat.zero_le _) ⟨rfl, rfl⟩
def f_X8_movesOf (w : Nat) (S : St) (x1 : Int32) : Option (Nat) :=
  if x1 < (0 : Int32) then
  (some (1))
  else
  (if x1 < (gI S 808 w 0) then
  (chk (inb x1 4) (
  if gR S 807 w x1.toNatClampNeg = 0 then
  (some (1))
  else
  (bnd (gT S (gR S 807 w x1.toNatClampNeg)) fun q2 =>
  some q2.2.1)))
  else
  (some (1)))
set_option maxRecDepth 100000 in
set_option maxHeartbeats 4000000 in
theorem t_X8_movesOf {l : Launch} {G : v_G} {S : St}  {w : Nat} (hw : w < 2) {x1 : Int32} {r : Nat} (hh : f_X8_movesOf w S x1 = some r) : v_M l G yX8_movesOf cX8_movesOf 3 (some (.array .int)) 0 0 0 [.ref (v_B G + (1 + 129 * w)), .int x1] (lay G S) (QA (.ref (da G r)) (lay G S)) := by
  refine v_entry (by decide) (Nat.le_of_ble_eq_true rfl) ?_
  unfold f_X8_movesOf at hh
  show V l G yX8_movesOf cX8_movesOf 3 (some (.array .int)) (v_rm 0 0 0) (QA (.ref (da G r)) (lay G S)) 0 0 0 [(0, .ref (v_B G + (1 + 129 * w))), (1, .int x1)] [] (lay G S)
  refine v_iload_n 1 dX8_movesOf_0 rfl rfl ?_
  refine v_if_lt (tgt := 12) dX8_movesOf_1 (by decide) (fun c => ?_) (fun c => ?_)
  · replace hh := (if_pos c).symm.trans hh
    refine v_null dX8_movesOf_12 ?_
    refine v_goto (tgt := 22) dX8_movesOf_13 (by decide) ?_
    refine v_astore_nN dX8_movesOf_22 rfl (by decide) rfl ?_
    refine v_aload_nN 0 dX8_movesOf_23 rfl rfl ?_
    refine v_ifnonnullN dX8_movesOf_24 ?_
    refine v_getNL dX8_movesOf_27 rfl fl_X8_79 ?_
    refine v_goto (tgt := 37) dX8_movesOf_30 (by decide) ?_
    obtain rfl := Option.some.inj hh
    exact v_aret dX8_movesOf_37 rfl (by first | exact Or.inl ⟨_, rfl⟩ | exact Or.inr ⟨_, rfl⟩) (Or.inr ⟨_, rfl⟩) (Nat.zero_le _) (Nat.zero_le _) ⟨rfl, rfl⟩
  · replace hh := (if_neg c).symm.trans hh
    refine v_iload_n 1 dX8_movesOf_4 rfl rfl ?_
    refine v_aload_n 0 dX8_movesOf_5 rfl rfl ?_
    refine r_World_textCount hw dX8_movesOf_6 fl_X8_61 ?_
    refine v_icmp_lt (tgt := 16) dX8_movesOf_9 (by decide) (fun c => ?_) (fun c => ?_)
    · replace hh := (if_pos c).symm.trans hh
      refine v_aload_n 0 dX8_movesOf_16 rfl rfl ?_
      refine r_World_texts hw dX8_movesOf_17 fl_X8_28 ?_
      refine v_iload_n 1 dX8_movesOf_20 rfl rfl ?_
      obtain ⟨g1, hh⟩ := chk_some hh
      replace g1 := inb_in g1
      refine tx_cases (fun c => ?_) (fun c => ?_) hh
      · intro hh
        refine ld_textsN hw dX8_movesOf_21 g1 c ?_
        refine v_astore_nN dX8_movesOf_22 rfl (by decide) rfl ?_
        refine v_aload_nN 0 dX8_movesOf_23 rfl rfl ?_
        refine v_ifnonnullN dX8_movesOf_24 ?_
        refine v_getNL dX8_movesOf_27 rfl fl_X8_79 ?_
        refine v_goto (tgt := 37) dX8_movesOf_30 (by decide) ?_
        obtain rfl := Option.some.inj hh
        exact v_aret dX8_movesOf_37 rfl (by first | exact Or.inl ⟨_, rfl⟩ | exact Or.inr ⟨_, rfl⟩) (Or.inr ⟨_, rfl⟩) (Nat.zero_le _) (Nat.zero_le _) ⟨rfl, rfl⟩
      · intro hh
        refine ld_textsT hw dX8_movesOf_21 g1 c ?_
        refine v_astore_n dX8_movesOf_22 rfl (by decide) rfl ?_
        refine v_aload_n 0 dX8_movesOf_23 rfl rfl ?_
        refine v_ifnonnull (tgt := 33) dX8_movesOf_24 (by decide) ?_
        refine v_aload_n 0 dX8_movesOf_33 rfl rfl ?_
        obtain ⟨q2, eq2, hh⟩ := bnd_some hh
        refine r_Text_moves eq2 dX8_movesOf_34 fl_X8_82 ?_
        obtain rfl := Option.some.inj hh
        exact v_aret dX8_movesOf_37 rfl (by first | exact Or.inl ⟨_, rfl⟩ | exact Or.inr ⟨_, rfl⟩) (Or.inr ⟨_, rfl⟩) (Nat.zero_le _) (Nat.zero_le _) ⟨rfl, rfl⟩
    · replace hh := (if_neg c).symm.trans hh
      refine v_null dX8_movesOf_12 ?_
      refine v_goto (tgt := 22) dX8_movesOf_13 (by decide) ?_
      refine v_astore_nN dX8_movesOf_22 rfl (by decide) rfl ?_
      refine v_aload_nN 0 dX8_movesOf_23 rfl rfl ?_
      refine v_ifnonnullN dX8_movesOf_24 ?_
      refine v_getNL dX8_movesOf_27 rfl fl_X8_79 ?_
      refine v_goto (tgt := 37) dX8_movesOf_30 (by decide) ?_
      obtain rfl := Option.some.inj hh
      exact v_aret dX8_movesOf_37 rfl (by first | exact Or.inl ⟨_, rfl⟩ | exact Or.inr ⟨_, rfl⟩) (Or.inr ⟨_, rfl⟩) (Nat.zero_le _) (Nat.zero_le _) ⟨rfl, rfl⟩
def f_X8_tearsOf (w : Nat) (S : St) (x1 : Int32) : Option (Nat) :=
  if x1 < (0 : Int32) then
  (some (1))
  else
  (if x1 < (gI S 808 w 0) then
  (chk (inb x1 4) (
  if gR S 807 w x1.toNatClampNeg = 0 then
  (some (1))
  else
  (bnd (gT S (gR S 807 w x1.toNatClampNeg)) fun q2 =>
  some q2.2.2)))
  else
  (some (1)))
set_option maxRecDepth 100000 in
set_option maxHeartbeats 4000000 in
theorem t_X8_tearsOf {l : Launch} {G : v_G} {S : St}  {w : Nat} (hw : w < 2) {x1 : Int32} {r : Nat} (hh : f_X8_tearsOf w S x1 = some r) : v_M l G yX8_tearsOf cX8_tearsOf 3 (some (.array .int)) 0 0 0 [.ref (v_B G + (1 + 129 * w)), .int x1] (lay G S) (QA (.ref (da G r)) (lay G S)) := by
  refine v_entry (by decide) (Nat.le_of_ble_eq_true rfl) ?_
  unfold f_X8_tearsOf at hh
  show V l G yX8_tearsOf cX8_tearsOf 3 (some (.array .int)) (v_rm 0 0 0) (QA (.ref (da G r)) (lay G S)) 0 0 0 [(0, .ref (v_B G + (1 + 129 * w))), (1, .int x1)] [] (lay G S)
  refine v_iload_n 1 dX8_tearsOf_0 rfl rfl ?_
  refine v_if_lt (tgt := 12) dX8_tearsOf_1 (by decide) (fun c => ?_) (fun c => ?_)
  · replace hh := (if_pos c).symm.trans hh
    refine v_null dX8_tearsOf_12 ?_
    refine v_goto (tgt := 22) dX8_tearsOf_13 (by decide) ?_
    refine v_astore_nN dX8_tearsOf_22 rfl (by decide) rfl ?_
    refine v_aload_nN 0 dX8_tearsOf_23 rfl rfl ?_
    refine v_ifnonnullN dX8_tearsOf_24 ?_
    refine v_getNL dX8_tearsOf_27 rfl fl_X8_79 ?_
    refine v_goto (tgt := 37) dX8_tearsOf_30 (by decide) ?_
    obtain rfl := Option.some.inj hh
    exact v_aret dX8_tearsOf_37 rfl (by first | exact Or.inl ⟨_, rfl⟩ | exact Or.inr ⟨_, rfl⟩) (Or.inr ⟨_, rfl⟩) (Nat.zero_le _) (Nat.zero_le _) ⟨rfl, rfl⟩
  · replace hh := (if_neg c).symm.trans hh
    refine v_iload_n 1 dX8_tearsOf_4 rfl rfl ?_
    refine v_aload_n 0 dX8_tearsOf_5 rfl rfl ?_
    refine r_World_textCount hw dX8_tearsOf_6 fl_X8_61 ?_
    refine v_icmp_lt (tgt := 16) dX8_tearsOf_9 (by decide) (fun c => ?_) (fun c => ?_)
    · replace hh := (if_pos c).symm.trans hh
      refine v_aload_n 0 dX8_tearsOf_16 rfl rfl ?_
      refine r_World_texts hw dX8_tearsOf_17 fl_X8_28 ?_
      refine v_iload_n 1 dX8_tearsOf_20 rfl rfl ?_
      obtain ⟨g1, hh⟩ := chk_some hh
      replace g1 := inb_in g1
      refine tx_cases (fun c => ?_) (fun c => ?_) hh
      · intro hh
        refine ld_textsN hw dX8_tearsOf_21 g1 c ?_
        refine v_astore_nN dX8_tearsOf_22 rfl (by decide) rfl ?_
        refine v_aload_nN 0 dX8_tearsOf_23 rfl rfl ?_
        refine v_ifnonnullN dX8_tearsOf_24 ?_
        refine v_getNL dX8_tearsOf_27 rfl fl_X8_79 ?_
        refine v_goto (tgt := 37) dX8_tearsOf_30 (by decide) ?_
        obtain rfl := Option.some.inj hh
        exact v_aret dX8_tearsOf_37 rfl (by first | exact Or.inl ⟨_, rfl⟩ | exact Or.inr ⟨_, rfl⟩) (Or.inr ⟨_, rfl⟩) (Nat.zero_le _) (Nat.zero_le _) ⟨rfl, rfl⟩
      · intro hh
        refine ld_textsT hw dX8_tearsOf_21 g1 c ?_
        refine v_astore_n dX8_tearsOf_22 rfl (by decide) rfl ?_
        refine v_aload_n 0 dX8_tearsOf_23 rfl rfl ?_
        refine v_ifnonnull (tgt := 33) dX8_tearsOf_24 (by decide) ?_
        refine v_aload_n 0 dX8_tearsOf_33 rfl rfl ?_
        obtain ⟨q2, eq2, hh⟩ := bnd_some hh
        refine r_Text_tears eq2 dX8_tearsOf_34 fl_X8_85 ?_
        obtain rfl := Option.some.inj hh
        exact v_aret dX8_tearsOf_37 rfl (by first | exact Or.inl ⟨_, rfl⟩ | exact Or.inr ⟨_, rfl⟩) (Or.inr ⟨_, rfl⟩) (Nat.zero_le _) (Nat.zero_le _) ⟨rfl, rfl⟩
    · replace hh := (if_neg c).symm.trans hh
      refine v_null dX8_tearsOf_12 ?_
      refine v_goto (tgt := 22) dX8_tearsOf_13 (by decide) ?_
      refine v_astore_nN dX8_tearsOf_22 rfl (by decide) rfl ?_
      refine v_aload_nN 0 dX8_tearsOf_23 rfl rfl ?_
      refine v_ifnonnullN dX8_tearsOf_24 ?_
      refine v_getNL dX8_tearsOf_27 rfl fl_X8_79 ?_
      refine v_goto (tgt := 37) dX8_tearsOf_30 (by decide) ?_
      obtain rfl := Option.some.inj hh
      exact v_aret dX8_tearsOf_37 rfl (by first | exact Or.inl ⟨_, rfl⟩ | exact Or.inr ⟨_, rfl⟩) (Or.inr ⟨_, rfl⟩) (Nat.zero_le _) (Nat.zero_le _) ⟨rfl, rfl⟩
