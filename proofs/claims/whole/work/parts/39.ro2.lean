def f_X9_undo  (S : St)  : Option (Int32 × St) :=
  bnd (f_X8_takeBack 0 S ) fun q1 =>
 some (q1.1, q1.2)
set_option maxRecDepth 100000 in
set_option maxHeartbeats 4000000 in
theorem t_X9_undo {l : Launch} {G : v_G} {S : St}    {r : Int32 × St} (hh : f_X9_undo  S  = some r) : v_M l G yX9_undo cX9_undo 1 (some .int) 4 0 0 [.ref (v_B G + 0)] (lay G S) (QI r.1 (lay G r.2)) := by
  refine v_entry (by decide) (Nat.le_of_ble_eq_true rfl) ?_
  unfold f_X9_undo at hh
  show V l G yX9_undo cX9_undo 1 (some .int) (v_rm 4 0 0) (QI r.1 (lay G r.2)) 0 0 0 [(0, .ref (v_B G + 0))] [] (lay G S)
  refine v_aload_n 0 dX9_undo_0 rfl rfl ?_
  refine r_RolledOut_now dX9_undo_1 fl_X9_12 ?_
  obtain ⟨q1, eq1, hh⟩ := bnd_some hh
  refine v_callVi (t_X8_takeBack (by decide) eq1) dX9_undo_4 y_X8_takeBack ml_X9_182 (ci := 7) rfl rfl (e_World (by decide)) rfl rfl (Nat.le_of_ble_eq_true rfl) ⟨(Nat.le_of_ble_eq_true rfl), (Nat.le_of_ble_eq_true rfl)⟩ ⟨Nat.zero_le _, Nat.zero_le _⟩ ?_
  obtain rfl := Option.some.inj hh
  exact v_iret dX9_undo_7 rfl (Nat.zero_le _) (Nat.zero_le _) ⟨rfl, rfl⟩
def f_X9_of (N : Nat) (S : St) (x1 : Int32) (x2 : Int32) : Option (Int32 × St) :=
  bnd (f_X9_isCell S x1) fun q1 =>
 if q1 = (0 : Int32) then
  (some ((-1 : Int32), S))
  else
  (if x2 = (0 : Int32) then
  (chk (inb x1 12) (
  some (gI S 400 0 x1.toNatClampNeg, S)))
  else if x2 = (1 : Int32) then
  (some (((gI S 404 0 0) >>> (x1 &&& 31)) &&& (1 : Int32), S))
  else if x2 = (2 : Int32) then
  (bnd (f_X4_townsIn N 0 S x1) fun q3 =>
 some (q3, S))
  else if x2 = (3 : Int32) then
  (bnd (f_X2_tearing N 0 S x1) fun q4 =>
 some (q4.1, q4.2))
  else (some ((-1 : Int32), S)))
set_option maxRecDepth 100000 in
set_option maxHeartbeats 4000000 in
theorem t_X9_of {l : Launch} {G : v_G} {N : Nat} {S : St}   {x1 : Int32} {x2 : Int32} {r : Int32 × St} (hh : f_X9_of N S x1 x2 = some r) : v_M l G yX9_of cX9_of 3 (some .int) 3 0 0 [.ref (v_B G + 0), .int x1, .int x2] (lay G S) (QI r.1 (lay G r.2)) := by
  refine v_entry (by decide) (Nat.le_of_ble_eq_true rfl) ?_
  unfold f_X9_of at hh
  show V l G yX9_of cX9_of 3 (some .int) (v_rm 3 0 0) (QI r.1 (lay G r.2)) 0 0 0 [(0, .ref (v_B G + 0)), (1, .int x1), (2, .int x2)] [] (lay G S)
  refine v_iload_n 1 dX9_of_0 rfl rfl ?_
  obtain ⟨q1, eq1, hh⟩ := bnd_some hh
  refine v_callSi (t_X9_isCell eq1) dX9_of_1 y_X9_isCell ml_X9_68 rfl rfl (Nat.le_of_ble_eq_true rfl) ⟨(Nat.le_of_ble_eq_true rfl), (Nat.le_of_ble_eq_true rfl)⟩ ⟨Nat.zero_le _, Nat.zero_le _⟩ ?_
  refine v_if_ne (tgt := 9) dX9_of_4 (by decide) (fun c => ?_) (fun c => ?_)
  · replace hh := (if_neg c).symm.trans hh
    refine v_iload_n 2 dX9_of_9 rfl rfl ?_
    refine sw_if hh (fun c0 hh => ?_) (fun c0 hh => ?_)
    · skip
      refine v_tableIn (tgt := 40) dX9_of_10 (by rw [c0]; decide) (by rw [c0]; decide) (by rw [c0] <;> rfl) (by decide) ?_
      refine v_aload_n 0 dX9_of_40 rfl rfl ?_
      refine r_RolledOut_now dX9_of_41 fl_X9_12 ?_
      refine r_World_sheet (by decide) dX9_of_44 fl_X9_122 ?_
      refine r_Sheet_cells (by decide) dX9_of_47 fl_X9_126 ?_
      refine v_iload_n 1 dX9_of_50 rfl rfl ?_
      obtain ⟨g2, hh⟩ := chk_some hh
      replace g2 := inb_in g2
      refine ld_cells (by decide) dX9_of_51 g2 ?_
      obtain rfl := Option.some.inj hh
      exact v_iret dX9_of_52 rfl (Nat.zero_le _) (Nat.zero_le _) ⟨rfl, rfl⟩
    · skip
      refine sw_if hh (fun c1 hh => ?_) (fun c1 hh => ?_)
      · skip
        refine v_tableIn (tgt := 53) dX9_of_10 (by rw [c1]; decide) (by rw [c1]; decide) (by rw [c1] <;> rfl) (by decide) ?_
        refine v_aload_n 0 dX9_of_53 rfl rfl ?_
        refine r_RolledOut_now dX9_of_54 fl_X9_12 ?_
        refine r_World_sheet (by decide) dX9_of_57 fl_X9_122 ?_
        refine r_Sheet_torn (by decide) dX9_of_60 fl_X9_154 ?_
        refine v_iload_n 1 dX9_of_63 rfl rfl ?_
        refine v_ishr dX9_of_64 ?_
        refine v_iconst dX9_of_65 (by decide : _ = (1 : Int32)) ?_
        refine v_iand dX9_of_66 ?_
        obtain rfl := Option.some.inj hh
        exact v_iret dX9_of_67 rfl (Nat.zero_le _) (Nat.zero_le _) ⟨rfl, rfl⟩
      · skip
        refine sw_if hh (fun c2 hh => ?_) (fun c2 hh => ?_)
        · skip
          refine v_tableIn (tgt := 68) dX9_of_10 (by rw [c2]; decide) (by rw [c2]; decide) (by rw [c2] <;> rfl) (by decide) ?_
          refine v_aload_n 0 dX9_of_68 rfl rfl ?_
          refine r_RolledOut_now dX9_of_69 fl_X9_12 ?_
          refine r_World_sheet (by decide) dX9_of_72 fl_X9_122 ?_
          refine v_iload_n 1 dX9_of_75 rfl rfl ?_
          obtain ⟨q3, eq3, hh⟩ := bnd_some hh
          refine v_callVi (t_X4_townsIn (by decide) eq3) dX9_of_76 y_X4_townsIn ml_X9_186 (ci := 3) rfl rfl (e_Sheet (by decide)) rfl rfl (Nat.le_of_ble_eq_true rfl) ⟨(Nat.le_of_ble_eq_true rfl), (Nat.le_of_ble_eq_true rfl)⟩ ⟨Nat.zero_le _, Nat.zero_le _⟩ ?_
          obtain rfl := Option.some.inj hh
          exact v_iret dX9_of_79 rfl (Nat.zero_le _) (Nat.zero_le _) ⟨rfl, rfl⟩
        · skip
          refine sw_if hh (fun c3 hh => ?_) (fun c3 hh => ?_)
          · skip
            refine v_tableIn (tgt := 80) dX9_of_10 (by rw [c3]; decide) (by rw [c3]; decide) (by rw [c3] <;> rfl) (by decide) ?_
            refine v_aload_n 0 dX9_of_80 rfl rfl ?_
            refine r_RolledOut_rules dX9_of_81 fl_X9_24 ?_
            refine v_aload_n 0 dX9_of_84 rfl rfl ?_
            refine r_RolledOut_now dX9_of_85 fl_X9_12 ?_
            refine r_World_sheet (by decide) dX9_of_88 fl_X9_122 ?_
            refine v_iload_n 1 dX9_of_91 rfl rfl ?_
            obtain ⟨q4, eq4, hh⟩ := bnd_some hh
            refine v_callVi (t_X2_tearing (by decide) eq4) dX9_of_92 y_X2_tearing ml_X9_189 (ci := 1) rfl rfl (e_Rules) rfl rfl (Nat.le_of_ble_eq_true rfl) ⟨(Nat.le_of_ble_eq_true rfl), (Nat.le_of_ble_eq_true rfl)⟩ ⟨Nat.zero_le _, Nat.zero_le _⟩ ?_
            obtain rfl := Option.some.inj hh
            exact v_iret dX9_of_95 rfl (Nat.zero_le _) (Nat.zero_le _) ⟨rfl, rfl⟩
          · skip
            refine v_tableOut (tgt := 96) dX9_of_10 (sw_out 4 (by decide) (fun k hk => match k, hk with | 0, _ => fun h => c0 (h.trans (by decide)) | 1, _ => fun h => c1 (h.trans (by decide)) | 2, _ => fun h => c2 (h.trans (by decide)) | 3, _ => fun h => c3 (h.trans (by decide)) | k + 4, hk => absurd hk (by omega))) (by decide) ?_
            refine v_iconst dX9_of_96 (by decide : _ = (-1 : Int32)) ?_
            obtain rfl := Option.some.inj hh
            exact v_iret dX9_of_97 rfl (Nat.zero_le _) (Nat.zero_le _) ⟨rfl, rfl⟩
  · replace hh := (if_pos c).symm.trans hh
    refine v_iconst dX9_of_7 (by decide : _ = (-1 : Int32)) ?_
    obtain rfl := Option.some.inj hh
    exact v_iret dX9_of_8 rfl (Nat.zero_le _) (Nat.zero_le _) ⟨rfl, rfl⟩
def f_X9_ofTown  (S : St) (x1 : Int32) : Option (Int32) :=
  bnd (f_X9_isTown S x1) fun q1 =>
 if q1 = (0 : Int32) then
  (some (-2 : Int32))
  else
  (chk (inb x1 6) (
  some (gI S 401 0 x1.toNatClampNeg)))
set_option maxRecDepth 100000 in
set_option maxHeartbeats 4000000 in
theorem t_X9_ofTown {l : Launch} {G : v_G} {S : St}   {x1 : Int32} {r : Int32} (hh : f_X9_ofTown  S x1 = some r) : v_M l G yX9_ofTown cX9_ofTown 2 (some .int) 1 0 0 [.ref (v_B G + 0), .int x1] (lay G S) (QI r (lay G S)) := by
  refine v_entry (by decide) (Nat.le_of_ble_eq_true rfl) ?_
  unfold f_X9_ofTown at hh
  show V l G yX9_ofTown cX9_ofTown 2 (some .int) (v_rm 1 0 0) (QI r (lay G S)) 0 0 0 [(0, .ref (v_B G + 0)), (1, .int x1)] [] (lay G S)
  refine v_aload_n 0 dX9_ofTown_0 rfl rfl ?_
  refine v_iload_n 1 dX9_ofTown_1 rfl rfl ?_
  obtain ⟨q1, eq1, hh⟩ := bnd_some hh
  refine v_callVi (t_X9_isTown eq1) dX9_ofTown_2 y_X9_isTown ml_X9_193 (ci := 8) rfl rfl (e_RolledOut) rfl rfl (Nat.le_of_ble_eq_true rfl) ⟨(Nat.le_of_ble_eq_true rfl), (Nat.le_of_ble_eq_true rfl)⟩ ⟨Nat.zero_le _, Nat.zero_le _⟩ ?_
  refine v_if_eq (tgt := 23) dX9_ofTown_5 (by decide) (fun c => ?_) (fun c => ?_)
  · replace hh := (if_pos c).symm.trans hh
    refine v_bipush dX9_ofTown_23 (by decide : _ = (-2 : Int32)) ?_
    obtain rfl := Option.some.inj hh
    exact v_iret dX9_ofTown_25 rfl (Nat.zero_le _) (Nat.zero_le _) ⟨rfl, rfl⟩
  · replace hh := (if_neg c).symm.trans hh
    refine v_aload_n 0 dX9_ofTown_8 rfl rfl ?_
    refine r_RolledOut_now dX9_ofTown_9 fl_X9_12 ?_
    refine r_World_sheet (by decide) dX9_ofTown_12 fl_X9_122 ?_
    refine r_Sheet_homes (by decide) dX9_ofTown_15 fl_X9_196 ?_
    refine v_iload_n 1 dX9_ofTown_18 rfl rfl ?_
    obtain ⟨g2, hh⟩ := chk_some hh
    replace g2 := inb_in g2
    refine ld_homes (by decide) dX9_ofTown_19 g2 ?_
    refine v_goto (tgt := 25) dX9_ofTown_20 (by decide) ?_
    obtain rfl := Option.some.inj hh
    exact v_iret dX9_ofTown_25 rfl (Nat.zero_le _) (Nat.zero_le _) ⟨rfl, rfl⟩
def f_X9_ofHand  (S : St) (x1 : Int32) : Option (Int32) :=
  bnd (f_X9_isHand S x1) fun q1 =>
 if q1 = (0 : Int32) then
  (some (-1 : Int32))
  else
  (chk (inb x1 4) (
  some (gI S 804 0 x1.toNatClampNeg)))
set_option maxRecDepth 100000 in
set_option maxHeartbeats 4000000 in
theorem t_X9_ofHand {l : Launch} {G : v_G} {S : St}   {x1 : Int32} {r : Int32} (hh : f_X9_ofHand  S x1 = some r) : v_M l G yX9_ofHand cX9_ofHand 2 (some .int) 1 0 0 [.ref (v_B G + 0), .int x1] (lay G S) (QI r (lay G S)) := by
  refine v_entry (by decide) (Nat.le_of_ble_eq_true rfl) ?_
  unfold f_X9_ofHand at hh
  show V l G yX9_ofHand cX9_ofHand 2 (some .int) (v_rm 1 0 0) (QI r (lay G S)) 0 0 0 [(0, .ref (v_B G + 0)), (1, .int x1)] [] (lay G S)
  refine v_aload_n 0 dX9_ofHand_0 rfl rfl ?_
  refine v_iload_n 1 dX9_ofHand_1 rfl rfl ?_
  obtain ⟨q1, eq1, hh⟩ := bnd_some hh
  refine v_callVi (t_X9_isHand eq1) dX9_ofHand_2 y_X9_isHand ml_X9_119 (ci := 8) rfl rfl (e_RolledOut) rfl rfl (Nat.le_of_ble_eq_true rfl) ⟨(Nat.le_of_ble_eq_true rfl), (Nat.le_of_ble_eq_true rfl)⟩ ⟨Nat.zero_le _, Nat.zero_le _⟩ ?_
  refine v_if_eq (tgt := 20) dX9_ofHand_5 (by decide) (fun c => ?_) (fun c => ?_)
  · replace hh := (if_pos c).symm.trans hh
    refine v_iconst dX9_ofHand_20 (by decide : _ = (-1 : Int32)) ?_
    obtain rfl := Option.some.inj hh
    exact v_iret dX9_ofHand_21 rfl (Nat.zero_le _) (Nat.zero_le _) ⟨rfl, rfl⟩
  · replace hh := (if_neg c).symm.trans hh
    refine v_aload_n 0 dX9_ofHand_8 rfl rfl ?_
    refine r_RolledOut_now dX9_ofHand_9 fl_X9_12 ?_
    refine r_World_strengths (by decide) dX9_ofHand_12 fl_X9_64 ?_
    refine v_iload_n 1 dX9_ofHand_15 rfl rfl ?_
    obtain ⟨g2, hh⟩ := chk_some hh
    replace g2 := inb_in g2
    refine ld_strengths (by decide) dX9_ofHand_16 g2 ?_
    refine v_goto (tgt := 21) dX9_ofHand_17 (by decide) ?_
    obtain rfl := Option.some.inj hh
    exact v_iret dX9_ofHand_21 rfl (Nat.zero_le _) (Nat.zero_le _) ⟨rfl, rfl⟩
def f_X9_moves (N : Nat) (S : St) (x1 : Int32) (x2 : Int32) (x3 : Int32) : Option (Int32 × St) :=
  bnd (f_X9_isHand S x1) fun q1 =>
 if q1 = (0 : Int32) then
  (some ((-1 : Int32), S))
  else
  (bnd (f_X9_isCell S x2) fun q2 =>
 if q2 = (0 : Int32) then
  (some ((-1 : Int32), S))
  else
  (bnd (f_X8_movesOf 0 S (gI S 809 0 0)) fun q3 =>
 bnd (f_X2_amount N 0 S q3 x1 x2 x3) fun q4 =>
 some (q4.1, q4.2)))
set_option maxRecDepth 100000 in
set_option maxHeartbeats 4000000 in
theorem t_X9_moves {l : Launch} {G : v_G} {N : Nat} {S : St}   {x1 : Int32} {x2 : Int32} {x3 : Int32} {r : Int32 × St} (hh : f_X9_moves N S x1 x2 x3 = some r) : v_M l G yX9_moves cX9_moves 4 (some .int) 3 0 0 [.ref (v_B G + 0), .int x1, .int x2, .int x3] (lay G S) (QI r.1 (lay G r.2)) := by
  refine v_entry (by decide) (Nat.le_of_ble_eq_true rfl) ?_
  unfold f_X9_moves at hh
  show V l G yX9_moves cX9_moves 4 (some .int) (v_rm 3 0 0) (QI r.1 (lay G r.2)) 0 0 0 [(0, .ref (v_B G + 0)), (1, .int x1), (2, .int x2), (3, .int x3)] [] (lay G S)
  refine v_aload_n 0 dX9_moves_0 rfl rfl ?_
  refine v_iload_n 1 dX9_moves_1 rfl rfl ?_
  obtain ⟨q1, eq1, hh⟩ := bnd_some hh
  refine v_callVi (t_X9_isHand eq1) dX9_moves_2 y_X9_isHand ml_X9_119 (ci := 8) rfl rfl (e_RolledOut) rfl rfl (Nat.le_of_ble_eq_true rfl) ⟨(Nat.le_of_ble_eq_true rfl), (Nat.le_of_ble_eq_true rfl)⟩ ⟨Nat.zero_le _, Nat.zero_le _⟩ ?_
  refine v_if_eq (tgt := 15) dX9_moves_5 (by decide) (fun c => ?_) (fun c => ?_)
  · replace hh := (if_pos c).symm.trans hh
    refine v_iconst dX9_moves_15 (by decide : _ = (-1 : Int32)) ?_
    obtain rfl := Option.some.inj hh
    exact v_iret dX9_moves_16 rfl (Nat.zero_le _) (Nat.zero_le _) ⟨rfl, rfl⟩
  · replace hh := (if_neg c).symm.trans hh
    refine v_iload_n 2 dX9_moves_8 rfl rfl ?_
    obtain ⟨q2, eq2, hh⟩ := bnd_some hh
    refine v_callSi (t_X9_isCell eq2) dX9_moves_9 y_X9_isCell ml_X9_68 rfl rfl (Nat.le_of_ble_eq_true rfl) ⟨(Nat.le_of_ble_eq_true rfl), (Nat.le_of_ble_eq_true rfl)⟩ ⟨Nat.zero_le _, Nat.zero_le _⟩ ?_
    refine v_if_ne (tgt := 17) dX9_moves_12 (by decide) (fun c => ?_) (fun c => ?_)
    · replace hh := (if_neg c).symm.trans hh
      refine v_aload_n 0 dX9_moves_17 rfl rfl ?_
      refine r_RolledOut_rules dX9_moves_18 fl_X9_24 ?_
      refine v_aload_n 0 dX9_moves_21 rfl rfl ?_
      refine r_RolledOut_now dX9_moves_22 fl_X9_12 ?_
      refine v_aload_n 0 dX9_moves_25 rfl rfl ?_
      refine r_RolledOut_now dX9_moves_26 fl_X9_12 ?_
      refine r_World_law (by decide) dX9_moves_29 fl_X9_116 ?_
      obtain ⟨q3, eq3, hh⟩ := bnd_some hh
      refine v_callVr (t_X8_movesOf (by decide) eq3) dX9_moves_32 y_X8_movesOf ml_X9_199 (ci := 7) rfl rfl (e_World (by decide)) rfl rfl (Nat.le_of_ble_eq_true rfl) ⟨(Nat.le_of_ble_eq_true rfl), (Nat.le_of_ble_eq_true rfl)⟩ ⟨Nat.zero_le _, Nat.zero_le _⟩ ?_
      refine v_aload_n 0 dX9_moves_35 rfl rfl ?_
      refine r_RolledOut_now dX9_moves_36 fl_X9_12 ?_
      refine r_World_sheet (by decide) dX9_moves_39 fl_X9_122 ?_
      refine v_iload_n 1 dX9_moves_42 rfl rfl ?_
      refine v_iload_n 2 dX9_moves_43 rfl rfl ?_
      refine v_iload_n 3 dX9_moves_44 rfl rfl ?_
      obtain ⟨q4, eq4, hh⟩ := bnd_some hh
      refine v_callVi (t_X2_amount (by decide) eq4) dX9_moves_45 y_X2_amount ml_X9_203 (ci := 1) rfl rfl (e_Rules) rfl rfl (Nat.le_of_ble_eq_true rfl) ⟨(Nat.le_of_ble_eq_true rfl), (Nat.le_of_ble_eq_true rfl)⟩ ⟨Nat.zero_le _, Nat.zero_le _⟩ ?_
      obtain rfl := Option.some.inj hh
      exact v_iret dX9_moves_48 rfl (Nat.zero_le _) (Nat.zero_le _) ⟨rfl, rfl⟩
    · replace hh := (if_pos c).symm.trans hh
      refine v_iconst dX9_moves_15 (by decide : _ = (-1 : Int32)) ?_
      obtain rfl := Option.some.inj hh
      exact v_iret dX9_moves_16 rfl (Nat.zero_le _) (Nat.zero_le _) ⟨rfl, rfl⟩
def f_X9_is (N : Nat) (S : St) (x1 : Int32) : Option (Int32) :=
  if x1 = (0 : Int32) then
  (some (gI S 407 0 0))
  else if x1 = (1 : Int32) then
  (some (gI S 408 0 0))
  else if x1 = (2 : Int32) then
  (some (gI S 406 0 0))
  else if x1 = (3 : Int32) then
  (some (gI S 405 0 0))
  else if x1 = (4 : Int32) then
  (some (gI S 404 0 0))
  else if x1 = (5 : Int32) then
  (bnd (f_X3_sum N 0 S (0 : Int32) (12 : Int32)) fun q1 =>
 some q1)
  else (some (-2 : Int32))
set_option maxRecDepth 100000 in
set_option maxHeartbeats 4000000 in
theorem t_X9_is {l : Launch} {G : v_G} {N : Nat} {S : St}   {x1 : Int32} {r : Int32} (hh : f_X9_is N S x1 = some r) : v_M l G yX9_is cX9_is 2 (some .int) 2 0 0 [.ref (v_B G + 0), .int x1] (lay G S) (QI r (lay G S)) := by
  refine v_entry (by decide) (Nat.le_of_ble_eq_true rfl) ?_
  unfold f_X9_is at hh
  show V l G yX9_is cX9_is 2 (some .int) (v_rm 2 0 0) (QI r (lay G S)) 0 0 0 [(0, .ref (v_B G + 0)), (1, .int x1)] [] (lay G S)
  refine v_iload_n 1 dX9_is_0 rfl rfl ?_
  refine sw_if hh (fun c0 hh => ?_) (fun c0 hh => ?_)
  · skip
    refine v_tableIn (tgt := 40) dX9_is_1 (by rw [c0]; decide) (by rw [c0]; decide) (by rw [c0] <;> rfl) (by decide) ?_
    refine v_aload_n 0 dX9_is_40 rfl rfl ?_
    refine r_RolledOut_now dX9_is_41 fl_X9_12 ?_
    refine r_World_sheet (by decide) dX9_is_44 fl_X9_122 ?_
    refine r_Sheet_turn (by decide) dX9_is_47 fl_X9_151 ?_
    obtain rfl := Option.some.inj hh
    exact v_iret dX9_is_50 rfl (Nat.zero_le _) (Nat.zero_le _) ⟨rfl, rfl⟩
  · skip
    refine sw_if hh (fun c1 hh => ?_) (fun c1 hh => ?_)
    · skip
      refine v_tableIn (tgt := 51) dX9_is_1 (by rw [c1]; decide) (by rw [c1]; decide) (by rw [c1] <;> rfl) (by decide) ?_
      refine v_aload_n 0 dX9_is_51 rfl rfl ?_
      refine r_RolledOut_now dX9_is_52 fl_X9_12 ?_
      refine r_World_sheet (by decide) dX9_is_55 fl_X9_122 ?_
      refine r_Sheet_draw (by decide) dX9_is_58 fl_X9_175 ?_
      obtain rfl := Option.some.inj hh
      exact v_iret dX9_is_61 rfl (Nat.zero_le _) (Nat.zero_le _) ⟨rfl, rfl⟩
    · skip
      refine sw_if hh (fun c2 hh => ?_) (fun c2 hh => ?_)
      · skip
        refine v_tableIn (tgt := 62) dX9_is_1 (by rw [c2]; decide) (by rw [c2]; decide) (by rw [c2] <;> rfl) (by decide) ?_
        refine v_aload_n 0 dX9_is_62 rfl rfl ?_
        refine r_RolledOut_now dX9_is_63 fl_X9_12 ?_
        refine r_World_sheet (by decide) dX9_is_66 fl_X9_122 ?_
        refine r_Sheet_ball (by decide) dX9_is_69 fl_X9_207 ?_
        obtain rfl := Option.some.inj hh
        exact v_iret dX9_is_72 rfl (Nat.zero_le _) (Nat.zero_le _) ⟨rfl, rfl⟩
      · skip
        refine sw_if hh (fun c3 hh => ?_) (fun c3 hh => ?_)
        · skip
          refine v_tableIn (tgt := 73) dX9_is_1 (by rw [c3]; decide) (by rw [c3]; decide) (by rw [c3] <;> rfl) (by decide) ?_
          refine v_aload_n 0 dX9_is_73 rfl rfl ?_
          refine r_RolledOut_now dX9_is_74 fl_X9_12 ?_
          refine r_World_sheet (by decide) dX9_is_77 fl_X9_122 ?_
          refine r_Sheet_edge (by decide) dX9_is_80 fl_X9_138 ?_
          obtain rfl := Option.some.inj hh
          exact v_iret dX9_is_83 rfl (Nat.zero_le _) (Nat.zero_le _) ⟨rfl, rfl⟩
        · skip
          refine sw_if hh (fun c4 hh => ?_) (fun c4 hh => ?_)
          · skip
            refine v_tableIn (tgt := 84) dX9_is_1 (by rw [c4]; decide) (by rw [c4]; decide) (by rw [c4] <;> rfl) (by decide) ?_
            refine v_aload_n 0 dX9_is_84 rfl rfl ?_
            refine r_RolledOut_now dX9_is_85 fl_X9_12 ?_
            refine r_World_sheet (by decide) dX9_is_88 fl_X9_122 ?_
            refine r_Sheet_torn (by decide) dX9_is_91 fl_X9_154 ?_
            obtain rfl := Option.some.inj hh
            exact v_iret dX9_is_94 rfl (Nat.zero_le _) (Nat.zero_le _) ⟨rfl, rfl⟩
          · skip
            refine sw_if hh (fun c5 hh => ?_) (fun c5 hh => ?_)
            · skip
              refine v_tableIn (tgt := 95) dX9_is_1 (by rw [c5]; decide) (by rw [c5]; decide) (by rw [c5] <;> rfl) (by decide) ?_
              refine v_aload_n 0 dX9_is_95 rfl rfl ?_
              refine r_RolledOut_now dX9_is_96 fl_X9_12 ?_
              refine r_World_sheet (by decide) dX9_is_99 fl_X9_122 ?_
              refine r_Sheet_cells (by decide) dX9_is_102 fl_X9_126 ?_
              refine v_iconst dX9_is_105 (by decide : _ = (0 : Int32)) ?_
              refine v_bipush dX9_is_106 (by decide : _ = (12 : Int32)) ?_
              obtain ⟨q1, eq1, hh⟩ := bnd_some hh
              refine v_callSi (t_X3_sum (by decide) eq1) dX9_is_108 y_X3_sum ml_X9_210 rfl rfl (Nat.le_of_ble_eq_true rfl) ⟨(Nat.le_of_ble_eq_true rfl), (Nat.le_of_ble_eq_true rfl)⟩ ⟨Nat.zero_le _, Nat.zero_le _⟩ ?_
              obtain rfl := Option.some.inj hh
              exact v_iret dX9_is_111 rfl (Nat.zero_le _) (Nat.zero_le _) ⟨rfl, rfl⟩
            · skip
              refine v_tableOut (tgt := 112) dX9_is_1 (sw_out 6 (by decide) (fun k hk => match k, hk with | 0, _ => fun h => c0 (h.trans (by decide)) | 1, _ => fun h => c1 (h.trans (by decide)) | 2, _ => fun h => c2 (h.trans (by decide)) | 3, _ => fun h => c3 (h.trans (by decide)) | 4, _ => fun h => c4 (h.trans (by decide)) | 5, _ => fun h => c5 (h.trans (by decide)) | k + 6, hk => absurd hk (by omega))) (by decide) ?_
              refine v_bipush dX9_is_112 (by decide : _ = (-2 : Int32)) ?_
              obtain rfl := Option.some.inj hh
              exact v_iret dX9_is_114 rfl (Nat.zero_le _) (Nat.zero_le _) ⟨rfl, rfl⟩
def f_X9_book  (S : St) (x1 : Int32) (x2 : Int32) : Option (Int32) :=
  bnd (f_X4_bookSize 0 S ) fun q1 =>
 if x1 = (-1 : Int32) then
  (some q1)
  else
  (if x1 < (0 : Int32) then
  (some (-2 : Int32))
  else
  (if q1 ≤ x1 then
  (some (-2 : Int32))
  else
  (if x2 < (0 : Int32) then
  (some (-2 : Int32))
  else
  (if x2 ≤ (3 : Int32) then
  (bnd (f_X4_bookPart 0 S x1 x2) fun q2 =>
 some q2)
  else
  (some (-2 : Int32))))))
set_option maxRecDepth 100000 in
set_option maxHeartbeats 4000000 in
theorem t_X9_book {l : Launch} {G : v_G} {S : St}   {x1 : Int32} {x2 : Int32} {r : Int32} (hh : f_X9_book  S x1 x2 = some r) : v_M l G yX9_book cX9_book 4 (some .int) 3 0 0 [.ref (v_B G + 0), .int x1, .int x2] (lay G S) (QI r (lay G S)) := by
  refine v_entry (by decide) (Nat.le_of_ble_eq_true rfl) ?_
  unfold f_X9_book at hh
  show V l G yX9_book cX9_book 4 (some .int) (v_rm 3 0 0) (QI r (lay G S)) 0 0 0 [(0, .ref (v_B G + 0)), (1, .int x1), (2, .int x2)] [] (lay G S)
  refine v_aload_n 0 dX9_book_0 rfl rfl ?_
  refine r_RolledOut_now dX9_book_1 fl_X9_12 ?_
  refine r_World_sheet (by decide) dX9_book_4 fl_X9_122 ?_
  obtain ⟨q1, eq1, hh⟩ := bnd_some hh
  refine v_callVi (t_X4_bookSize (by decide) eq1) dX9_book_7 y_X4_bookSize ml_X9_214 (ci := 3) rfl rfl (e_Sheet (by decide)) rfl rfl (Nat.le_of_ble_eq_true rfl) ⟨(Nat.le_of_ble_eq_true rfl), (Nat.le_of_ble_eq_true rfl)⟩ ⟨Nat.zero_le _, Nat.zero_le _⟩ ?_
  refine v_istore_n dX9_book_10 rfl (by decide) rfl ?_
  refine v_iload_n 2 dX9_book_11 rfl rfl ?_
  refine v_iconst dX9_book_12 (by decide : _ = (-1 : Int32)) ?_
  refine v_icmp_ne (tgt := 18) dX9_book_13 (by decide) (fun c => ?_) (fun c => ?_)
  · replace hh := (if_neg c).symm.trans hh
    refine v_iload_n 2 dX9_book_18 rfl rfl ?_
    refine v_if_lt (tgt := 36) dX9_book_19 (by decide) (fun c => ?_) (fun c => ?_)
    · replace hh := (if_pos c).symm.trans hh
      refine v_bipush dX9_book_36 (by decide : _ = (-2 : Int32)) ?_
      obtain rfl := Option.some.inj hh
      exact v_iret dX9_book_38 rfl (Nat.zero_le _) (Nat.zero_le _) ⟨rfl, rfl⟩
    · replace hh := (if_neg c).symm.trans hh
      refine v_iload_n 2 dX9_book_22 rfl rfl ?_
      refine v_iload_n 0 dX9_book_23 rfl rfl ?_
      refine v_icmp_ge (tgt := 36) dX9_book_24 (by decide) (fun c => ?_) (fun c => ?_)
      · replace hh := (if_pos c).symm.trans hh
        refine v_bipush dX9_book_36 (by decide : _ = (-2 : Int32)) ?_
        obtain rfl := Option.some.inj hh
        exact v_iret dX9_book_38 rfl (Nat.zero_le _) (Nat.zero_le _) ⟨rfl, rfl⟩
      · replace hh := (if_neg c).symm.trans hh
        refine v_iload_n 3 dX9_book_27 rfl rfl ?_
        refine v_if_lt (tgt := 36) dX9_book_28 (by decide) (fun c => ?_) (fun c => ?_)
        · replace hh := (if_pos c).symm.trans hh
          refine v_bipush dX9_book_36 (by decide : _ = (-2 : Int32)) ?_
          obtain rfl := Option.some.inj hh
          exact v_iret dX9_book_38 rfl (Nat.zero_le _) (Nat.zero_le _) ⟨rfl, rfl⟩
        · replace hh := (if_neg c).symm.trans hh
          refine v_iload_n 3 dX9_book_31 rfl rfl ?_
          refine v_iconst dX9_book_32 (by decide : _ = (3 : Int32)) ?_
          refine v_icmp_le (tgt := 39) dX9_book_33 (by decide) (fun c => ?_) (fun c => ?_)
          · replace hh := (if_pos c).symm.trans hh
            refine v_aload_n 1 dX9_book_39 rfl rfl ?_
            refine r_RolledOut_now dX9_book_40 fl_X9_12 ?_
            refine r_World_sheet (by decide) dX9_book_43 fl_X9_122 ?_
            refine v_iload_n 2 dX9_book_46 rfl rfl ?_
            refine v_iload_n 3 dX9_book_47 rfl rfl ?_
            obtain ⟨q2, eq2, hh⟩ := bnd_some hh
            refine v_callVi (t_X4_bookPart (by decide) eq2) dX9_book_48 y_X4_bookPart ml_X9_217 (ci := 3) rfl rfl (e_Sheet (by decide)) rfl rfl (Nat.le_of_ble_eq_true rfl) ⟨(Nat.le_of_ble_eq_true rfl), (Nat.le_of_ble_eq_true rfl)⟩ ⟨Nat.zero_le _, Nat.zero_le _⟩ ?_
            obtain rfl := Option.some.inj hh
            exact v_iret dX9_book_51 rfl (Nat.zero_le _) (Nat.zero_le _) ⟨rfl, rfl⟩
          · replace hh := (if_neg c).symm.trans hh
            refine v_bipush dX9_book_36 (by decide : _ = (-2 : Int32)) ?_
            obtain rfl := Option.some.inj hh
            exact v_iret dX9_book_38 rfl (Nat.zero_le _) (Nat.zero_le _) ⟨rfl, rfl⟩
  · replace hh := (if_pos c).symm.trans hh
    refine v_iload_n 0 dX9_book_16 rfl rfl ?_
    obtain rfl := Option.some.inj hh
    exact v_iret dX9_book_17 rfl (Nat.zero_le _) (Nat.zero_le _) ⟨rfl, rfl⟩
def f_X9_foretold_b34 (N : Nat) (x1 : Int32) (x2 : Int32) (x3 : Int32) (s0 : Int32) (S : St) : Option (Int32 × St) :=
  if x1 < (1 : Int32) then
  (some ((-2 : Int32), S))
  else
  (if (60 : Int32) < x1 then
  (some ((-2 : Int32), S))
  else
  (if s0 = (0 : Int32) then
  (some ((-2 : Int32), S))
  else
  (bnd (f_X7_behind N S x1) fun q1 =>
 if x2 = (0 : Int32) then
  (chk (inb x3 12) (
  some (gI q1 400 62 x3.toNatClampNeg, q1)))
  else
  (if x2 = (1 : Int32) then
  (chk (inb x3 6) (
  some (gI q1 401 62 x3.toNatClampNeg, q1)))
  else
  (some (gI q1 404 62 0, q1))))))
set_option maxRecDepth 100000 in
set_option maxHeartbeats 4000000 in
theorem tb_X9_foretold_34 {l : Launch} {G : v_G} {N : Nat}    {r : Int32 × St}   : ∀ (x1 : Int32) (x2 : Int32) (x3 : Int32) (s0 : Int32) (S : St),  f_X9_foretold_b34 N x1 x2 x3 s0 S = some r → V l G yX9_foretold cX9_foretold 6 (some .int) (v_rm 6 0 0) (QI r.1 (lay G r.2)) 0 0 34 [(0, .ref (v_B G + 0)), (1, .int x1), (2, .int x2), (3, .int x3)] [.int s0] (lay G S) := by
  intro x1 x2 x3 s0 S  hh
  unfold f_X9_foretold_b34 at hh
  refine v_istore dX9_foretold_34 (by decide) rfl ?_
  refine v_iload_n 2 dX9_foretold_36 rfl rfl ?_
  refine v_iconst dX9_foretold_37 (by decide : _ = (1 : Int32)) ?_
  refine v_icmp_lt (tgt := 52) dX9_foretold_38 (by decide) (fun c => ?_) (fun c => ?_)
  · replace hh := (if_pos c).symm.trans hh
    refine v_bipush dX9_foretold_52 (by decide : _ = (-2 : Int32)) ?_
    obtain rfl := Option.some.inj hh
    exact v_iret dX9_foretold_54 rfl (Nat.zero_le _) (Nat.zero_le _) ⟨rfl, rfl⟩
  · replace hh := (if_neg c).symm.trans hh
    refine v_iload_n 2 dX9_foretold_41 rfl rfl ?_
    refine v_bipush dX9_foretold_42 (by decide : _ = (60 : Int32)) ?_
    refine v_icmp_gt (tgt := 52) dX9_foretold_44 (by decide) (fun c => ?_) (fun c => ?_)
    · replace hh := (if_pos c).symm.trans hh
      refine v_bipush dX9_foretold_52 (by decide : _ = (-2 : Int32)) ?_
      obtain rfl := Option.some.inj hh
      exact v_iret dX9_foretold_54 rfl (Nat.zero_le _) (Nat.zero_le _) ⟨rfl, rfl⟩
    · replace hh := (if_neg c).symm.trans hh
      refine v_iload 0 dX9_foretold_47 rfl ?_
      refine v_if_ne (tgt := 55) dX9_foretold_49 (by decide) (fun c => ?_) (fun c => ?_)
      · replace hh := (if_neg c).symm.trans hh
        refine v_aload_n 1 dX9_foretold_55 rfl rfl ?_
        refine r_RolledOut_trials dX9_foretold_56 fl_X9_33 ?_
        refine v_iload_n 2 dX9_foretold_59 rfl rfl ?_
        obtain ⟨q1, eq1, hh⟩ := bnd_some hh
        refine v_callVr (t_X7_behind eq1) dX9_foretold_60 y_X7_behind ml_X9_221 (ci := 6) rfl rfl (e_Trials) rfl rfl (Nat.le_of_ble_eq_true rfl) ⟨(Nat.le_of_ble_eq_true rfl), (Nat.le_of_ble_eq_true rfl)⟩ ⟨Nat.zero_le _, Nat.zero_le _⟩ ?_
        refine v_astore dX9_foretold_63 (by decide) rfl ?_
        refine v_iload_n 4 dX9_foretold_65 rfl rfl ?_
        refine v_if_ne (tgt := 79) dX9_foretold_66 (by decide) (fun c => ?_) (fun c => ?_)
        · replace hh := (if_neg c).symm.trans hh
          refine v_iload_n 4 dX9_foretold_79 rfl rfl ?_
          refine v_iconst dX9_foretold_80 (by decide : _ = (1 : Int32)) ?_
          refine v_icmp_ne (tgt := 94) dX9_foretold_81 (by decide) (fun c => ?_) (fun c => ?_)
          · replace hh := (if_neg c).symm.trans hh
            refine v_aload 0 dX9_foretold_94 rfl ?_
            refine r_Sheet_torn (by decide) dX9_foretold_96 fl_X9_154 ?_
            obtain rfl := Option.some.inj hh
            exact v_iret dX9_foretold_99 rfl (Nat.zero_le _) (Nat.zero_le _) ⟨rfl, rfl⟩
          · replace hh := (if_pos c).symm.trans hh
            refine v_aload 0 dX9_foretold_84 rfl ?_
            refine r_Sheet_homes (by decide) dX9_foretold_86 fl_X9_196 ?_
            refine v_iload_n 5 dX9_foretold_89 rfl rfl ?_
            obtain ⟨g2, hh⟩ := chk_some hh
            replace g2 := inb_in g2
            refine ld_homes (by decide) dX9_foretold_90 g2 ?_
            refine v_goto (tgt := 99) dX9_foretold_91 (by decide) ?_
            obtain rfl := Option.some.inj hh
            exact v_iret dX9_foretold_99 rfl (Nat.zero_le _) (Nat.zero_le _) ⟨rfl, rfl⟩
        · replace hh := (if_pos c).symm.trans hh
          refine v_aload 0 dX9_foretold_69 rfl ?_
          refine r_Sheet_cells (by decide) dX9_foretold_71 fl_X9_126 ?_
          refine v_iload_n 5 dX9_foretold_74 rfl rfl ?_
          obtain ⟨g3, hh⟩ := chk_some hh
          replace g3 := inb_in g3
          refine ld_cells (by decide) dX9_foretold_75 g3 ?_
          refine v_goto (tgt := 99) dX9_foretold_76 (by decide) ?_
          obtain rfl := Option.some.inj hh
          exact v_iret dX9_foretold_99 rfl (Nat.zero_le _) (Nat.zero_le _) ⟨rfl, rfl⟩
      · replace hh := (if_pos c).symm.trans hh
        refine v_bipush dX9_foretold_52 (by decide : _ = (-2 : Int32)) ?_
        obtain rfl := Option.some.inj hh
        exact v_iret dX9_foretold_54 rfl (Nat.zero_le _) (Nat.zero_le _) ⟨rfl, rfl⟩
def f_X9_foretold (N : Nat) (S : St) (x1 : Int32) (x2 : Int32) (x3 : Int32) : Option (Int32 × St) :=
  if x2 = (0 : Int32) then
  (bnd (f_X9_isCell S x3) fun q5 =>
 f_X9_foretold_b34 N x1 x2 x3 q5 S)
  else
  (if x2 = (1 : Int32) then
  (bnd (f_X9_isTown S x3) fun q4 =>
 f_X9_foretold_b34 N x1 x2 x3 q4 S)
  else
  (if x2 = (2 : Int32) then
  (f_X9_foretold_b34 N x1 x2 x3 (1 : Int32) S)
  else
  (f_X9_foretold_b34 N x1 x2 x3 (0 : Int32) S)))
set_option maxRecDepth 100000 in
set_option maxHeartbeats 4000000 in
theorem t_X9_foretold {l : Launch} {G : v_G} {N : Nat} {S : St}   {x1 : Int32} {x2 : Int32} {x3 : Int32} {r : Int32 × St} (hh : f_X9_foretold N S x1 x2 x3 = some r) : v_M l G yX9_foretold cX9_foretold 6 (some .int) 6 0 0 [.ref (v_B G + 0), .int x1, .int x2, .int x3] (lay G S) (QI r.1 (lay G r.2)) := by
  refine v_entry (by decide) (Nat.le_of_ble_eq_true rfl) ?_
  unfold f_X9_foretold at hh
  show V l G yX9_foretold cX9_foretold 6 (some .int) (v_rm 6 0 0) (QI r.1 (lay G r.2)) 0 0 0 [(0, .ref (v_B G + 0)), (1, .int x1), (2, .int x2), (3, .int x3)] [] (lay G S)
  refine v_iload_n 2 dX9_foretold_0 rfl rfl ?_
  refine v_if_ne (tgt := 11) dX9_foretold_1 (by decide) (fun c => ?_) (fun c => ?_)
  · replace hh := (if_neg c).symm.trans hh
    refine v_iload_n 2 dX9_foretold_11 rfl rfl ?_
    refine v_iconst dX9_foretold_12 (by decide : _ = (1 : Int32)) ?_
    refine v_icmp_ne (tgt := 24) dX9_foretold_13 (by decide) (fun c => ?_) (fun c => ?_)
    · replace hh := (if_neg c).symm.trans hh
      refine v_iload_n 2 dX9_foretold_24 rfl rfl ?_
      refine v_iconst dX9_foretold_25 (by decide : _ = (2 : Int32)) ?_
      refine v_icmp_ne (tgt := 33) dX9_foretold_26 (by decide) (fun c => ?_) (fun c => ?_)
      · replace hh := (if_neg c).symm.trans hh
        refine v_iconst dX9_foretold_33 (by decide : _ = (0 : Int32)) ?_
        exact v_sub [0, 1, 2, 3] rfl (tb_X9_foretold_34 _ _ _ _ _ hh)
      · replace hh := (if_pos c).symm.trans hh
        refine v_iconst dX9_foretold_29 (by decide : _ = (1 : Int32)) ?_
        refine v_goto (tgt := 34) dX9_foretold_30 (by decide) ?_
        exact v_sub [0, 1, 2, 3] rfl (tb_X9_foretold_34 _ _ _ _ _ hh)
    · replace hh := (if_pos c).symm.trans hh
      refine v_aload_n 0 dX9_foretold_16 rfl rfl ?_
      refine v_iload_n 3 dX9_foretold_17 rfl rfl ?_
      obtain ⟨q4, eq4, hh⟩ := bnd_some hh
      refine v_callVi (t_X9_isTown eq4) dX9_foretold_18 y_X9_isTown ml_X9_193 (ci := 8) rfl rfl (e_RolledOut) rfl rfl (Nat.le_of_ble_eq_true rfl) ⟨(Nat.le_of_ble_eq_true rfl), (Nat.le_of_ble_eq_true rfl)⟩ ⟨Nat.zero_le _, Nat.zero_le _⟩ ?_
      refine v_goto (tgt := 34) dX9_foretold_21 (by decide) ?_
      exact v_sub [0, 1, 2, 3] rfl (tb_X9_foretold_34 _ _ _ _ _ hh)
  · replace hh := (if_pos c).symm.trans hh
    refine v_iload_n 3 dX9_foretold_4 rfl rfl ?_
    obtain ⟨q5, eq5, hh⟩ := bnd_some hh
    refine v_callSi (t_X9_isCell eq5) dX9_foretold_5 y_X9_isCell ml_X9_68 rfl rfl (Nat.le_of_ble_eq_true rfl) ⟨(Nat.le_of_ble_eq_true rfl), (Nat.le_of_ble_eq_true rfl)⟩ ⟨Nat.zero_le _, Nat.zero_le _⟩ ?_
    refine v_goto (tgt := 34) dX9_foretold_8 (by decide) ?_
    exact v_sub [0, 1, 2, 3] rfl (tb_X9_foretold_34 _ _ _ _ _ hh)
def f_X9_lake (N : Nat) (S : St)  : Option (Int32) :=
  bnd (f_X3_water N 0 S ) fun q1 =>
 some q1
set_option maxRecDepth 100000 in
set_option maxHeartbeats 4000000 in
theorem t_X9_lake {l : Launch} {G : v_G} {N : Nat} {S : St}    {r : Int32} (hh : f_X9_lake N S  = some r) : v_M l G yX9_lake cX9_lake 1 (some .int) 2 0 0 [.ref (v_B G + 0)] (lay G S) (QI r (lay G S)) := by
  refine v_entry (by decide) (Nat.le_of_ble_eq_true rfl) ?_
  unfold f_X9_lake at hh
  show V l G yX9_lake cX9_lake 1 (some .int) (v_rm 2 0 0) (QI r (lay G S)) 0 0 0 [(0, .ref (v_B G + 0))] [] (lay G S)
  refine v_aload_n 0 dX9_lake_0 rfl rfl ?_
  refine r_RolledOut_now dX9_lake_1 fl_X9_12 ?_
  refine r_World_sheet (by decide) dX9_lake_4 fl_X9_122 ?_
  refine r_Sheet_cells (by decide) dX9_lake_7 fl_X9_126 ?_
  obtain ⟨q1, eq1, hh⟩ := bnd_some hh
  refine v_callSi (t_X3_water (by decide) eq1) dX9_lake_10 y_X3_water ml_X9_225 rfl rfl (Nat.le_of_ble_eq_true rfl) ⟨(Nat.le_of_ble_eq_true rfl), (Nat.le_of_ble_eq_true rfl)⟩ ⟨Nat.zero_le _, Nat.zero_le _⟩ ?_
  obtain rfl := Option.some.inj hh
  exact v_iret dX9_lake_13 rfl (Nat.zero_le _) (Nat.zero_le _) ⟨rfl, rfl⟩
def f_X9_glaze (N : Nat) (S : St) (x1 : Int32) : Option (Int32) :=
  if x1 < (0 : Int32) then
  (some (-1 : Int32))
  else
  (if x1 ≤ (2 : Int32) then
  (bnd (f_X3_glazed N 0 S x1) fun q1 =>
 some q1)
  else
  (some (-1 : Int32)))
set_option maxRecDepth 100000 in
set_option maxHeartbeats 4000000 in
theorem t_X9_glaze {l : Launch} {G : v_G} {N : Nat} {S : St}   {x1 : Int32} {r : Int32} (hh : f_X9_glaze N S x1 = some r) : v_M l G yX9_glaze cX9_glaze 2 (some .int) 2 0 0 [.ref (v_B G + 0), .int x1] (lay G S) (QI r (lay G S)) := by
  refine v_entry (by decide) (Nat.le_of_ble_eq_true rfl) ?_
  unfold f_X9_glaze at hh
  show V l G yX9_glaze cX9_glaze 2 (some .int) (v_rm 2 0 0) (QI r (lay G S)) 0 0 0 [(0, .ref (v_B G + 0)), (1, .int x1)] [] (lay G S)
  refine v_iload_n 1 dX9_glaze_0 rfl rfl ?_
  refine v_if_lt (tgt := 9) dX9_glaze_1 (by decide) (fun c => ?_) (fun c => ?_)
  · replace hh := (if_pos c).symm.trans hh
    refine v_iconst dX9_glaze_9 (by decide : _ = (-1 : Int32)) ?_
    refine v_goto (tgt := 27) dX9_glaze_10 (by decide) ?_
    obtain rfl := Option.some.inj hh
    exact v_iret dX9_glaze_27 rfl (Nat.zero_le _) (Nat.zero_le _) ⟨rfl, rfl⟩
  · replace hh := (if_neg c).symm.trans hh
    refine v_iload_n 1 dX9_glaze_4 rfl rfl ?_
    refine v_iconst dX9_glaze_5 (by decide : _ = (2 : Int32)) ?_
    refine v_icmp_le (tgt := 13) dX9_glaze_6 (by decide) (fun c => ?_) (fun c => ?_)
    · replace hh := (if_pos c).symm.trans hh
      refine v_aload_n 0 dX9_glaze_13 rfl rfl ?_
      refine r_RolledOut_now dX9_glaze_14 fl_X9_12 ?_
      refine r_World_sheet (by decide) dX9_glaze_17 fl_X9_122 ?_
      refine r_Sheet_cells (by decide) dX9_glaze_20 fl_X9_126 ?_
      refine v_iload_n 1 dX9_glaze_23 rfl rfl ?_
      obtain ⟨q1, eq1, hh⟩ := bnd_some hh
      refine v_callSi (t_X3_glazed (by decide) eq1) dX9_glaze_24 y_X3_glazed ml_X9_229 rfl rfl (Nat.le_of_ble_eq_true rfl) ⟨(Nat.le_of_ble_eq_true rfl), (Nat.le_of_ble_eq_true rfl)⟩ ⟨Nat.zero_le _, Nat.zero_le _⟩ ?_
      obtain rfl := Option.some.inj hh
      exact v_iret dX9_glaze_27 rfl (Nat.zero_le _) (Nat.zero_le _) ⟨rfl, rfl⟩
    · replace hh := (if_neg c).symm.trans hh
      refine v_iconst dX9_glaze_9 (by decide : _ = (-1 : Int32)) ?_
      refine v_goto (tgt := 27) dX9_glaze_10 (by decide) ?_
      obtain rfl := Option.some.inj hh
      exact v_iret dX9_glaze_27 rfl (Nat.zero_le _) (Nat.zero_le _) ⟨rfl, rfl⟩
def f_X9_rise (N : Nat) (S : St) (x1 : Int32) : Option (Int32 × St) :=
  bnd (f_X3_climb N 0 S x1) fun q1 =>
 some (q1.1, q1.2)
set_option maxRecDepth 100000 in
set_option maxHeartbeats 4000000 in
theorem t_X9_rise {l : Launch} {G : v_G} {N : Nat} {S : St}   {x1 : Int32} {r : Int32 × St} (hh : f_X9_rise N S x1 = some r) : v_M l G yX9_rise cX9_rise 2 (some .int) 2 0 0 [.ref (v_B G + 0), .int x1] (lay G S) (QI r.1 (lay G r.2)) := by
  refine v_entry (by decide) (Nat.le_of_ble_eq_true rfl) ?_
  unfold f_X9_rise at hh
  show V l G yX9_rise cX9_rise 2 (some .int) (v_rm 2 0 0) (QI r.1 (lay G r.2)) 0 0 0 [(0, .ref (v_B G + 0)), (1, .int x1)] [] (lay G S)
  refine v_aload_n 0 dX9_rise_0 rfl rfl ?_
  refine r_RolledOut_shape dX9_rise_1 fl_X9_40 ?_
  refine v_aload_n 0 dX9_rise_4 rfl rfl ?_
  refine r_RolledOut_now dX9_rise_5 fl_X9_12 ?_
  refine r_World_sheet (by decide) dX9_rise_8 fl_X9_122 ?_
  refine r_Sheet_cells (by decide) dX9_rise_11 fl_X9_126 ?_
  refine v_iload_n 1 dX9_rise_14 rfl rfl ?_
  obtain ⟨q1, eq1, hh⟩ := bnd_some hh
  refine v_callVi (t_X3_climb (by decide) eq1) dX9_rise_15 y_X3_climb ml_X9_233 (ci := 2) rfl rfl (e_Shape) rfl rfl (Nat.le_of_ble_eq_true rfl) ⟨(Nat.le_of_ble_eq_true rfl), (Nat.le_of_ble_eq_true rfl)⟩ ⟨Nat.zero_le _, Nat.zero_le _⟩ ?_
  obtain rfl := Option.some.inj hh
  exact v_iret dX9_rise_18 rfl (Nat.zero_le _) (Nat.zero_le _) ⟨rfl, rfl⟩
def f_X9_folds (N : Nat) (S : St)  : Option (Int32) :=
  bnd (f_X3_falls N 0 S ) fun q1 =>
 some q1
set_option maxRecDepth 100000 in
set_option maxHeartbeats 4000000 in
theorem t_X9_folds {l : Launch} {G : v_G} {N : Nat} {S : St}    {r : Int32} (hh : f_X9_folds N S  = some r) : v_M l G yX9_folds cX9_folds 1 (some .int) 1 0 0 [.ref (v_B G + 0)] (lay G S) (QI r (lay G S)) := by
  refine v_entry (by decide) (Nat.le_of_ble_eq_true rfl) ?_
  unfold f_X9_folds at hh
  show V l G yX9_folds cX9_folds 1 (some .int) (v_rm 1 0 0) (QI r (lay G S)) 0 0 0 [(0, .ref (v_B G + 0))] [] (lay G S)
  refine v_aload_n 0 dX9_folds_0 rfl rfl ?_
  refine r_RolledOut_now dX9_folds_1 fl_X9_12 ?_
  refine r_World_sheet (by decide) dX9_folds_4 fl_X9_122 ?_
  refine r_Sheet_cells (by decide) dX9_folds_7 fl_X9_126 ?_
  obtain ⟨q1, eq1, hh⟩ := bnd_some hh
  refine v_callSi (t_X3_falls (by decide) eq1) dX9_folds_10 y_X3_falls ml_X9_236 rfl rfl (Nat.le_of_ble_eq_true rfl) ⟨(Nat.le_of_ble_eq_true rfl), (Nat.le_of_ble_eq_true rfl)⟩ ⟨Nat.zero_le _, Nat.zero_le _⟩ ?_
  obtain rfl := Option.some.inj hh
  exact v_iret dX9_folds_13 rfl (Nat.zero_le _) (Nat.zero_le _) ⟨rfl, rfl⟩
def f_X9_peaks (N : Nat) (S : St)  : Option (Int32) :=
  bnd (f_X3_tops N 0 S ) fun q1 =>
 some q1
set_option maxRecDepth 100000 in
set_option maxHeartbeats 4000000 in
theorem t_X9_peaks {l : Launch} {G : v_G} {N : Nat} {S : St}    {r : Int32} (hh : f_X9_peaks N S  = some r) : v_M l G yX9_peaks cX9_peaks 1 (some .int) 1 0 0 [.ref (v_B G + 0)] (lay G S) (QI r (lay G S)) := by
  refine v_entry (by decide) (Nat.le_of_ble_eq_true rfl) ?_
  unfold f_X9_peaks at hh
  show V l G yX9_peaks cX9_peaks 1 (some .int) (v_rm 1 0 0) (QI r (lay G S)) 0 0 0 [(0, .ref (v_B G + 0))] [] (lay G S)
  refine v_aload_n 0 dX9_peaks_0 rfl rfl ?_
  refine r_RolledOut_now dX9_peaks_1 fl_X9_12 ?_
  refine r_World_sheet (by decide) dX9_peaks_4 fl_X9_122 ?_
  refine r_Sheet_cells (by decide) dX9_peaks_7 fl_X9_126 ?_
  obtain ⟨q1, eq1, hh⟩ := bnd_some hh
  refine v_callSi (t_X3_tops (by decide) eq1) dX9_peaks_10 y_X3_tops ml_X9_239 rfl rfl (Nat.le_of_ble_eq_true rfl) ⟨(Nat.le_of_ble_eq_true rfl), (Nat.le_of_ble_eq_true rfl)⟩ ⟨Nat.zero_le _, Nat.zero_le _⟩ ?_
  obtain rfl := Option.some.inj hh
  exact v_iret dX9_peaks_13 rfl (Nat.zero_le _) (Nat.zero_le _) ⟨rfl, rfl⟩
def f_X9_richest (N : Nat) (S : St) (x1 : Int32) : Option (Int32) :=
  if x1 < (1 : Int32) then
  (some (-1 : Int32))
  else
  (if x1 ≤ (12 : Int32) then
  (bnd (f_X3_fullest N 0 S x1) fun q1 =>
 some q1)
  else
  (some (-1 : Int32)))
set_option maxRecDepth 100000 in
set_option maxHeartbeats 4000000 in
theorem t_X9_richest {l : Launch} {G : v_G} {N : Nat} {S : St}   {x1 : Int32} {r : Int32} (hh : f_X9_richest N S x1 = some r) : v_M l G yX9_richest cX9_richest 2 (some .int) 3 0 0 [.ref (v_B G + 0), .int x1] (lay G S) (QI r (lay G S)) := by
  refine v_entry (by decide) (Nat.le_of_ble_eq_true rfl) ?_
  unfold f_X9_richest at hh
  show V l G yX9_richest cX9_richest 2 (some .int) (v_rm 3 0 0) (QI r (lay G S)) 0 0 0 [(0, .ref (v_B G + 0)), (1, .int x1)] [] (lay G S)
  refine v_iload_n 1 dX9_richest_0 rfl rfl ?_
  refine v_iconst dX9_richest_1 (by decide : _ = (1 : Int32)) ?_
  refine v_icmp_lt (tgt := 11) dX9_richest_2 (by decide) (fun c => ?_) (fun c => ?_)
  · replace hh := (if_pos c).symm.trans hh
    refine v_iconst dX9_richest_11 (by decide : _ = (-1 : Int32)) ?_
    refine v_goto (tgt := 29) dX9_richest_12 (by decide) ?_
    obtain rfl := Option.some.inj hh
    exact v_iret dX9_richest_29 rfl (Nat.zero_le _) (Nat.zero_le _) ⟨rfl, rfl⟩
  · replace hh := (if_neg c).symm.trans hh
    refine v_iload_n 1 dX9_richest_5 rfl rfl ?_
    refine v_bipush dX9_richest_6 (by decide : _ = (12 : Int32)) ?_
    refine v_icmp_le (tgt := 15) dX9_richest_8 (by decide) (fun c => ?_) (fun c => ?_)
    · replace hh := (if_pos c).symm.trans hh
      refine v_aload_n 0 dX9_richest_15 rfl rfl ?_
      refine r_RolledOut_now dX9_richest_16 fl_X9_12 ?_
      refine r_World_sheet (by decide) dX9_richest_19 fl_X9_122 ?_
      refine r_Sheet_cells (by decide) dX9_richest_22 fl_X9_126 ?_
      refine v_iload_n 1 dX9_richest_25 rfl rfl ?_
      obtain ⟨q1, eq1, hh⟩ := bnd_some hh
      refine v_callSi (t_X3_fullest (by decide) eq1) dX9_richest_26 y_X3_fullest ml_X9_242 rfl rfl (Nat.le_of_ble_eq_true rfl) ⟨(Nat.le_of_ble_eq_true rfl), (Nat.le_of_ble_eq_true rfl)⟩ ⟨Nat.zero_le _, Nat.zero_le _⟩ ?_
      obtain rfl := Option.some.inj hh
      exact v_iret dX9_richest_29 rfl (Nat.zero_le _) (Nat.zero_le _) ⟨rfl, rfl⟩
    · replace hh := (if_neg c).symm.trans hh
      refine v_iconst dX9_richest_11 (by decide : _ = (-1 : Int32)) ?_
      refine v_goto (tgt := 29) dX9_richest_12 (by decide) ?_
      obtain rfl := Option.some.inj hh
      exact v_iret dX9_richest_29 rfl (Nat.zero_le _) (Nat.zero_le _) ⟨rfl, rfl⟩
def f_X9_islands (N : Nat) (S : St) (x1 : Int32) : Option (Int32) :=
  if x1 < (0 : Int32) then
  (some (-1 : Int32))
  else
  (if x1 ≤ (9999 : Int32) then
  (bnd (f_X3_rowsAbove N 0 S x1) fun q1 =>
 some q1)
  else
  (some (-1 : Int32)))
set_option maxRecDepth 100000 in
set_option maxHeartbeats 4000000 in
theorem t_X9_islands {l : Launch} {G : v_G} {N : Nat} {S : St}   {x1 : Int32} {r : Int32} (hh : f_X9_islands N S x1 = some r) : v_M l G yX9_islands cX9_islands 2 (some .int) 1 0 0 [.ref (v_B G + 0), .int x1] (lay G S) (QI r (lay G S)) := by
  refine v_entry (by decide) (Nat.le_of_ble_eq_true rfl) ?_
  unfold f_X9_islands at hh
  show V l G yX9_islands cX9_islands 2 (some .int) (v_rm 1 0 0) (QI r (lay G S)) 0 0 0 [(0, .ref (v_B G + 0)), (1, .int x1)] [] (lay G S)
  refine v_iload_n 1 dX9_islands_0 rfl rfl ?_
  refine v_if_lt (tgt := 11) dX9_islands_1 (by decide) (fun c => ?_) (fun c => ?_)
  · replace hh := (if_pos c).symm.trans hh
    refine v_iconst dX9_islands_11 (by decide : _ = (-1 : Int32)) ?_
    refine v_goto (tgt := 29) dX9_islands_12 (by decide) ?_
    obtain rfl := Option.some.inj hh
    exact v_iret dX9_islands_29 rfl (Nat.zero_le _) (Nat.zero_le _) ⟨rfl, rfl⟩
  · replace hh := (if_neg c).symm.trans hh
    refine v_iload_n 1 dX9_islands_4 rfl rfl ?_
    refine v_sipush dX9_islands_5 (by decide : _ = (9999 : Int32)) ?_
    refine v_icmp_le (tgt := 15) dX9_islands_8 (by decide) (fun c => ?_) (fun c => ?_)
    · replace hh := (if_pos c).symm.trans hh
      refine v_aload_n 0 dX9_islands_15 rfl rfl ?_
      refine r_RolledOut_now dX9_islands_16 fl_X9_12 ?_
      refine r_World_sheet (by decide) dX9_islands_19 fl_X9_122 ?_
      refine r_Sheet_cells (by decide) dX9_islands_22 fl_X9_126 ?_
      refine v_iload_n 1 dX9_islands_25 rfl rfl ?_
      obtain ⟨q1, eq1, hh⟩ := bnd_some hh
      refine v_callSi (t_X3_rowsAbove (by decide) eq1) dX9_islands_26 y_X3_rowsAbove ml_X9_245 rfl rfl (Nat.le_of_ble_eq_true rfl) ⟨(Nat.le_of_ble_eq_true rfl), (Nat.le_of_ble_eq_true rfl)⟩ ⟨Nat.zero_le _, Nat.zero_le _⟩ ?_
      obtain rfl := Option.some.inj hh
      exact v_iret dX9_islands_29 rfl (Nat.zero_le _) (Nat.zero_le _) ⟨rfl, rfl⟩
    · replace hh := (if_neg c).symm.trans hh
      refine v_iconst dX9_islands_11 (by decide : _ = (-1 : Int32)) ?_
      refine v_goto (tgt := 29) dX9_islands_12 (by decide) ?_
      obtain rfl := Option.some.inj hh
      exact v_iret dX9_islands_29 rfl (Nat.zero_le _) (Nat.zero_le _) ⟨rfl, rfl⟩
def f_X9_sees (N : Nat) (S : St) (x1 : Int32) (x2 : Int32) : Option (Int32) :=
  bnd (f_X9_isCell S x1) fun q1 =>
 if q1 = (0 : Int32) then
  (some (-1 : Int32))
  else
  (bnd (f_X3_firstHigher N 0 S x1 x2) fun q2 =>
 some q2)
set_option maxRecDepth 100000 in
set_option maxHeartbeats 4000000 in
theorem t_X9_sees {l : Launch} {G : v_G} {N : Nat} {S : St}   {x1 : Int32} {x2 : Int32} {r : Int32} (hh : f_X9_sees N S x1 x2 = some r) : v_M l G yX9_sees cX9_sees 3 (some .int) 1 0 0 [.ref (v_B G + 0), .int x1, .int x2] (lay G S) (QI r (lay G S)) := by
  refine v_entry (by decide) (Nat.le_of_ble_eq_true rfl) ?_
  unfold f_X9_sees at hh
  show V l G yX9_sees cX9_sees 3 (some .int) (v_rm 1 0 0) (QI r (lay G S)) 0 0 0 [(0, .ref (v_B G + 0)), (1, .int x1), (2, .int x2)] [] (lay G S)
  refine v_iload_n 1 dX9_sees_0 rfl rfl ?_
  obtain ⟨q1, eq1, hh⟩ := bnd_some hh
  refine v_callSi (t_X9_isCell eq1) dX9_sees_1 y_X9_isCell ml_X9_68 rfl rfl (Nat.le_of_ble_eq_true rfl) ⟨(Nat.le_of_ble_eq_true rfl), (Nat.le_of_ble_eq_true rfl)⟩ ⟨Nat.zero_le _, Nat.zero_le _⟩ ?_
  refine v_if_eq (tgt := 25) dX9_sees_4 (by decide) (fun c => ?_) (fun c => ?_)
  · replace hh := (if_pos c).symm.trans hh
    refine v_iconst dX9_sees_25 (by decide : _ = (-1 : Int32)) ?_
    obtain rfl := Option.some.inj hh
    exact v_iret dX9_sees_26 rfl (Nat.zero_le _) (Nat.zero_le _) ⟨rfl, rfl⟩
  · replace hh := (if_neg c).symm.trans hh
    refine v_aload_n 0 dX9_sees_7 rfl rfl ?_
    refine r_RolledOut_now dX9_sees_8 fl_X9_12 ?_
    refine r_World_sheet (by decide) dX9_sees_11 fl_X9_122 ?_
    refine r_Sheet_cells (by decide) dX9_sees_14 fl_X9_126 ?_
    refine v_iload_n 1 dX9_sees_17 rfl rfl ?_
    refine v_iload_n 2 dX9_sees_18 rfl rfl ?_
    obtain ⟨q2, eq2, hh⟩ := bnd_some hh
    refine v_callSi (t_X3_firstHigher (by decide) eq2) dX9_sees_19 y_X3_firstHigher ml_X9_248 rfl rfl (Nat.le_of_ble_eq_true rfl) ⟨(Nat.le_of_ble_eq_true rfl), (Nat.le_of_ble_eq_true rfl)⟩ ⟨Nat.zero_le _, Nat.zero_le _⟩ ?_
    refine v_goto (tgt := 26) dX9_sees_22 (by decide) ?_
    obtain rfl := Option.some.inj hh
    exact v_iret dX9_sees_26 rfl (Nat.zero_le _) (Nat.zero_le _) ⟨rfl, rfl⟩
def f_X9_middle (N : Nat) (S : St) (x1 : Int32) : Option (Int32) :=
  if x1 < (1 : Int32) then
  (some (-1 : Int32))
  else
  (if x1 ≤ (12 : Int32) then
  (bnd (f_X3_leastButOthers N 0 S x1) fun q1 =>
 some q1)
  else
  (some (-1 : Int32)))
set_option maxRecDepth 100000 in
set_option maxHeartbeats 4000000 in
theorem t_X9_middle {l : Launch} {G : v_G} {N : Nat} {S : St}   {x1 : Int32} {r : Int32} (hh : f_X9_middle N S x1 = some r) : v_M l G yX9_middle cX9_middle 2 (some .int) 2 0 0 [.ref (v_B G + 0), .int x1] (lay G S) (QI r (lay G S)) := by
  refine v_entry (by decide) (Nat.le_of_ble_eq_true rfl) ?_
  unfold f_X9_middle at hh
  show V l G yX9_middle cX9_middle 2 (some .int) (v_rm 2 0 0) (QI r (lay G S)) 0 0 0 [(0, .ref (v_B G + 0)), (1, .int x1)] [] (lay G S)
  refine v_iload_n 1 dX9_middle_0 rfl rfl ?_
  refine v_iconst dX9_middle_1 (by decide : _ = (1 : Int32)) ?_
  refine v_icmp_lt (tgt := 11) dX9_middle_2 (by decide) (fun c => ?_) (fun c => ?_)
  · replace hh := (if_pos c).symm.trans hh
    refine v_iconst dX9_middle_11 (by decide : _ = (-1 : Int32)) ?_
    refine v_goto (tgt := 29) dX9_middle_12 (by decide) ?_
    obtain rfl := Option.some.inj hh
    exact v_iret dX9_middle_29 rfl (Nat.zero_le _) (Nat.zero_le _) ⟨rfl, rfl⟩
  · replace hh := (if_neg c).symm.trans hh
    refine v_iload_n 1 dX9_middle_5 rfl rfl ?_
    refine v_bipush dX9_middle_6 (by decide : _ = (12 : Int32)) ?_
    refine v_icmp_le (tgt := 15) dX9_middle_8 (by decide) (fun c => ?_) (fun c => ?_)
    · replace hh := (if_pos c).symm.trans hh
      refine v_aload_n 0 dX9_middle_15 rfl rfl ?_
      refine r_RolledOut_now dX9_middle_16 fl_X9_12 ?_
      refine r_World_sheet (by decide) dX9_middle_19 fl_X9_122 ?_
      refine r_Sheet_cells (by decide) dX9_middle_22 fl_X9_126 ?_
      refine v_iload_n 1 dX9_middle_25 rfl rfl ?_
      obtain ⟨q1, eq1, hh⟩ := bnd_some hh
      refine v_callSi (t_X3_leastButOthers (by decide) eq1) dX9_middle_26 y_X3_leastButOthers ml_X9_252 rfl rfl (Nat.le_of_ble_eq_true rfl) ⟨(Nat.le_of_ble_eq_true rfl), (Nat.le_of_ble_eq_true rfl)⟩ ⟨Nat.zero_le _, Nat.zero_le _⟩ ?_
      obtain rfl := Option.some.inj hh
      exact v_iret dX9_middle_29 rfl (Nat.zero_le _) (Nat.zero_le _) ⟨rfl, rfl⟩
    · replace hh := (if_neg c).symm.trans hh
      refine v_iconst dX9_middle_11 (by decide : _ = (-1 : Int32)) ?_
      refine v_goto (tgt := 29) dX9_middle_12 (by decide) ?_
      obtain rfl := Option.some.inj hh
      exact v_iret dX9_middle_29 rfl (Nat.zero_le _) (Nat.zero_le _) ⟨rfl, rfl⟩
def f_X9_carried (N : Nat) (S : St)  : Option (Int32) :=
  bnd (f_X3_sum N 31 S (0 : Int32) (12 : Int32)) fun q1 =>
 bnd (f_X3_sum N 0 S (0 : Int32) (12 : Int32)) fun q2 =>
 if q1 = q2 then
  (bnd (f_X3_way_cc N 31 0 S ) fun q3 =>
 some q3)
  else
  (some (-1 : Int32))
set_option maxRecDepth 100000 in
set_option maxHeartbeats 4000000 in
theorem t_X9_carried {l : Launch} {G : v_G} {N : Nat} {S : St}    {r : Int32} (hh : f_X9_carried N S  = some r) : v_M l G yX9_carried cX9_carried 3 (some .int) 2 0 0 [.ref (v_B G + 0)] (lay G S) (QI r (lay G S)) := by
  refine v_entry (by decide) (Nat.le_of_ble_eq_true rfl) ?_
  unfold f_X9_carried at hh
  show V l G yX9_carried cX9_carried 3 (some .int) (v_rm 2 0 0) (QI r (lay G S)) 0 0 0 [(0, .ref (v_B G + 0))] [] (lay G S)
  refine v_aload_n 0 dX9_carried_0 rfl rfl ?_
  refine r_RolledOut_kept dX9_carried_1 fl_X9_16 ?_
  refine r_World_sheet (by decide) dX9_carried_4 fl_X9_122 ?_
  refine r_Sheet_cells (by decide) dX9_carried_7 fl_X9_126 ?_
  refine v_astore_n dX9_carried_10 rfl (by decide) rfl ?_
  refine v_aload_n 1 dX9_carried_11 rfl rfl ?_
  refine r_RolledOut_now dX9_carried_12 fl_X9_12 ?_
  refine r_World_sheet (by decide) dX9_carried_15 fl_X9_122 ?_
  refine r_Sheet_cells (by decide) dX9_carried_18 fl_X9_126 ?_
  refine v_astore_n dX9_carried_21 rfl (by decide) rfl ?_
  refine v_aload_n 1 dX9_carried_22 rfl rfl ?_
  refine v_iconst dX9_carried_23 (by decide : _ = (0 : Int32)) ?_
  refine v_bipush dX9_carried_24 (by decide : _ = (12 : Int32)) ?_
  obtain ⟨q1, eq1, hh⟩ := bnd_some hh
  refine v_callSi (t_X3_sum (by decide) eq1) dX9_carried_26 y_X3_sum ml_X9_210 rfl rfl (Nat.le_of_ble_eq_true rfl) ⟨(Nat.le_of_ble_eq_true rfl), (Nat.le_of_ble_eq_true rfl)⟩ ⟨Nat.zero_le _, Nat.zero_le _⟩ ?_
  refine v_aload_n 0 dX9_carried_29 rfl rfl ?_
  refine v_iconst dX9_carried_30 (by decide : _ = (0 : Int32)) ?_
  refine v_bipush dX9_carried_31 (by decide : _ = (12 : Int32)) ?_
  obtain ⟨q2, eq2, hh⟩ := bnd_some hh
  refine v_callSi (t_X3_sum (by decide) eq2) dX9_carried_33 y_X3_sum ml_X9_210 rfl rfl (Nat.le_of_ble_eq_true rfl) ⟨(Nat.le_of_ble_eq_true rfl), (Nat.le_of_ble_eq_true rfl)⟩ ⟨Nat.zero_le _, Nat.zero_le _⟩ ?_
  refine v_icmp_eq (tgt := 41) dX9_carried_36 (by decide) (fun c => ?_) (fun c => ?_)
  · replace hh := (if_pos c).symm.trans hh
    refine v_aload_n 1 dX9_carried_41 rfl rfl ?_
    refine v_aload_n 0 dX9_carried_42 rfl rfl ?_
    obtain ⟨q3, eq3, hh⟩ := bnd_some hh
    refine v_callSi (t_X3_way_cc (by decide) (by decide) eq3) dX9_carried_43 y_X3_way ml_X9_255 rfl rfl (Nat.le_of_ble_eq_true rfl) ⟨(Nat.le_of_ble_eq_true rfl), (Nat.le_of_ble_eq_true rfl)⟩ ⟨Nat.zero_le _, Nat.zero_le _⟩ ?_
    obtain rfl := Option.some.inj hh
    exact v_iret dX9_carried_46 rfl (Nat.zero_le _) (Nat.zero_le _) ⟨rfl, rfl⟩
  · replace hh := (if_neg c).symm.trans hh
    refine v_iconst dX9_carried_39 (by decide : _ = (-1 : Int32)) ?_
    obtain rfl := Option.some.inj hh
    exact v_iret dX9_carried_40 rfl (Nat.zero_le _) (Nat.zero_le _) ⟨rfl, rfl⟩
def f_X9_level (N : Nat) (S : St)  : Option (Int32 × St) :=
  bnd (f_X3_wayToLevel N 0 S ) fun q1 =>
 some (q1.1, q1.2)
set_option maxRecDepth 100000 in
set_option maxHeartbeats 4000000 in
theorem t_X9_level {l : Launch} {G : v_G} {N : Nat} {S : St}    {r : Int32 × St} (hh : f_X9_level N S  = some r) : v_M l G yX9_level cX9_level 1 (some .int) 3 0 0 [.ref (v_B G + 0)] (lay G S) (QI r.1 (lay G r.2)) := by
  refine v_entry (by decide) (Nat.le_of_ble_eq_true rfl) ?_
  unfold f_X9_level at hh
  show V l G yX9_level cX9_level 1 (some .int) (v_rm 3 0 0) (QI r.1 (lay G r.2)) 0 0 0 [(0, .ref (v_B G + 0))] [] (lay G S)
  refine v_aload_n 0 dX9_level_0 rfl rfl ?_
  refine r_RolledOut_shape dX9_level_1 fl_X9_40 ?_
  refine v_aload_n 0 dX9_level_4 rfl rfl ?_
  refine r_RolledOut_now dX9_level_5 fl_X9_12 ?_
  refine r_World_sheet (by decide) dX9_level_8 fl_X9_122 ?_
  refine r_Sheet_cells (by decide) dX9_level_11 fl_X9_126 ?_
  obtain ⟨q1, eq1, hh⟩ := bnd_some hh
  refine v_callVi (t_X3_wayToLevel (by decide) eq1) dX9_level_14 y_X3_wayToLevel ml_X9_259 (ci := 2) rfl rfl (e_Shape) rfl rfl (Nat.le_of_ble_eq_true rfl) ⟨(Nat.le_of_ble_eq_true rfl), (Nat.le_of_ble_eq_true rfl)⟩ ⟨Nat.zero_le _, Nat.zero_le _⟩ ?_
  obtain rfl := Option.some.inj hh
  exact v_iret dX9_level_17 rfl (Nat.zero_le _) (Nat.zero_le _) ⟨rfl, rfl⟩
def f_X9_shared (N : Nat) (S : St) (x1 : Int32) (x2 : Int32) : Option (Int32 × St) :=
  if x1 < (1 : Int32) then
  (some ((-2 : Int32), S))
  else
  (if (6 : Int32) < x1 then
  (some ((-2 : Int32), S))
  else
  (if x2 < (-1 : Int32) then
  (some ((-2 : Int32), S))
  else
  (if x2 < x1 then
  (bnd (f_X3_parts N 0 S x1 x2) fun q1 =>
 some (q1.1, q1.2))
  else
  (some ((-2 : Int32), S)))))
set_option maxRecDepth 100000 in
set_option maxHeartbeats 4000000 in
theorem t_X9_shared {l : Launch} {G : v_G} {N : Nat} {S : St}   {x1 : Int32} {x2 : Int32} {r : Int32 × St} (hh : f_X9_shared N S x1 x2 = some r) : v_M l G yX9_shared cX9_shared 3 (some .int) 4 0 0 [.ref (v_B G + 0), .int x1, .int x2] (lay G S) (QI r.1 (lay G r.2)) := by
  refine v_entry (by decide) (Nat.le_of_ble_eq_true rfl) ?_
  unfold f_X9_shared at hh
  show V l G yX9_shared cX9_shared 3 (some .int) (v_rm 4 0 0) (QI r.1 (lay G r.2)) 0 0 0 [(0, .ref (v_B G + 0)), (1, .int x1), (2, .int x2)] [] (lay G S)
  refine v_iload_n 1 dX9_shared_0 rfl rfl ?_
  refine v_iconst dX9_shared_1 (by decide : _ = (1 : Int32)) ?_
  refine v_icmp_lt (tgt := 21) dX9_shared_2 (by decide) (fun c => ?_) (fun c => ?_)
  · replace hh := (if_pos c).symm.trans hh
    refine v_bipush dX9_shared_21 (by decide : _ = (-2 : Int32)) ?_
    obtain rfl := Option.some.inj hh
    exact v_iret dX9_shared_23 rfl (Nat.zero_le _) (Nat.zero_le _) ⟨rfl, rfl⟩
  · replace hh := (if_neg c).symm.trans hh
    refine v_iload_n 1 dX9_shared_5 rfl rfl ?_
    refine v_bipush dX9_shared_6 (by decide : _ = (6 : Int32)) ?_
    refine v_icmp_gt (tgt := 21) dX9_shared_8 (by decide) (fun c => ?_) (fun c => ?_)
    · replace hh := (if_pos c).symm.trans hh
      refine v_bipush dX9_shared_21 (by decide : _ = (-2 : Int32)) ?_
      obtain rfl := Option.some.inj hh
      exact v_iret dX9_shared_23 rfl (Nat.zero_le _) (Nat.zero_le _) ⟨rfl, rfl⟩
    · replace hh := (if_neg c).symm.trans hh
      refine v_iload_n 2 dX9_shared_11 rfl rfl ?_
      refine v_iconst dX9_shared_12 (by decide : _ = (-1 : Int32)) ?_
      refine v_icmp_lt (tgt := 21) dX9_shared_13 (by decide) (fun c => ?_) (fun c => ?_)
      · replace hh := (if_pos c).symm.trans hh
        refine v_bipush dX9_shared_21 (by decide : _ = (-2 : Int32)) ?_
        obtain rfl := Option.some.inj hh
        exact v_iret dX9_shared_23 rfl (Nat.zero_le _) (Nat.zero_le _) ⟨rfl, rfl⟩
      · replace hh := (if_neg c).symm.trans hh
        refine v_iload_n 2 dX9_shared_16 rfl rfl ?_
        refine v_iload_n 1 dX9_shared_17 rfl rfl ?_
        refine v_icmp_lt (tgt := 24) dX9_shared_18 (by decide) (fun c => ?_) (fun c => ?_)
        · replace hh := (if_pos c).symm.trans hh
          refine v_aload_n 0 dX9_shared_24 rfl rfl ?_
          refine r_RolledOut_shape dX9_shared_25 fl_X9_40 ?_
          refine v_aload_n 0 dX9_shared_28 rfl rfl ?_
          refine r_RolledOut_now dX9_shared_29 fl_X9_12 ?_
          refine r_World_sheet (by decide) dX9_shared_32 fl_X9_122 ?_
          refine r_Sheet_cells (by decide) dX9_shared_35 fl_X9_126 ?_
          refine v_iload_n 1 dX9_shared_38 rfl rfl ?_
          refine v_iload_n 2 dX9_shared_39 rfl rfl ?_
          obtain ⟨q1, eq1, hh⟩ := bnd_some hh
          refine v_callVi (t_X3_parts (by decide) eq1) dX9_shared_40 y_X3_parts ml_X9_262 (ci := 2) rfl rfl (e_Shape) rfl rfl (Nat.le_of_ble_eq_true rfl) ⟨(Nat.le_of_ble_eq_true rfl), (Nat.le_of_ble_eq_true rfl)⟩ ⟨Nat.zero_le _, Nat.zero_le _⟩ ?_
          obtain rfl := Option.some.inj hh
          exact v_iret dX9_shared_43 rfl (Nat.zero_le _) (Nat.zero_le _) ⟨rfl, rfl⟩
        · replace hh := (if_neg c).symm.trans hh
          refine v_bipush dX9_shared_21 (by decide : _ = (-2 : Int32)) ?_
          obtain rfl := Option.some.inj hh
          exact v_iret dX9_shared_23 rfl (Nat.zero_le _) (Nat.zero_le _) ⟨rfl, rfl⟩
def f_X9_ends (N : Nat) (S : St) (x1 : Int32) (x2 : Int32) : Option (Int32 × St) :=
  bnd (f_X9_isRow S x1 x2) fun q1 =>
 if q1 = (0 : Int32) then
  (some ((-9999 : Int32), S))
  else
  (bnd (f_X3_lead N 0 S x1 x2) fun q2 =>
 some (q2.1, q2.2))
set_option maxRecDepth 100000 in
set_option maxHeartbeats 4000000 in
theorem t_X9_ends {l : Launch} {G : v_G} {N : Nat} {S : St}   {x1 : Int32} {x2 : Int32} {r : Int32 × St} (hh : f_X9_ends N S x1 x2 = some r) : v_M l G yX9_ends cX9_ends 3 (some .int) 2 0 0 [.ref (v_B G + 0), .int x1, .int x2] (lay G S) (QI r.1 (lay G r.2)) := by
  refine v_entry (by decide) (Nat.le_of_ble_eq_true rfl) ?_
  unfold f_X9_ends at hh
  show V l G yX9_ends cX9_ends 3 (some .int) (v_rm 2 0 0) (QI r.1 (lay G r.2)) 0 0 0 [(0, .ref (v_B G + 0)), (1, .int x1), (2, .int x2)] [] (lay G S)
  refine v_iload_n 1 dX9_ends_0 rfl rfl ?_
  refine v_iload_n 2 dX9_ends_1 rfl rfl ?_
  obtain ⟨q1, eq1, hh⟩ := bnd_some hh
  refine v_callSi (t_X9_isRow eq1) dX9_ends_2 y_X9_isRow ml_X9_265 rfl rfl (Nat.le_of_ble_eq_true rfl) ⟨(Nat.le_of_ble_eq_true rfl), (Nat.le_of_ble_eq_true rfl)⟩ ⟨Nat.zero_le _, Nat.zero_le _⟩ ?_
  refine v_if_eq (tgt := 30) dX9_ends_5 (by decide) (fun c => ?_) (fun c => ?_)
  · replace hh := (if_pos c).symm.trans hh
    refine v_sipush dX9_ends_30 (by decide : _ = (-9999 : Int32)) ?_
    obtain rfl := Option.some.inj hh
    exact v_iret dX9_ends_33 rfl (Nat.zero_le _) (Nat.zero_le _) ⟨rfl, rfl⟩
  · replace hh := (if_neg c).symm.trans hh
    refine v_aload_n 0 dX9_ends_8 rfl rfl ?_
    refine r_RolledOut_shape dX9_ends_9 fl_X9_40 ?_
    refine v_aload_n 0 dX9_ends_12 rfl rfl ?_
    refine r_RolledOut_now dX9_ends_13 fl_X9_12 ?_
    refine r_World_sheet (by decide) dX9_ends_16 fl_X9_122 ?_
    refine r_Sheet_cells (by decide) dX9_ends_19 fl_X9_126 ?_
    refine v_iload_n 1 dX9_ends_22 rfl rfl ?_
    refine v_iload_n 2 dX9_ends_23 rfl rfl ?_
    obtain ⟨q2, eq2, hh⟩ := bnd_some hh
    refine v_callVi (t_X3_lead (by decide) eq2) dX9_ends_24 y_X3_lead ml_X9_268 (ci := 2) rfl rfl (e_Shape) rfl rfl (Nat.le_of_ble_eq_true rfl) ⟨(Nat.le_of_ble_eq_true rfl), (Nat.le_of_ble_eq_true rfl)⟩ ⟨Nat.zero_le _, Nat.zero_le _⟩ ?_
    refine v_goto (tgt := 33) dX9_ends_27 (by decide) ?_
    obtain rfl := Option.some.inj hh
    exact v_iret dX9_ends_33 rfl (Nat.zero_le _) (Nat.zero_le _) ⟨rfl, rfl⟩
def f_X9_endsFirst (N : Nat) (S : St) (x1 : Int32) (x2 : Int32) : Option (Int32 × St) :=
  bnd (f_X9_isRow S x1 x2) fun q1 =>
 if q1 = (0 : Int32) then
  (some ((-1 : Int32), S))
  else
  (bnd (f_X3_firstTaken N 0 S x1 x2) fun q2 =>
 some (q2.1, q2.2))
set_option maxRecDepth 100000 in
set_option maxHeartbeats 4000000 in
theorem t_X9_endsFirst {l : Launch} {G : v_G} {N : Nat} {S : St}   {x1 : Int32} {x2 : Int32} {r : Int32 × St} (hh : f_X9_endsFirst N S x1 x2 = some r) : v_M l G yX9_endsFirst cX9_endsFirst 3 (some .int) 3 0 0 [.ref (v_B G + 0), .int x1, .int x2] (lay G S) (QI r.1 (lay G r.2)) := by
  refine v_entry (by decide) (Nat.le_of_ble_eq_true rfl) ?_
  unfold f_X9_endsFirst at hh
  show V l G yX9_endsFirst cX9_endsFirst 3 (some .int) (v_rm 3 0 0) (QI r.1 (lay G r.2)) 0 0 0 [(0, .ref (v_B G + 0)), (1, .int x1), (2, .int x2)] [] (lay G S)
  refine v_iload_n 1 dX9_endsFirst_0 rfl rfl ?_
  refine v_iload_n 2 dX9_endsFirst_1 rfl rfl ?_
  obtain ⟨q1, eq1, hh⟩ := bnd_some hh
  refine v_callSi (t_X9_isRow eq1) dX9_endsFirst_2 y_X9_isRow ml_X9_265 rfl rfl (Nat.le_of_ble_eq_true rfl) ⟨(Nat.le_of_ble_eq_true rfl), (Nat.le_of_ble_eq_true rfl)⟩ ⟨Nat.zero_le _, Nat.zero_le _⟩ ?_
  refine v_if_eq (tgt := 30) dX9_endsFirst_5 (by decide) (fun c => ?_) (fun c => ?_)
  · replace hh := (if_pos c).symm.trans hh
    refine v_iconst dX9_endsFirst_30 (by decide : _ = (-1 : Int32)) ?_
    obtain rfl := Option.some.inj hh
    exact v_iret dX9_endsFirst_31 rfl (Nat.zero_le _) (Nat.zero_le _) ⟨rfl, rfl⟩
  · replace hh := (if_neg c).symm.trans hh
    refine v_aload_n 0 dX9_endsFirst_8 rfl rfl ?_
    refine r_RolledOut_shape dX9_endsFirst_9 fl_X9_40 ?_
    refine v_aload_n 0 dX9_endsFirst_12 rfl rfl ?_
    refine r_RolledOut_now dX9_endsFirst_13 fl_X9_12 ?_
    refine r_World_sheet (by decide) dX9_endsFirst_16 fl_X9_122 ?_
    refine r_Sheet_cells (by decide) dX9_endsFirst_19 fl_X9_126 ?_
    refine v_iload_n 1 dX9_endsFirst_22 rfl rfl ?_
    refine v_iload_n 2 dX9_endsFirst_23 rfl rfl ?_
    obtain ⟨q2, eq2, hh⟩ := bnd_some hh
    refine v_callVi (t_X3_firstTaken (by decide) eq2) dX9_endsFirst_24 y_X3_firstTaken ml_X9_271 (ci := 2) rfl rfl (e_Shape) rfl rfl (Nat.le_of_ble_eq_true rfl) ⟨(Nat.le_of_ble_eq_true rfl), (Nat.le_of_ble_eq_true rfl)⟩ ⟨Nat.zero_le _, Nat.zero_le _⟩ ?_
    refine v_goto (tgt := 31) dX9_endsFirst_27 (by decide) ?_
    obtain rfl := Option.some.inj hh
    exact v_iret dX9_endsFirst_31 rfl (Nat.zero_le _) (Nat.zero_le _) ⟨rfl, rfl⟩
def f_X9_patches (N : Nat) (S : St) (x1 : Int32) (x2 : Int32) (x3 : Int32) : Option (Int32 × St) :=
  if x1 < (1 : Int32) then
  (some ((-1 : Int32), S))
  else
  (if (6 : Int32) < x1 then
  (some ((-1 : Int32), S))
  else
  (if x2 < (1 : Int32) then
  (some ((-1 : Int32), S))
  else
  (if x2 ≤ (6 : Int32) then
  (bnd (f_X3_covers N S (gI S 404 0 0) x1 x2 x3) fun q1 =>
 some (q1.1, q1.2))
  else
  (some ((-1 : Int32), S)))))
set_option maxRecDepth 100000 in
set_option maxHeartbeats 4000000 in
theorem t_X9_patches {l : Launch} {G : v_G} {N : Nat} {S : St}   {x1 : Int32} {x2 : Int32} {x3 : Int32} {r : Int32 × St} (hh : f_X9_patches N S x1 x2 x3 = some r) : v_M l G yX9_patches cX9_patches 4 (some .int) 2 0 0 [.ref (v_B G + 0), .int x1, .int x2, .int x3] (lay G S) (QI r.1 (lay G r.2)) := by
  refine v_entry (by decide) (Nat.le_of_ble_eq_true rfl) ?_
  unfold f_X9_patches at hh
  show V l G yX9_patches cX9_patches 4 (some .int) (v_rm 2 0 0) (QI r.1 (lay G r.2)) 0 0 0 [(0, .ref (v_B G + 0)), (1, .int x1), (2, .int x2), (3, .int x3)] [] (lay G S)
  refine v_iload_n 1 dX9_patches_0 rfl rfl ?_
  refine v_iconst dX9_patches_1 (by decide : _ = (1 : Int32)) ?_
  refine v_icmp_lt (tgt := 22) dX9_patches_2 (by decide) (fun c => ?_) (fun c => ?_)
  · replace hh := (if_pos c).symm.trans hh
    refine v_iconst dX9_patches_22 (by decide : _ = (-1 : Int32)) ?_
    obtain rfl := Option.some.inj hh
    exact v_iret dX9_patches_23 rfl (Nat.zero_le _) (Nat.zero_le _) ⟨rfl, rfl⟩
  · replace hh := (if_neg c).symm.trans hh
    refine v_iload_n 1 dX9_patches_5 rfl rfl ?_
    refine v_bipush dX9_patches_6 (by decide : _ = (6 : Int32)) ?_
    refine v_icmp_gt (tgt := 22) dX9_patches_8 (by decide) (fun c => ?_) (fun c => ?_)
    · replace hh := (if_pos c).symm.trans hh
      refine v_iconst dX9_patches_22 (by decide : _ = (-1 : Int32)) ?_
      obtain rfl := Option.some.inj hh
      exact v_iret dX9_patches_23 rfl (Nat.zero_le _) (Nat.zero_le _) ⟨rfl, rfl⟩
    · replace hh := (if_neg c).symm.trans hh
      refine v_iload_n 2 dX9_patches_11 rfl rfl ?_
      refine v_iconst dX9_patches_12 (by decide : _ = (1 : Int32)) ?_
      refine v_icmp_lt (tgt := 22) dX9_patches_13 (by decide) (fun c => ?_) (fun c => ?_)
      · replace hh := (if_pos c).symm.trans hh
        refine v_iconst dX9_patches_22 (by decide : _ = (-1 : Int32)) ?_
        obtain rfl := Option.some.inj hh
        exact v_iret dX9_patches_23 rfl (Nat.zero_le _) (Nat.zero_le _) ⟨rfl, rfl⟩
      · replace hh := (if_neg c).symm.trans hh
        refine v_iload_n 2 dX9_patches_16 rfl rfl ?_
        refine v_bipush dX9_patches_17 (by decide : _ = (6 : Int32)) ?_
        refine v_icmp_le (tgt := 24) dX9_patches_19 (by decide) (fun c => ?_) (fun c => ?_)
        · replace hh := (if_pos c).symm.trans hh
          refine v_aload_n 0 dX9_patches_24 rfl rfl ?_
          refine r_RolledOut_shape dX9_patches_25 fl_X9_40 ?_
          refine v_aload_n 0 dX9_patches_28 rfl rfl ?_
          refine r_RolledOut_now dX9_patches_29 fl_X9_12 ?_
          refine r_World_sheet (by decide) dX9_patches_32 fl_X9_122 ?_
          refine r_Sheet_torn (by decide) dX9_patches_35 fl_X9_154 ?_
          refine v_iload_n 1 dX9_patches_38 rfl rfl ?_
          refine v_iload_n 2 dX9_patches_39 rfl rfl ?_
          refine v_iload_n 3 dX9_patches_40 rfl rfl ?_
          obtain ⟨q1, eq1, hh⟩ := bnd_some hh
          refine v_callVi (t_X3_covers eq1) dX9_patches_41 y_X3_covers ml_X9_274 (ci := 2) rfl rfl (e_Shape) rfl rfl (Nat.le_of_ble_eq_true rfl) ⟨(Nat.le_of_ble_eq_true rfl), (Nat.le_of_ble_eq_true rfl)⟩ ⟨Nat.zero_le _, Nat.zero_le _⟩ ?_
          obtain rfl := Option.some.inj hh
          exact v_iret dX9_patches_44 rfl (Nat.zero_le _) (Nat.zero_le _) ⟨rfl, rfl⟩
        · replace hh := (if_neg c).symm.trans hh
          refine v_iconst dX9_patches_22 (by decide : _ = (-1 : Int32)) ?_
          obtain rfl := Option.some.inj hh
          exact v_iret dX9_patches_23 rfl (Nat.zero_le _) (Nat.zero_le _) ⟨rfl, rfl⟩
def f_X9_best (N : Nat) (S : St) (x1 : Int32) : Option (Int32 × St) :=
  bnd (f_X9_isHand S x1) fun q1 =>
 if q1 = (0 : Int32) then
  (some ((-1 : Int32), S))
  else
  (bnd (f_X7_flattest N S x1) fun q2 =>
 some (q2.1, q2.2))
set_option maxRecDepth 100000 in
set_option maxHeartbeats 4000000 in
theorem t_X9_best {l : Launch} {G : v_G} {N : Nat} {S : St}   {x1 : Int32} {r : Int32 × St} (hh : f_X9_best N S x1 = some r) : v_M l G yX9_best cX9_best 2 (some .int) 6 0 0 [.ref (v_B G + 0), .int x1] (lay G S) (QI r.1 (lay G r.2)) := by
  refine v_entry (by decide) (Nat.le_of_ble_eq_true rfl) ?_
  unfold f_X9_best at hh
  show V l G yX9_best cX9_best 2 (some .int) (v_rm 6 0 0) (QI r.1 (lay G r.2)) 0 0 0 [(0, .ref (v_B G + 0)), (1, .int x1)] [] (lay G S)
  refine v_aload_n 0 dX9_best_0 rfl rfl ?_
  refine v_iload_n 1 dX9_best_1 rfl rfl ?_
  obtain ⟨q1, eq1, hh⟩ := bnd_some hh
  refine v_callVi (t_X9_isHand eq1) dX9_best_2 y_X9_isHand ml_X9_119 (ci := 8) rfl rfl (e_RolledOut) rfl rfl (Nat.le_of_ble_eq_true rfl) ⟨(Nat.le_of_ble_eq_true rfl), (Nat.le_of_ble_eq_true rfl)⟩ ⟨Nat.zero_le _, Nat.zero_le _⟩ ?_
  refine v_if_eq (tgt := 19) dX9_best_5 (by decide) (fun c => ?_) (fun c => ?_)
  · replace hh := (if_pos c).symm.trans hh
    refine v_iconst dX9_best_19 (by decide : _ = (-1 : Int32)) ?_
    obtain rfl := Option.some.inj hh
    exact v_iret dX9_best_20 rfl (Nat.zero_le _) (Nat.zero_le _) ⟨rfl, rfl⟩
  · replace hh := (if_neg c).symm.trans hh
    refine v_aload_n 0 dX9_best_8 rfl rfl ?_
    refine r_RolledOut_trials dX9_best_9 fl_X9_33 ?_
    refine v_iload_n 1 dX9_best_12 rfl rfl ?_
    obtain ⟨q2, eq2, hh⟩ := bnd_some hh
    refine v_callVi (t_X7_flattest eq2) dX9_best_13 y_X7_flattest ml_X9_284 (ci := 6) rfl rfl (e_Trials) rfl rfl (Nat.le_of_ble_eq_true rfl) ⟨(Nat.le_of_ble_eq_true rfl), (Nat.le_of_ble_eq_true rfl)⟩ ⟨Nat.zero_le _, Nat.zero_le _⟩ ?_
    refine v_goto (tgt := 20) dX9_best_16 (by decide) ?_
    obtain rfl := Option.some.inj hh
    exact v_iret dX9_best_20 rfl (Nat.zero_le _) (Nat.zero_le _) ⟨rfl, rfl⟩
def f_X9_which (N : Nat) (S : St) (x1 : Int32) (x2 : Int32) : Option (Int32 × St) :=
  bnd (f_X9_isHand S x1) fun q1 =>
 if q1 = (0 : Int32) then
  (some ((-2 : Int32), S))
  else
  (bnd (f_X7_seekWays N S x1) fun q2 =>
 if x2 = (0 : Int32) then
  (some (gI q2 705 0 0, q2))
  else
  (bnd (f_X7_lowestFirst q2 ) fun q3 =>
 some (q3, q2)))
set_option maxRecDepth 100000 in
set_option maxHeartbeats 4000000 in
theorem t_X9_which {l : Launch} {G : v_G} {N : Nat} {S : St}   {x1 : Int32} {x2 : Int32} {r : Int32 × St} (hh : f_X9_which N S x1 x2 = some r) : v_M l G yX9_which cX9_which 3 (some .int) 7 0 0 [.ref (v_B G + 0), .int x1, .int x2] (lay G S) (QI r.1 (lay G r.2)) := by
  refine v_entry (by decide) (Nat.le_of_ble_eq_true rfl) ?_
  unfold f_X9_which at hh
  show V l G yX9_which cX9_which 3 (some .int) (v_rm 7 0 0) (QI r.1 (lay G r.2)) 0 0 0 [(0, .ref (v_B G + 0)), (1, .int x1), (2, .int x2)] [] (lay G S)
  refine v_aload_n 0 dX9_which_0 rfl rfl ?_
  refine v_iload_n 1 dX9_which_1 rfl rfl ?_
  obtain ⟨q1, eq1, hh⟩ := bnd_some hh
  refine v_callVi (t_X9_isHand eq1) dX9_which_2 y_X9_isHand ml_X9_119 (ci := 8) rfl rfl (e_RolledOut) rfl rfl (Nat.le_of_ble_eq_true rfl) ⟨(Nat.le_of_ble_eq_true rfl), (Nat.le_of_ble_eq_true rfl)⟩ ⟨Nat.zero_le _, Nat.zero_le _⟩ ?_
  refine v_if_ne (tgt := 11) dX9_which_5 (by decide) (fun c => ?_) (fun c => ?_)
  · replace hh := (if_neg c).symm.trans hh
    refine v_aload_n 0 dX9_which_11 rfl rfl ?_
    refine r_RolledOut_trials dX9_which_12 fl_X9_33 ?_
    refine v_iload_n 1 dX9_which_15 rfl rfl ?_
    obtain ⟨q2, eq2, hh⟩ := bnd_some hh
    refine v_callVv (t_X7_seekWays eq2) dX9_which_16 y_X7_seekWays ml_X9_287 (ci := 6) rfl rfl (e_Trials) rfl rfl (Nat.le_of_ble_eq_true rfl) ⟨(Nat.le_of_ble_eq_true rfl), (Nat.le_of_ble_eq_true rfl)⟩ ⟨Nat.zero_le _, Nat.zero_le _⟩ ?_
    refine v_iload_n 2 dX9_which_19 rfl rfl ?_
    refine v_if_eq (tgt := 33) dX9_which_20 (by decide) (fun c => ?_) (fun c => ?_)
    · replace hh := (if_pos c).symm.trans hh
      refine v_aload_n 0 dX9_which_33 rfl rfl ?_
      refine r_RolledOut_trials dX9_which_34 fl_X9_33 ?_
      refine r_Trials_ways dX9_which_37 fl_X9_293 ?_
      obtain rfl := Option.some.inj hh
      exact v_iret dX9_which_40 rfl (Nat.zero_le _) (Nat.zero_le _) ⟨rfl, rfl⟩
    · replace hh := (if_neg c).symm.trans hh
      refine v_aload_n 0 dX9_which_23 rfl rfl ?_
      refine r_RolledOut_trials dX9_which_24 fl_X9_33 ?_
      obtain ⟨q3, eq3, hh⟩ := bnd_some hh
      refine v_callVi (t_X7_lowestFirst eq3) dX9_which_27 y_X7_lowestFirst ml_X9_290 (ci := 6) rfl rfl (e_Trials) rfl rfl (Nat.le_of_ble_eq_true rfl) ⟨(Nat.le_of_ble_eq_true rfl), (Nat.le_of_ble_eq_true rfl)⟩ ⟨Nat.zero_le _, Nat.zero_le _⟩ ?_
      refine v_goto (tgt := 40) dX9_which_30 (by decide) ?_
      obtain rfl := Option.some.inj hh
      exact v_iret dX9_which_40 rfl (Nat.zero_le _) (Nat.zero_le _) ⟨rfl, rfl⟩
  · replace hh := (if_pos c).symm.trans hh
    refine v_bipush dX9_which_8 (by decide : _ = (-2 : Int32)) ?_
    obtain rfl := Option.some.inj hh
    exact v_iret dX9_which_10 rfl (Nat.zero_le _) (Nat.zero_le _) ⟨rfl, rfl⟩
def f_X9_likely (N : Nat) (S : St) (x1 : Int32) (x2 : Int32) : Option (Int32 × St) :=
  bnd (f_X9_isHand S x1) fun q1 =>
 if q1 = (0 : Int32) then
  (some ((-1 : Int32), S))
  else
  (bnd (f_X7_tearingStrokes N S x1) fun q2 =>
 bnd (f_X3_commonPart N q2.2 q2.1 (24 : Int32)) fun q3 =>
 if x2 = (0 : Int32) then
  (chk (nz q3) (
  some (q2.1 / q3, q2.2)))
  else
  (chk (nz q3) (
  some ((24 : Int32) / q3, q2.2))))
set_option maxRecDepth 100000 in
set_option maxHeartbeats 4000000 in
theorem t_X9_likely {l : Launch} {G : v_G} {N : Nat} {S : St}   {x1 : Int32} {x2 : Int32} {r : Int32 × St} (hh : f_X9_likely N S x1 x2 = some r) : v_M l G yX9_likely cX9_likely 5 (some .int) 6 0 0 [.ref (v_B G + 0), .int x1, .int x2] (lay G S) (QI r.1 (lay G r.2)) := by
  refine v_entry (by decide) (Nat.le_of_ble_eq_true rfl) ?_
  unfold f_X9_likely at hh
  show V l G yX9_likely cX9_likely 5 (some .int) (v_rm 6 0 0) (QI r.1 (lay G r.2)) 0 0 0 [(0, .ref (v_B G + 0)), (1, .int x1), (2, .int x2)] [] (lay G S)
  refine v_aload_n 0 dX9_likely_0 rfl rfl ?_
  refine v_iload_n 1 dX9_likely_1 rfl rfl ?_
  obtain ⟨q1, eq1, hh⟩ := bnd_some hh
  refine v_callVi (t_X9_isHand eq1) dX9_likely_2 y_X9_isHand ml_X9_119 (ci := 8) rfl rfl (e_RolledOut) rfl rfl (Nat.le_of_ble_eq_true rfl) ⟨(Nat.le_of_ble_eq_true rfl), (Nat.le_of_ble_eq_true rfl)⟩ ⟨Nat.zero_le _, Nat.zero_le _⟩ ?_
  refine v_if_ne (tgt := 10) dX9_likely_5 (by decide) (fun c => ?_) (fun c => ?_)
  · replace hh := (if_neg c).symm.trans hh
    refine v_aload_n 0 dX9_likely_10 rfl rfl ?_
    refine r_RolledOut_trials dX9_likely_11 fl_X9_33 ?_
    refine v_iload_n 1 dX9_likely_14 rfl rfl ?_
    obtain ⟨q2, eq2, hh⟩ := bnd_some hh
    refine v_callVi (t_X7_tearingStrokes eq2) dX9_likely_15 y_X7_tearingStrokes ml_X9_296 (ci := 6) rfl rfl (e_Trials) rfl rfl (Nat.le_of_ble_eq_true rfl) ⟨(Nat.le_of_ble_eq_true rfl), (Nat.le_of_ble_eq_true rfl)⟩ ⟨Nat.zero_le _, Nat.zero_le _⟩ ?_
    refine v_istore_n dX9_likely_18 rfl (by decide) rfl ?_
    refine v_iload_n 0 dX9_likely_19 rfl rfl ?_
    refine v_bipush dX9_likely_20 (by decide : _ = (24 : Int32)) ?_
    obtain ⟨q3, eq3, hh⟩ := bnd_some hh
    refine v_callSi (t_X3_commonPart eq3) dX9_likely_22 y_X3_commonPart ml_X9_299 rfl rfl (Nat.le_of_ble_eq_true rfl) ⟨(Nat.le_of_ble_eq_true rfl), (Nat.le_of_ble_eq_true rfl)⟩ ⟨Nat.zero_le _, Nat.zero_le _⟩ ?_
    refine v_istore dX9_likely_25 (by decide) rfl ?_
    refine v_iload_n 4 dX9_likely_27 rfl rfl ?_
    refine v_if_eq (tgt := 36) dX9_likely_28 (by decide) (fun c => ?_) (fun c => ?_)
    · replace hh := (if_pos c).symm.trans hh
      refine v_iload_n 1 dX9_likely_36 rfl rfl ?_
      refine v_iload 0 dX9_likely_37 rfl ?_
      obtain ⟨g, hh⟩ := chk_some hh
      refine v_idiv dX9_likely_39 (nz_ne g) ?_
      obtain rfl := Option.some.inj hh
      exact v_iret dX9_likely_40 rfl (Nat.zero_le _) (Nat.zero_le _) ⟨rfl, rfl⟩
    · replace hh := (if_neg c).symm.trans hh
      refine v_bipush dX9_likely_31 (by decide : _ = (24 : Int32)) ?_
      refine v_goto (tgt := 37) dX9_likely_33 (by decide) ?_
      refine v_iload 0 dX9_likely_37 rfl ?_
      obtain ⟨g, hh⟩ := chk_some hh
      refine v_idiv dX9_likely_39 (nz_ne g) ?_
      obtain rfl := Option.some.inj hh
      exact v_iret dX9_likely_40 rfl (Nat.zero_le _) (Nat.zero_le _) ⟨rfl, rfl⟩
  · replace hh := (if_pos c).symm.trans hh
    refine v_iconst dX9_likely_8 (by decide : _ = (-1 : Int32)) ?_
    obtain rfl := Option.some.inj hh
    exact v_iret dX9_likely_9 rfl (Nat.zero_le _) (Nat.zero_le _) ⟨rfl, rfl⟩
def f_X9_thin (N : Nat) (S : St)  : Option (Int32) :=
  bnd (f_X3_leastCell N 0 S ) fun q1 =>
 some q1
set_option maxRecDepth 100000 in
set_option maxHeartbeats 4000000 in
theorem t_X9_thin {l : Launch} {G : v_G} {N : Nat} {S : St}    {r : Int32} (hh : f_X9_thin N S  = some r) : v_M l G yX9_thin cX9_thin 1 (some .int) 1 0 0 [.ref (v_B G + 0)] (lay G S) (QI r (lay G S)) := by
  refine v_entry (by decide) (Nat.le_of_ble_eq_true rfl) ?_
  unfold f_X9_thin at hh
  show V l G yX9_thin cX9_thin 1 (some .int) (v_rm 1 0 0) (QI r (lay G S)) 0 0 0 [(0, .ref (v_B G + 0))] [] (lay G S)
  refine v_aload_n 0 dX9_thin_0 rfl rfl ?_
  refine r_RolledOut_now dX9_thin_1 fl_X9_12 ?_
  refine r_World_sheet (by decide) dX9_thin_4 fl_X9_122 ?_
  refine r_Sheet_cells (by decide) dX9_thin_7 fl_X9_126 ?_
  obtain ⟨q1, eq1, hh⟩ := bnd_some hh
  refine v_callSi (t_X3_leastCell (by decide) eq1) dX9_thin_10 y_X3_leastCell ml_X9_302 rfl rfl (Nat.le_of_ble_eq_true rfl) ⟨(Nat.le_of_ble_eq_true rfl), (Nat.le_of_ble_eq_true rfl)⟩ ⟨Nat.zero_le _, Nat.zero_le _⟩ ?_
  obtain rfl := Option.some.inj hh
  exact v_iret dX9_thin_13 rfl (Nat.zero_le _) (Nat.zero_le _) ⟨rfl, rfl⟩
def f_X9_thick (N : Nat) (S : St)  : Option (Int32) :=
  bnd (f_X3_mostCell N 0 S ) fun q1 =>
 some q1
set_option maxRecDepth 100000 in
set_option maxHeartbeats 4000000 in
theorem t_X9_thick {l : Launch} {G : v_G} {N : Nat} {S : St}    {r : Int32} (hh : f_X9_thick N S  = some r) : v_M l G yX9_thick cX9_thick 1 (some .int) 1 0 0 [.ref (v_B G + 0)] (lay G S) (QI r (lay G S)) := by
  refine v_entry (by decide) (Nat.le_of_ble_eq_true rfl) ?_
  unfold f_X9_thick at hh
  show V l G yX9_thick cX9_thick 1 (some .int) (v_rm 1 0 0) (QI r (lay G S)) 0 0 0 [(0, .ref (v_B G + 0))] [] (lay G S)
  refine v_aload_n 0 dX9_thick_0 rfl rfl ?_
  refine r_RolledOut_now dX9_thick_1 fl_X9_12 ?_
  refine r_World_sheet (by decide) dX9_thick_4 fl_X9_122 ?_
  refine r_Sheet_cells (by decide) dX9_thick_7 fl_X9_126 ?_
  obtain ⟨q1, eq1, hh⟩ := bnd_some hh
  refine v_callSi (t_X3_mostCell (by decide) eq1) dX9_thick_10 y_X3_mostCell ml_X9_305 rfl rfl (Nat.le_of_ble_eq_true rfl) ⟨(Nat.le_of_ble_eq_true rfl), (Nat.le_of_ble_eq_true rfl)⟩ ⟨Nat.zero_le _, Nat.zero_le _⟩ ?_
  obtain rfl := Option.some.inj hh
  exact v_iret dX9_thick_13 rfl (Nat.zero_le _) (Nat.zero_le _) ⟨rfl, rfl⟩
def f_X9_apart (N : Nat) (S : St)  : Option (Int32) :=
  bnd (f_X4_nearestTowns N 0 S ) fun q1 =>
 some q1
set_option maxRecDepth 100000 in
set_option maxHeartbeats 4000000 in
theorem t_X9_apart {l : Launch} {G : v_G} {N : Nat} {S : St}    {r : Int32} (hh : f_X9_apart N S  = some r) : v_M l G yX9_apart cX9_apart 1 (some .int) 2 0 0 [.ref (v_B G + 0)] (lay G S) (QI r (lay G S)) := by
  refine v_entry (by decide) (Nat.le_of_ble_eq_true rfl) ?_
  unfold f_X9_apart at hh
  show V l G yX9_apart cX9_apart 1 (some .int) (v_rm 2 0 0) (QI r (lay G S)) 0 0 0 [(0, .ref (v_B G + 0))] [] (lay G S)
  refine v_aload_n 0 dX9_apart_0 rfl rfl ?_
  refine r_RolledOut_now dX9_apart_1 fl_X9_12 ?_
  refine r_World_sheet (by decide) dX9_apart_4 fl_X9_122 ?_
  obtain ⟨q1, eq1, hh⟩ := bnd_some hh
  refine v_callVi (t_X4_nearestTowns (by decide) eq1) dX9_apart_7 y_X4_nearestTowns ml_X9_308 (ci := 3) rfl rfl (e_Sheet (by decide)) rfl rfl (Nat.le_of_ble_eq_true rfl) ⟨(Nat.le_of_ble_eq_true rfl), (Nat.le_of_ble_eq_true rfl)⟩ ⟨Nat.zero_le _, Nat.zero_le _⟩ ?_
  obtain rfl := Option.some.inj hh
  exact v_iret dX9_apart_10 rfl (Nat.zero_le _) (Nat.zero_le _) ⟨rfl, rfl⟩
def f_X9_fallen (N : Nat) (S : St)  : Option (Int32) :=
  bnd (f_X4_townsIn N 0 S (-1 : Int32)) fun q1 =>
 some q1
set_option maxRecDepth 100000 in
set_option maxHeartbeats 4000000 in
theorem t_X9_fallen {l : Launch} {G : v_G} {N : Nat} {S : St}    {r : Int32} (hh : f_X9_fallen N S  = some r) : v_M l G yX9_fallen cX9_fallen 1 (some .int) 1 0 0 [.ref (v_B G + 0)] (lay G S) (QI r (lay G S)) := by
  refine v_entry (by decide) (Nat.le_of_ble_eq_true rfl) ?_
  unfold f_X9_fallen at hh
  show V l G yX9_fallen cX9_fallen 1 (some .int) (v_rm 1 0 0) (QI r (lay G S)) 0 0 0 [(0, .ref (v_B G + 0))] [] (lay G S)
  refine v_aload_n 0 dX9_fallen_0 rfl rfl ?_
  refine r_RolledOut_now dX9_fallen_1 fl_X9_12 ?_
  refine r_World_sheet (by decide) dX9_fallen_4 fl_X9_122 ?_
  refine v_iconst dX9_fallen_7 (by decide : _ = (-1 : Int32)) ?_
  obtain ⟨q1, eq1, hh⟩ := bnd_some hh
  refine v_callVi (t_X4_townsIn (by decide) eq1) dX9_fallen_8 y_X4_townsIn ml_X9_186 (ci := 3) rfl rfl (e_Sheet (by decide)) rfl rfl (Nat.le_of_ble_eq_true rfl) ⟨(Nat.le_of_ble_eq_true rfl), (Nat.le_of_ble_eq_true rfl)⟩ ⟨Nat.zero_le _, Nat.zero_le _⟩ ?_
  obtain rfl := Option.some.inj hh
  exact v_iret dX9_fallen_11 rfl (Nat.zero_le _) (Nat.zero_le _) ⟨rfl, rfl⟩
def f_X9_said_b46  (x1 : Int32) (x2 : Int32) (x3 : Int32) (s0 : Int32) (S : St) : Option (Int32 × St) :=
  if s0 = (0 : Int32) then
  (some ((-2 : Int32), S))
  else
  (if (gI S 811 0 0) < (8 : Int32) then
  (bnd (f_X8_tellSaid 0 S x1 x2 x3) fun q2 =>
 some (gI q2 811 0 0, q2))
  else
  (some ((-2 : Int32), S)))
set_option maxRecDepth 100000 in
set_option maxHeartbeats 4000000 in
theorem tb_X9_said_46 {l : Launch} {G : v_G}    {r : Int32 × St}   : ∀ (x1 : Int32) (x2 : Int32) (x3 : Int32) (s0 : Int32) (S : St),  f_X9_said_b46  x1 x2 x3 s0 S = some r → V l G yX9_said cX9_said 5 (some .int) (v_rm 1 0 0) (QI r.1 (lay G r.2)) 0 0 46 [(0, .ref (v_B G + 0)), (1, .int x1), (2, .int x2), (3, .int x3)] [.int s0] (lay G S) := by
  intro x1 x2 x3 s0 S  hh
  unfold f_X9_said_b46 at hh
  refine v_istore dX9_said_46 (by decide) rfl ?_
  refine v_iload 0 dX9_said_48 rfl ?_
  refine v_if_eq (tgt := 65) dX9_said_50 (by decide) (fun c => ?_) (fun c => ?_)
  · replace hh := (if_pos c).symm.trans hh
    refine v_bipush dX9_said_65 (by decide : _ = (-2 : Int32)) ?_
    obtain rfl := Option.some.inj hh
    exact v_iret dX9_said_67 rfl (Nat.zero_le _) (Nat.zero_le _) ⟨rfl, rfl⟩
  · replace hh := (if_neg c).symm.trans hh
    refine v_aload_n 1 dX9_said_53 rfl rfl ?_
    refine r_RolledOut_now dX9_said_54 fl_X9_12 ?_
    refine r_World_saidCount (by decide) dX9_said_57 fl_X9_311 ?_
    refine v_bipush dX9_said_60 (by decide : _ = (8 : Int32)) ?_
    refine v_icmp_lt (tgt := 68) dX9_said_62 (by decide) (fun c => ?_) (fun c => ?_)
    · replace hh := (if_pos c).symm.trans hh
      refine v_aload_n 1 dX9_said_68 rfl rfl ?_
      refine r_RolledOut_now dX9_said_69 fl_X9_12 ?_
      refine v_iload_n 2 dX9_said_72 rfl rfl ?_
      refine v_iload_n 3 dX9_said_73 rfl rfl ?_
      refine v_iload_n 4 dX9_said_74 rfl rfl ?_
      obtain ⟨q2, eq2, hh⟩ := bnd_some hh
      refine v_callVv (t_X8_tellSaid (by decide) eq2) dX9_said_75 y_X8_tellSaid ml_X9_314 (ci := 7) rfl rfl (e_World (by decide)) rfl rfl (Nat.le_of_ble_eq_true rfl) ⟨(Nat.le_of_ble_eq_true rfl), (Nat.le_of_ble_eq_true rfl)⟩ ⟨Nat.zero_le _, Nat.zero_le _⟩ ?_
      refine v_aload_n 1 dX9_said_78 rfl rfl ?_
      refine r_RolledOut_now dX9_said_79 fl_X9_12 ?_
      refine r_World_saidCount (by decide) dX9_said_82 fl_X9_311 ?_
      obtain rfl := Option.some.inj hh
      exact v_iret dX9_said_85 rfl (Nat.zero_le _) (Nat.zero_le _) ⟨rfl, rfl⟩
    · replace hh := (if_neg c).symm.trans hh
      refine v_bipush dX9_said_65 (by decide : _ = (-2 : Int32)) ?_
      obtain rfl := Option.some.inj hh
      exact v_iret dX9_said_67 rfl (Nat.zero_le _) (Nat.zero_le _) ⟨rfl, rfl⟩
def f_X9_said_b45  (x1 : Int32) (x2 : Int32) (x3 : Int32) (S : St) : Option (Int32 × St) :=
  f_X9_said_b46 x1 x2 x3 (0 : Int32) S
set_option maxRecDepth 100000 in
set_option maxHeartbeats 4000000 in
theorem tb_X9_said_45 {l : Launch} {G : v_G}    {r : Int32 × St}   : ∀ (x1 : Int32) (x2 : Int32) (x3 : Int32) (S : St),  f_X9_said_b45  x1 x2 x3 S = some r → V l G yX9_said cX9_said 5 (some .int) (v_rm 1 0 0) (QI r.1 (lay G r.2)) 0 0 45 [(0, .ref (v_B G + 0)), (1, .int x1), (2, .int x2), (3, .int x3)] [] (lay G S) := by
  intro x1 x2 x3 S  hh
  unfold f_X9_said_b45 at hh
  refine v_iconst dX9_said_45 (by decide : _ = (0 : Int32)) ?_
  exact v_sub [0, 1, 2, 3] rfl (tb_X9_said_46 _ _ _ _ _ hh)
def f_X9_said  (S : St) (x1 : Int32) (x2 : Int32) (x3 : Int32) : Option (Int32 × St) :=
  if x1 = (-1 : Int32) then
  (lt (sI S 811 0 0 (0 : Int32)) fun S4 =>
  some ((0 : Int32), S4))
  else
  (bnd (f_X9_isHand S x1) fun q1 =>
 if q1 = (0 : Int32) then
  (f_X9_said_b45 x1 x2 x3 S)
  else
  (bnd (f_X9_isCell S x2) fun q3 =>
 if q3 = (0 : Int32) then
  (f_X9_said_b45 x1 x2 x3 S)
  else
  (if x3 < (0 : Int32) then
  (f_X9_said_b45 x1 x2 x3 S)
  else
  (if (9999 : Int32) < x3 then
  (f_X9_said_b45 x1 x2 x3 S)
  else
  (f_X9_said_b46 x1 x2 x3 (1 : Int32) S)))))
set_option maxRecDepth 100000 in
set_option maxHeartbeats 4000000 in
theorem t_X9_said {l : Launch} {G : v_G} {S : St}   {x1 : Int32} {x2 : Int32} {x3 : Int32} {r : Int32 × St} (hh : f_X9_said  S x1 x2 x3 = some r) : v_M l G yX9_said cX9_said 5 (some .int) 1 0 0 [.ref (v_B G + 0), .int x1, .int x2, .int x3] (lay G S) (QI r.1 (lay G r.2)) := by
  refine v_entry (by decide) (Nat.le_of_ble_eq_true rfl) ?_
  unfold f_X9_said at hh
  show V l G yX9_said cX9_said 5 (some .int) (v_rm 1 0 0) (QI r.1 (lay G r.2)) 0 0 0 [(0, .ref (v_B G + 0)), (1, .int x1), (2, .int x2), (3, .int x3)] [] (lay G S)
  refine v_iload_n 1 dX9_said_0 rfl rfl ?_
  refine v_iconst dX9_said_1 (by decide : _ = (-1 : Int32)) ?_
  refine v_icmp_ne (tgt := 15) dX9_said_2 (by decide) (fun c => ?_) (fun c => ?_)
  · replace hh := (if_neg c).symm.trans hh
    refine v_aload_n 0 dX9_said_15 rfl rfl ?_
    refine v_iload_n 1 dX9_said_16 rfl rfl ?_
    obtain ⟨q1, eq1, hh⟩ := bnd_some hh
    refine v_callVi (t_X9_isHand eq1) dX9_said_17 y_X9_isHand ml_X9_119 (ci := 8) rfl rfl (e_RolledOut) rfl rfl (Nat.le_of_ble_eq_true rfl) ⟨(Nat.le_of_ble_eq_true rfl), (Nat.le_of_ble_eq_true rfl)⟩ ⟨Nat.zero_le _, Nat.zero_le _⟩ ?_
    refine v_if_eq (tgt := 45) dX9_said_20 (by decide) (fun c => ?_) (fun c => ?_)
    · replace hh := (if_pos c).symm.trans hh
      exact v_sub [0, 1, 2, 3] rfl (tb_X9_said_45 _ _ _ _ hh)
    · replace hh := (if_neg c).symm.trans hh
      refine v_iload_n 2 dX9_said_23 rfl rfl ?_
      obtain ⟨q3, eq3, hh⟩ := bnd_some hh
      refine v_callSi (t_X9_isCell eq3) dX9_said_24 y_X9_isCell ml_X9_68 rfl rfl (Nat.le_of_ble_eq_true rfl) ⟨(Nat.le_of_ble_eq_true rfl), (Nat.le_of_ble_eq_true rfl)⟩ ⟨Nat.zero_le _, Nat.zero_le _⟩ ?_
      refine v_if_eq (tgt := 45) dX9_said_27 (by decide) (fun c => ?_) (fun c => ?_)
      · replace hh := (if_pos c).symm.trans hh
        exact v_sub [0, 1, 2, 3] rfl (tb_X9_said_45 _ _ _ _ hh)
      · replace hh := (if_neg c).symm.trans hh
        refine v_iload_n 3 dX9_said_30 rfl rfl ?_
        refine v_if_lt (tgt := 45) dX9_said_31 (by decide) (fun c => ?_) (fun c => ?_)
        · replace hh := (if_pos c).symm.trans hh
          exact v_sub [0, 1, 2, 3] rfl (tb_X9_said_45 _ _ _ _ hh)
        · replace hh := (if_neg c).symm.trans hh
          refine v_iload_n 3 dX9_said_34 rfl rfl ?_
          refine v_sipush dX9_said_35 (by decide : _ = (9999 : Int32)) ?_
          refine v_icmp_gt (tgt := 45) dX9_said_38 (by decide) (fun c => ?_) (fun c => ?_)
          · replace hh := (if_pos c).symm.trans hh
            exact v_sub [0, 1, 2, 3] rfl (tb_X9_said_45 _ _ _ _ hh)
          · replace hh := (if_neg c).symm.trans hh
            refine v_iconst dX9_said_41 (by decide : _ = (1 : Int32)) ?_
            refine v_goto (tgt := 46) dX9_said_42 (by decide) ?_
            exact v_sub [0, 1, 2, 3] rfl (tb_X9_said_46 _ _ _ _ _ hh)
  · replace hh := (if_pos c).symm.trans hh
    refine v_aload_n 0 dX9_said_5 rfl rfl ?_
    refine r_RolledOut_now dX9_said_6 fl_X9_12 ?_
    refine v_iconst dX9_said_9 (by decide : _ = (0 : Int32)) ?_
    refine w_World_saidCount (by decide) dX9_said_10 fl_X9_311 ?_
    replace hh := lt_of hh
    refine v_iconst dX9_said_13 (by decide : _ = (0 : Int32)) ?_
    obtain rfl := Option.some.inj hh
    exact v_iret dX9_said_14 rfl (Nat.zero_le _) (Nat.zero_le _) ⟨rfl, rfl⟩
def f_X9_whose_b4 (N : Nat) : Nat → Int32 → Int32 → St → Option (Int32 × St)
  | 0, _, _, _ => none
  | n + 1, x1, x2, S =>
  if (gI S 808 0 0) ≤ x2 then
  (some (x1, S))
  else
  (bnd (f_X2_isLawOfAllSaid N S x2) fun q1 =>
 if q1.1 = (0 : Int32) then
  (lt (x2 + (1 : Int32)) fun v2 =>
  f_X9_whose_b4 N n x1 v2 q1.2)
  else
  (lt (x1 ||| ((1 : Int32) <<< (x2 &&& 31))) fun v3 =>
  lt (x2 + (1 : Int32)) fun v4 =>
  f_X9_whose_b4 N n v3 v4 q1.2))
set_option maxRecDepth 100000 in
set_option maxHeartbeats 4000000 in
theorem tb_X9_whose_4 {l : Launch} {G : v_G} {N : Nat}    {r : Int32 × St}   : ∀ (n : Nat) (x1 : Int32) (x2 : Int32) (S : St),  f_X9_whose_b4 N n x1 x2 S = some r → V l G yX9_whose cX9_whose 3 (some .int) (v_rm 4 0 0) (QI r.1 (lay G r.2)) 0 0 4 [(0, .ref (v_B G + 0)), (1, .int x1), (2, .int x2)] [] (lay G S) := by
  intro n
  induction n with
  | zero =>
    intro x1 x2 S  hh
    rw [f_X9_whose_b4] at hh
    cases hh
  | succ n ih =>
    intro x1 x2 S  hh
    rw [f_X9_whose_b4] at hh
    refine v_iload_n 2 dX9_whose_4 rfl rfl ?_
    refine v_aload_n 0 dX9_whose_5 rfl rfl ?_
    refine r_RolledOut_now dX9_whose_6 fl_X9_12 ?_
    refine r_World_textCount (by decide) dX9_whose_9 fl_X9_92 ?_
    refine v_icmp_ge (tgt := 38) dX9_whose_12 (by decide) (fun c => ?_) (fun c => ?_)
    · replace hh := (if_pos c).symm.trans hh
      refine v_iload_n 1 dX9_whose_38 rfl rfl ?_
      obtain rfl := Option.some.inj hh
      exact v_iret dX9_whose_39 rfl (Nat.zero_le _) (Nat.zero_le _) ⟨rfl, rfl⟩
    · replace hh := (if_neg c).symm.trans hh
      refine v_aload_n 0 dX9_whose_15 rfl rfl ?_
      refine r_RolledOut_rules dX9_whose_16 fl_X9_24 ?_
      refine v_iload_n 2 dX9_whose_19 rfl rfl ?_
      obtain ⟨q1, eq1, hh⟩ := bnd_some hh
      refine v_callVi (t_X2_isLawOfAllSaid eq1) dX9_whose_20 y_X2_isLawOfAllSaid ml_X9_318 (ci := 1) rfl rfl (e_Rules) rfl rfl (Nat.le_of_ble_eq_true rfl) ⟨(Nat.le_of_ble_eq_true rfl), (Nat.le_of_ble_eq_true rfl)⟩ ⟨Nat.zero_le _, Nat.zero_le _⟩ ?_
      refine v_if_eq (tgt := 32) dX9_whose_23 (by decide) (fun c => ?_) (fun c => ?_)
      · replace hh := (if_pos c).symm.trans hh
        refine v_iinc (v := _ + (1 : Int32)) 2 dX9_whose_32 rfl rfl (by decide) rfl ?_
        replace hh := lt_of hh
        refine v_goto (tgt := 4) dX9_whose_35 (by decide) ?_
        exact v_sub [1, 2, 0] rfl (ih _ _ _ hh)
      · replace hh := (if_neg c).symm.trans hh
        refine v_iload_n 1 dX9_whose_26 rfl rfl ?_
        refine v_iconst dX9_whose_27 (by decide : _ = (1 : Int32)) ?_
        refine v_iload_n 2 dX9_whose_28 rfl rfl ?_
        refine v_ishl dX9_whose_29 ?_
        refine v_ior dX9_whose_30 ?_
        refine v_istore_n dX9_whose_31 rfl (by decide) rfl ?_
        replace hh := lt_of hh
        refine v_iinc (v := _ + (1 : Int32)) 2 dX9_whose_32 rfl rfl (by decide) rfl ?_
        replace hh := lt_of hh
        refine v_goto (tgt := 4) dX9_whose_35 (by decide) ?_
        exact v_sub [2, 1, 0] rfl (ih _ _ _ hh)
def f_X9_whose (N : Nat) (S : St)  : Option (Int32 × St) :=
  f_X9_whose_b4 N N (0 : Int32) (0 : Int32) S
set_option maxRecDepth 100000 in
set_option maxHeartbeats 4000000 in
theorem t_X9_whose {l : Launch} {G : v_G} {N : Nat} {S : St}    {r : Int32 × St} (hh : f_X9_whose N S  = some r) : v_M l G yX9_whose cX9_whose 3 (some .int) 4 0 0 [.ref (v_B G + 0)] (lay G S) (QI r.1 (lay G r.2)) := by
  refine v_entry (by decide) (Nat.le_of_ble_eq_true rfl) ?_
  unfold f_X9_whose at hh
  show V l G yX9_whose cX9_whose 3 (some .int) (v_rm 4 0 0) (QI r.1 (lay G r.2)) 0 0 0 [(0, .ref (v_B G + 0))] [] (lay G S)
  refine v_iconst dX9_whose_0 (by decide : _ = (0 : Int32)) ?_
  refine v_istore_n dX9_whose_1 rfl (by decide) rfl ?_
  refine v_iconst dX9_whose_2 (by decide : _ = (0 : Int32)) ?_
  refine v_istore_n dX9_whose_3 rfl (by decide) rfl ?_
  exact v_sub [2, 1, 0] rfl (tb_X9_whose_4 N _ _ _ hh)
def f_X9_ledger_b13 (N : Nat) (x1 : Int32) (S : St) : Option (Int32) :=
  bnd (f_X4_movedBy N 0 S x1) fun q1 =>
 some q1
set_option maxRecDepth 100000 in
set_option maxHeartbeats 4000000 in
theorem tb_X9_ledger_13 {l : Launch} {G : v_G} {N : Nat}    {r : Int32} {S0 : St}   : ∀ (x1 : Int32) (S : St),  S = S0 → f_X9_ledger_b13 N x1 S = some r → V l G yX9_ledger cX9_ledger 2 (some .int) (v_rm 4 0 0) (QI r (lay G S0)) 0 0 13 [(0, .ref (v_B G + 0)), (1, .int x1)] [] (lay G S) := by
  intro x1 S  hS0 hh
  unfold f_X9_ledger_b13 at hh
  refine v_aload_n 0 dX9_ledger_13 rfl rfl ?_
  refine r_RolledOut_now dX9_ledger_14 fl_X9_12 ?_
  refine r_World_sheet (by decide) dX9_ledger_17 fl_X9_122 ?_
  refine v_iload_n 1 dX9_ledger_20 rfl rfl ?_
  obtain ⟨q1, eq1, hh⟩ := bnd_some hh
  refine v_callVi (t_X4_movedBy (by decide) eq1) dX9_ledger_21 y_X4_movedBy ml_X9_321 (ci := 3) rfl rfl (e_Sheet (by decide)) rfl rfl (Nat.le_of_ble_eq_true rfl) ⟨(Nat.le_of_ble_eq_true rfl), (Nat.le_of_ble_eq_true rfl)⟩ ⟨Nat.zero_le _, Nat.zero_le _⟩ ?_
  refine v_goto (tgt := 29) dX9_ledger_24 (by decide) ?_
  obtain rfl := Option.some.inj hh
  exact v_iret dX9_ledger_29 rfl (Nat.zero_le _) (Nat.zero_le _) ⟨rfl, by rw [hS0]⟩
def f_X9_ledger (N : Nat) (S : St) (x1 : Int32) : Option (Int32) :=
  if x1 = (-1 : Int32) then
  (f_X9_ledger_b13 N x1 S)
  else
  (bnd (f_X9_isHand S x1) fun q2 =>
 if q2 = (0 : Int32) then
  (some (-2 : Int32))
  else
  (f_X9_ledger_b13 N x1 S))
set_option maxRecDepth 100000 in
set_option maxHeartbeats 4000000 in
theorem t_X9_ledger {l : Launch} {G : v_G} {N : Nat} {S : St}   {x1 : Int32} {r : Int32} (hh : f_X9_ledger N S x1 = some r) : v_M l G yX9_ledger cX9_ledger 2 (some .int) 4 0 0 [.ref (v_B G + 0), .int x1] (lay G S) (QI r (lay G S)) := by
  refine v_entry (by decide) (Nat.le_of_ble_eq_true rfl) ?_
  unfold f_X9_ledger at hh
  show V l G yX9_ledger cX9_ledger 2 (some .int) (v_rm 4 0 0) (QI r (lay G S)) 0 0 0 [(0, .ref (v_B G + 0)), (1, .int x1)] [] (lay G S)
  refine v_iload_n 1 dX9_ledger_0 rfl rfl ?_
  refine v_iconst dX9_ledger_1 (by decide : _ = (-1 : Int32)) ?_
  refine v_icmp_eq (tgt := 13) dX9_ledger_2 (by decide) (fun c => ?_) (fun c => ?_)
  · replace hh := (if_pos c).symm.trans hh
    exact v_sub [0, 1] rfl (tb_X9_ledger_13 _ _ rfl hh)
  · replace hh := (if_neg c).symm.trans hh
    refine v_aload_n 0 dX9_ledger_5 rfl rfl ?_
    refine v_iload_n 1 dX9_ledger_6 rfl rfl ?_
    obtain ⟨q2, eq2, hh⟩ := bnd_some hh
    refine v_callVi (t_X9_isHand eq2) dX9_ledger_7 y_X9_isHand ml_X9_119 (ci := 8) rfl rfl (e_RolledOut) rfl rfl (Nat.le_of_ble_eq_true rfl) ⟨(Nat.le_of_ble_eq_true rfl), (Nat.le_of_ble_eq_true rfl)⟩ ⟨Nat.zero_le _, Nat.zero_le _⟩ ?_
    refine v_if_eq (tgt := 27) dX9_ledger_10 (by decide) (fun c => ?_) (fun c => ?_)
    · replace hh := (if_pos c).symm.trans hh
      refine v_bipush dX9_ledger_27 (by decide : _ = (-2 : Int32)) ?_
      obtain rfl := Option.some.inj hh
      exact v_iret dX9_ledger_29 rfl (Nat.zero_le _) (Nat.zero_le _) ⟨rfl, rfl⟩
    · replace hh := (if_neg c).symm.trans hh
      exact v_sub [0, 1] rfl (tb_X9_ledger_13 _ _ rfl hh)
def f_X9_image (N : Nat) (S : St)  : Option (Int32 × St) :=
  bnd (f_X8_becomes N 1 0 S ) fun q1 =>
 some (gI q1 407 0 0, q1)
set_option maxRecDepth 100000 in
set_option maxHeartbeats 4000000 in
theorem t_X9_image {l : Launch} {G : v_G} {N : Nat} {S : St}    {r : Int32 × St} (hh : f_X9_image N S  = some r) : v_M l G yX9_image cX9_image 1 (some .int) 4 0 0 [.ref (v_B G + 0)] (lay G S) (QI r.1 (lay G r.2)) := by
  refine v_entry (by decide) (Nat.le_of_ble_eq_true rfl) ?_
  unfold f_X9_image at hh
  show V l G yX9_image cX9_image 1 (some .int) (v_rm 4 0 0) (QI r.1 (lay G r.2)) 0 0 0 [(0, .ref (v_B G + 0))] [] (lay G S)
  refine v_aload_n 0 dX9_image_0 rfl rfl ?_
  refine r_RolledOut_kept dX9_image_1 fl_X9_16 ?_
  refine v_aload_n 0 dX9_image_4 rfl rfl ?_
  refine r_RolledOut_now dX9_image_5 fl_X9_12 ?_
  obtain ⟨q1, eq1, hh⟩ := bnd_some hh
  refine v_callVv (t_X8_becomes (by decide) (by decide) eq1) dX9_image_8 y_X8_becomes ml_X9_324 (ci := 7) rfl rfl (e_World (by decide)) rfl rfl (Nat.le_of_ble_eq_true rfl) ⟨(Nat.le_of_ble_eq_true rfl), (Nat.le_of_ble_eq_true rfl)⟩ ⟨Nat.zero_le _, Nat.zero_le _⟩ ?_
  refine v_aload_n 0 dX9_image_11 rfl rfl ?_
  refine r_RolledOut_now dX9_image_12 fl_X9_12 ?_
  refine r_World_sheet (by decide) dX9_image_15 fl_X9_122 ?_
  refine r_Sheet_turn (by decide) dX9_image_18 fl_X9_151 ?_
  obtain rfl := Option.some.inj hh
  exact v_iret dX9_image_21 rfl (Nat.zero_le _) (Nat.zero_le _) ⟨rfl, rfl⟩
def f_X9_back (N : Nat) (S : St)  : Option (Int32 × St) :=
  bnd (f_X8_becomes N 0 1 S ) fun q1 =>
 some (gI q1 407 0 0, q1)
set_option maxRecDepth 100000 in
set_option maxHeartbeats 4000000 in
theorem t_X9_back {l : Launch} {G : v_G} {N : Nat} {S : St}    {r : Int32 × St} (hh : f_X9_back N S  = some r) : v_M l G yX9_back cX9_back 1 (some .int) 4 0 0 [.ref (v_B G + 0)] (lay G S) (QI r.1 (lay G r.2)) := by
  refine v_entry (by decide) (Nat.le_of_ble_eq_true rfl) ?_
  unfold f_X9_back at hh
  show V l G yX9_back cX9_back 1 (some .int) (v_rm 4 0 0) (QI r.1 (lay G r.2)) 0 0 0 [(0, .ref (v_B G + 0))] [] (lay G S)
  refine v_aload_n 0 dX9_back_0 rfl rfl ?_
  refine r_RolledOut_now dX9_back_1 fl_X9_12 ?_
  refine v_aload_n 0 dX9_back_4 rfl rfl ?_
  refine r_RolledOut_kept dX9_back_5 fl_X9_16 ?_
  obtain ⟨q1, eq1, hh⟩ := bnd_some hh
  refine v_callVv (t_X8_becomes (by decide) (by decide) eq1) dX9_back_8 y_X8_becomes ml_X9_324 (ci := 7) rfl rfl (e_World (by decide)) rfl rfl (Nat.le_of_ble_eq_true rfl) ⟨(Nat.le_of_ble_eq_true rfl), (Nat.le_of_ble_eq_true rfl)⟩ ⟨Nat.zero_le _, Nat.zero_le _⟩ ?_
  refine v_aload_n 0 dX9_back_11 rfl rfl ?_
  refine r_RolledOut_now dX9_back_12 fl_X9_12 ?_
  refine r_World_sheet (by decide) dX9_back_15 fl_X9_122 ?_
  refine r_Sheet_turn (by decide) dX9_back_18 fl_X9_151 ?_
  obtain rfl := Option.some.inj hh
  exact v_iret dX9_back_21 rfl (Nat.zero_le _) (Nat.zero_le _) ⟨rfl, rfl⟩
def f_X9_about  (S : St) (x1 : Int32) : Option (Int32) :=
  if x1 = (0 : Int32) then
  (some (gI S 805 0 0))
  else if x1 = (1 : Int32) then
  (some (gI S 806 0 0))
  else if x1 = (2 : Int32) then
  (some (gI S 808 0 0))
  else if x1 = (3 : Int32) then
  (some (gI S 809 0 0))
  else if x1 = (4 : Int32) then
  (some (gI S 803 0 0))
  else if x1 = (5 : Int32) then
  (some (gI S 811 0 0))
  else if x1 = (6 : Int32) then
  (some (gI S 501 0 0))
  else (some (-2 : Int32))
set_option maxRecDepth 100000 in
set_option maxHeartbeats 4000000 in
theorem t_X9_about {l : Launch} {G : v_G} {S : St}   {x1 : Int32} {r : Int32} (hh : f_X9_about  S x1 = some r) : v_M l G yX9_about cX9_about 2 (some .int) 0 0 0 [.ref (v_B G + 0), .int x1] (lay G S) (QI r (lay G S)) := by
  refine v_entry (by decide) (Nat.le_of_ble_eq_true rfl) ?_
  unfold f_X9_about at hh
  show V l G yX9_about cX9_about 2 (some .int) (v_rm 0 0 0) (QI r (lay G S)) 0 0 0 [(0, .ref (v_B G + 0)), (1, .int x1)] [] (lay G S)
  refine v_iload_n 1 dX9_about_0 rfl rfl ?_
  refine sw_if hh (fun c0 hh => ?_) (fun c0 hh => ?_)
  · skip
    refine v_tableIn (tgt := 44) dX9_about_1 (by rw [c0]; decide) (by rw [c0]; decide) (by rw [c0] <;> rfl) (by decide) ?_
    refine v_aload_n 0 dX9_about_44 rfl rfl ?_
    refine r_RolledOut_now dX9_about_45 fl_X9_12 ?_
    refine r_World_hands (by decide) dX9_about_48 fl_X9_60 ?_
    obtain rfl := Option.some.inj hh
    exact v_iret dX9_about_51 rfl (Nat.zero_le _) (Nat.zero_le _) ⟨rfl, rfl⟩
  · skip
    refine sw_if hh (fun c1 hh => ?_) (fun c1 hh => ?_)
    · skip
      refine v_tableIn (tgt := 52) dX9_about_1 (by rw [c1]; decide) (by rw [c1]; decide) (by rw [c1] <;> rfl) (by decide) ?_
      refine v_aload_n 0 dX9_about_52 rfl rfl ?_
      refine r_RolledOut_now dX9_about_53 fl_X9_12 ?_
      refine r_World_towns (by decide) dX9_about_56 fl_X9_76 ?_
      obtain rfl := Option.some.inj hh
      exact v_iret dX9_about_59 rfl (Nat.zero_le _) (Nat.zero_le _) ⟨rfl, rfl⟩
    · skip
      refine sw_if hh (fun c2 hh => ?_) (fun c2 hh => ?_)
      · skip
        refine v_tableIn (tgt := 60) dX9_about_1 (by rw [c2]; decide) (by rw [c2]; decide) (by rw [c2] <;> rfl) (by decide) ?_
        refine v_aload_n 0 dX9_about_60 rfl rfl ?_
        refine r_RolledOut_now dX9_about_61 fl_X9_12 ?_
        refine r_World_textCount (by decide) dX9_about_64 fl_X9_92 ?_
        obtain rfl := Option.some.inj hh
        exact v_iret dX9_about_67 rfl (Nat.zero_le _) (Nat.zero_le _) ⟨rfl, rfl⟩
      · skip
        refine sw_if hh (fun c3 hh => ?_) (fun c3 hh => ?_)
        · skip
          refine v_tableIn (tgt := 68) dX9_about_1 (by rw [c3]; decide) (by rw [c3]; decide) (by rw [c3] <;> rfl) (by decide) ?_
          refine v_aload_n 0 dX9_about_68 rfl rfl ?_
          refine r_RolledOut_now dX9_about_69 fl_X9_12 ?_
          refine r_World_law (by decide) dX9_about_72 fl_X9_116 ?_
          obtain rfl := Option.some.inj hh
          exact v_iret dX9_about_75 rfl (Nat.zero_le _) (Nat.zero_le _) ⟨rfl, rfl⟩
        · skip
          refine sw_if hh (fun c4 hh => ?_) (fun c4 hh => ?_)
          · skip
            refine v_tableIn (tgt := 76) dX9_about_1 (by rw [c4]; decide) (by rw [c4]; decide) (by rw [c4] <;> rfl) (by decide) ?_
            refine v_aload_n 0 dX9_about_76 rfl rfl ?_
            refine r_RolledOut_now dX9_about_77 fl_X9_12 ?_
            refine r_World_stepCount (by decide) dX9_about_80 fl_X9_327 ?_
            obtain rfl := Option.some.inj hh
            exact v_iret dX9_about_83 rfl (Nat.zero_le _) (Nat.zero_le _) ⟨rfl, rfl⟩
          · skip
            refine sw_if hh (fun c5 hh => ?_) (fun c5 hh => ?_)
            · skip
              refine v_tableIn (tgt := 84) dX9_about_1 (by rw [c5]; decide) (by rw [c5]; decide) (by rw [c5] <;> rfl) (by decide) ?_
              refine v_aload_n 0 dX9_about_84 rfl rfl ?_
              refine r_RolledOut_now dX9_about_85 fl_X9_12 ?_
              refine r_World_saidCount (by decide) dX9_about_88 fl_X9_311 ?_
              obtain rfl := Option.some.inj hh
              exact v_iret dX9_about_91 rfl (Nat.zero_le _) (Nat.zero_le _) ⟨rfl, rfl⟩
            · skip
              refine sw_if hh (fun c6 hh => ?_) (fun c6 hh => ?_)
              · skip
                refine v_tableIn (tgt := 92) dX9_about_1 (by rw [c6]; decide) (by rw [c6]; decide) (by rw [c6] <;> rfl) (by decide) ?_
                refine v_aload_n 0 dX9_about_92 rfl rfl ?_
                refine r_RolledOut_tape dX9_about_93 fl_X9_47 ?_
                refine r_Tape_length dX9_about_96 fl_X9_89 ?_
                obtain rfl := Option.some.inj hh
                exact v_iret dX9_about_99 rfl (Nat.zero_le _) (Nat.zero_le _) ⟨rfl, rfl⟩
              · skip
                refine v_tableOut (tgt := 100) dX9_about_1 (sw_out 7 (by decide) (fun k hk => match k, hk with | 0, _ => fun h => c0 (h.trans (by decide)) | 1, _ => fun h => c1 (h.trans (by decide)) | 2, _ => fun h => c2 (h.trans (by decide)) | 3, _ => fun h => c3 (h.trans (by decide)) | 4, _ => fun h => c4 (h.trans (by decide)) | 5, _ => fun h => c5 (h.trans (by decide)) | 6, _ => fun h => c6 (h.trans (by decide)) | k + 7, hk => absurd hk (by omega))) (by decide) ?_
                refine v_bipush dX9_about_100 (by decide : _ = (-2 : Int32)) ?_
                obtain rfl := Option.some.inj hh
                exact v_iret dX9_about_102 rfl (Nat.zero_le _) (Nat.zero_le _) ⟨rfl, rfl⟩
