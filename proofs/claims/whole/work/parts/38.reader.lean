def f_X1_faulty  (S : St) (x1 : Int32) : Option (Int32 × St) :=
  lt (sI S 102 0 0 x1) fun S1 =>
  chk (inb (gI S1 104 0 0) 301) (
  lt (sI S1 103 0 0 (gI S1 503 0 (gI S1 104 0 0).toNatClampNeg)) fun S3 =>
  some ((0 : Int32), S3))
set_option maxRecDepth 100000 in
set_option maxHeartbeats 4000000 in
theorem t_X1_faulty {l : Launch} {G : v_G} {S : St}   {x1 : Int32} {r : Int32 × St} (hh : f_X1_faulty  S x1 = some r) : v_M l G yX1_faulty cX1_faulty 2 (some .boolean) 0 0 0 [.ref (v_B G + 288), .int x1] (lay G S) (QI r.1 (lay G r.2)) := by
  refine v_entry (by decide) (Nat.le_of_ble_eq_true rfl) ?_
  unfold f_X1_faulty at hh
  show V l G yX1_faulty cX1_faulty 2 (some .boolean) (v_rm 0 0 0) (QI r.1 (lay G r.2)) 0 0 0 [(0, .ref (v_B G + 288)), (1, .int x1)] [] (lay G S)
  refine v_aload_n 0 dX1_faulty_0 rfl rfl ?_
  refine v_iload_n 1 dX1_faulty_1 rfl rfl ?_
  refine w_Reader_fault dX1_faulty_2 fl_X1_37 ?_
  replace hh := lt_of hh
  refine v_aload_n 0 dX1_faulty_5 rfl rfl ?_
  refine v_aload_n 0 dX1_faulty_6 rfl rfl ?_
  refine r_Reader_tape dX1_faulty_7 fl_X1_29 ?_
  refine r_Tape_places dX1_faulty_10 fl_X1_79 ?_
  refine v_aload_n 0 dX1_faulty_13 rfl rfl ?_
  refine r_Reader_at dX1_faulty_14 fl_X1_52 ?_
  obtain ⟨g2, hh⟩ := chk_some hh
  replace g2 := inb_in g2
  refine ld_places dX1_faulty_17 g2 ?_
  refine w_Reader_faultAt dX1_faulty_18 fl_X1_41 ?_
  replace hh := lt_of hh
  refine v_iconst dX1_faulty_21 (by decide : _ = (0 : Int32)) ?_
  obtain rfl := Option.some.inj hh
  exact v_zret dX1_faulty_22 rfl (zb (by decide)).1 (Nat.zero_le _) (Nat.zero_le _) ⟨rfl, rfl⟩
def f_X1_advance_b26   (S : St) : Option (St) :=
  chk (inb (gI S 104 0 0) 301) (
  lt (sI S 105 0 0 (gI S 502 0 (gI S 104 0 0).toNatClampNeg)) fun S2 =>
  some S2)
set_option maxRecDepth 100000 in
set_option maxHeartbeats 4000000 in
theorem tb_X1_advance_26 {l : Launch} {G : v_G}    {r : St}   : ∀  (S : St),  f_X1_advance_b26   S = some r → V l G yX1_advance cX1_advance 1 (none) (v_rm 0 0 0) (QV (lay G r)) 0 0 26 [(0, .ref (v_B G + 288))] [] (lay G S) := by
  intro  S  hh
  unfold f_X1_advance_b26 at hh
  refine v_aload_n 0 dX1_advance_26 rfl rfl ?_
  refine v_aload_n 0 dX1_advance_27 rfl rfl ?_
  refine r_Reader_tape dX1_advance_28 fl_X1_29 ?_
  refine r_Tape_kinds dX1_advance_31 fl_X1_55 ?_
  refine v_aload_n 0 dX1_advance_34 rfl rfl ?_
  refine r_Reader_at dX1_advance_35 fl_X1_52 ?_
  obtain ⟨g1, hh⟩ := chk_some hh
  replace g1 := inb_in g1
  refine ld_kinds dX1_advance_38 g1 ?_
  refine w_Reader_token dX1_advance_39 fl_X1_58 ?_
  replace hh := lt_of hh
  obtain rfl := Option.some.inj hh
  exact v_vret dX1_advance_42 rfl (Nat.zero_le _) (Nat.zero_le _) ⟨rfl, rfl⟩
def f_X1_advance  (S : St)  : Option (St) :=
  if (gI S 505 0 0) ≤ ((gI S 104 0 0) + (1 : Int32)) then
  (f_X1_advance_b26 S)
  else
  (lt (sI S 104 0 0 ((gI S 104 0 0) + (1 : Int32))) fun S3 =>
  f_X1_advance_b26 S3)
set_option maxRecDepth 100000 in
set_option maxHeartbeats 4000000 in
theorem t_X1_advance {l : Launch} {G : v_G} {S : St}    {r : St} (hh : f_X1_advance  S  = some r) : v_M l G yX1_advance cX1_advance 1 (none) 0 0 0 [.ref (v_B G + 288)] (lay G S) (QV (lay G r)) := by
  refine v_entry (by decide) (Nat.le_of_ble_eq_true rfl) ?_
  unfold f_X1_advance at hh
  show V l G yX1_advance cX1_advance 1 (none) (v_rm 0 0 0) (QV (lay G r)) 0 0 0 [(0, .ref (v_B G + 288))] [] (lay G S)
  refine v_aload_n 0 dX1_advance_0 rfl rfl ?_
  refine r_Reader_at dX1_advance_1 fl_X1_52 ?_
  refine v_iconst dX1_advance_4 (by decide : _ = (1 : Int32)) ?_
  refine v_iadd dX1_advance_5 ?_
  refine v_aload_n 0 dX1_advance_6 rfl rfl ?_
  refine r_Reader_tape dX1_advance_7 fl_X1_29 ?_
  refine r_Tape_tokens dX1_advance_10 fl_X1_82 ?_
  refine v_icmp_ge (tgt := 26) dX1_advance_13 (by decide) (fun c => ?_) (fun c => ?_)
  · replace hh := (if_pos c).symm.trans hh
    exact v_sub [0] rfl (tb_X1_advance_26 _ hh)
  · replace hh := (if_neg c).symm.trans hh
    refine v_aload_n 0 dX1_advance_16 rfl rfl ?_
    refine v_dup dX1_advance_17 rfl ?_
    refine r_Reader_at dX1_advance_18 fl_X1_52 ?_
    refine v_iconst dX1_advance_21 (by decide : _ = (1 : Int32)) ?_
    refine v_iadd dX1_advance_22 ?_
    refine w_Reader_at dX1_advance_23 fl_X1_52 ?_
    replace hh := lt_of hh
    exact v_sub [0] rfl (tb_X1_advance_26 _ hh)
def f_X1_takes  (S : St) (x1 : Int32) : Option (Int32 × St) :=
  if (gI S 105 0 0) = x1 then
  (bnd (f_X1_advance S ) fun q1 =>
 some ((1 : Int32), q1))
  else
  (bnd (f_X1_faulty S (1 : Int32)) fun q2 =>
 chk (isz q2.1) (some (q2.1, q2.2)))
set_option maxRecDepth 100000 in
set_option maxHeartbeats 4000000 in
theorem t_X1_takes {l : Launch} {G : v_G} {S : St}   {x1 : Int32} {r : Int32 × St} (hh : f_X1_takes  S x1 = some r) : v_M l G yX1_takes cX1_takes 2 (some .boolean) 1 0 0 [.ref (v_B G + 288), .int x1] (lay G S) (QI r.1 (lay G r.2)) := by
  refine v_entry (by decide) (Nat.le_of_ble_eq_true rfl) ?_
  unfold f_X1_takes at hh
  show V l G yX1_takes cX1_takes 2 (some .boolean) (v_rm 1 0 0) (QI r.1 (lay G r.2)) 0 0 0 [(0, .ref (v_B G + 288)), (1, .int x1)] [] (lay G S)
  refine v_aload_n 0 dX1_takes_0 rfl rfl ?_
  refine r_Reader_token dX1_takes_1 fl_X1_58 ?_
  refine v_iload_n 1 dX1_takes_4 rfl rfl ?_
  refine v_icmp_eq (tgt := 14) dX1_takes_5 (by decide) (fun c => ?_) (fun c => ?_)
  · replace hh := (if_pos c).symm.trans hh
    refine v_aload_n 0 dX1_takes_14 rfl rfl ?_
    obtain ⟨q1, eq1, hh⟩ := bnd_some hh
    refine v_callVv (t_X1_advance eq1) dX1_takes_15 y_X1_advance ml_X1_89 (ci := 0) rfl rfl (e_Reader) rfl rfl (Nat.le_of_ble_eq_true rfl) ⟨(Nat.le_of_ble_eq_true rfl), (Nat.le_of_ble_eq_true rfl)⟩ ⟨Nat.zero_le _, Nat.zero_le _⟩ ?_
    refine v_iconst dX1_takes_18 (by decide : _ = (1 : Int32)) ?_
    obtain rfl := Option.some.inj hh
    exact v_zret dX1_takes_19 rfl (zb (by decide)).1 (Nat.zero_le _) (Nat.zero_le _) ⟨rfl, rfl⟩
  · replace hh := (if_neg c).symm.trans hh
    refine v_aload_n 0 dX1_takes_8 rfl rfl ?_
    refine v_iconst dX1_takes_9 (by decide : _ = (1 : Int32)) ?_
    obtain ⟨q2, eq2, hh⟩ := bnd_some hh
    refine v_callVi (t_X1_faulty eq2) dX1_takes_10 y_X1_faulty ml_X1_85 (ci := 0) rfl rfl (e_Reader) rfl rfl (Nat.le_of_ble_eq_true rfl) ⟨(Nat.le_of_ble_eq_true rfl), (Nat.le_of_ble_eq_true rfl)⟩ ⟨Nat.zero_le _, Nat.zero_le _⟩ ?_
    obtain ⟨g, hh⟩ := chk_some hh
    obtain rfl := Option.some.inj hh
    exact v_zret dX1_takes_13 rfl (zb (isz_or g)).1 (Nat.zero_le _) (Nat.zero_le _) ⟨rfl, rfl⟩
def f_X1_readNumber_b47   (S : St) : Option (Int32 × St) :=
  bnd (f_X1_faulty S (2 : Int32)) fun q2 =>
 chk (isz q2.1) (some (q2.1, q2.2))
set_option maxRecDepth 100000 in
set_option maxHeartbeats 4000000 in
theorem tb_X1_readNumber_47 {l : Launch} {G : v_G}    {r : Int32 × St}   : ∀  (S : St),  f_X1_readNumber_b47   S = some r → V l G yX1_readNumber cX1_readNumber 4 (some .boolean) (v_rm 1 0 0) (QI r.1 (lay G r.2)) 0 0 47 [(0, .ref (v_B G + 288))] [] (lay G S) := by
  intro  S  hh
  unfold f_X1_readNumber_b47 at hh
  refine v_aload_n 0 dX1_readNumber_47 rfl rfl ?_
  refine v_iconst dX1_readNumber_48 (by decide : _ = (2 : Int32)) ?_
  obtain ⟨q2, eq2, hh⟩ := bnd_some hh
  refine v_callVi (t_X1_faulty eq2) dX1_readNumber_49 y_X1_faulty ml_X1_85 (ci := 0) rfl rfl (e_Reader) rfl rfl (Nat.le_of_ble_eq_true rfl) ⟨(Nat.le_of_ble_eq_true rfl), (Nat.le_of_ble_eq_true rfl)⟩ ⟨Nat.zero_le _, Nat.zero_le _⟩ ?_
  obtain ⟨g, hh⟩ := chk_some hh
  obtain rfl := Option.some.inj hh
  exact v_zret dX1_readNumber_52 rfl (zb (isz_or g)).1 (Nat.zero_le _) (Nat.zero_le _) ⟨rfl, rfl⟩
def f_X1_readNumber  (S : St) (x1 : Int32) (x2 : Int32) (x3 : Int32) : Option (Int32 × St) :=
  if (gI S 105 0 0) = (39 : Int32) then
  (chk (inb (gI S 104 0 0) 301) (
  if (gI S 504 0 (gI S 104 0 0).toNatClampNeg) < x2 then
  (f_X1_readNumber_b47 S)
  else
  (chk (inb (gI S 104 0 0) 301) (
  if (gI S 504 0 (gI S 104 0 0).toNatClampNeg) ≤ x3 then
  (chk (inb (gI S 104 0 0) 301) (
  chk (inb (((3 : Int32) * (gI S 107 0 0)) + x1) 72) (
  lt (sI S 106 0 ((((3 : Int32) * (gI S 107 0 0)) + x1).toNatClampNeg) (gI S 504 0 (gI S 104 0 0).toNatClampNeg)) fun S6 =>
  bnd (f_X1_advance S6 ) fun q7 =>
 some ((1 : Int32), q7))))
  else
  (f_X1_readNumber_b47 S)))))
  else
  (bnd (f_X1_faulty S (1 : Int32)) fun q8 =>
 chk (isz q8.1) (some (q8.1, q8.2)))
set_option maxRecDepth 100000 in
set_option maxHeartbeats 4000000 in
theorem t_X1_readNumber {l : Launch} {G : v_G} {S : St}   {x1 : Int32} {x2 : Int32} {x3 : Int32} {r : Int32 × St} (hh : f_X1_readNumber  S x1 x2 x3 = some r) : v_M l G yX1_readNumber cX1_readNumber 4 (some .boolean) 1 0 0 [.ref (v_B G + 288), .int x1, .int x2, .int x3] (lay G S) (QI r.1 (lay G r.2)) := by
  refine v_entry (by decide) (Nat.le_of_ble_eq_true rfl) ?_
  unfold f_X1_readNumber at hh
  show V l G yX1_readNumber cX1_readNumber 4 (some .boolean) (v_rm 1 0 0) (QI r.1 (lay G r.2)) 0 0 0 [(0, .ref (v_B G + 288)), (1, .int x1), (2, .int x2), (3, .int x3)] [] (lay G S)
  refine v_aload_n 0 dX1_readNumber_0 rfl rfl ?_
  refine r_Reader_token dX1_readNumber_1 fl_X1_58 ?_
  refine v_bipush dX1_readNumber_4 (by decide : _ = (39 : Int32)) ?_
  refine v_icmp_eq (tgt := 15) dX1_readNumber_6 (by decide) (fun c => ?_) (fun c => ?_)
  · replace hh := (if_pos c).symm.trans hh
    refine v_aload_n 0 dX1_readNumber_15 rfl rfl ?_
    refine r_Reader_tape dX1_readNumber_16 fl_X1_29 ?_
    refine r_Tape_numbers dX1_readNumber_19 fl_X1_105 ?_
    refine v_aload_n 0 dX1_readNumber_22 rfl rfl ?_
    refine r_Reader_at dX1_readNumber_23 fl_X1_52 ?_
    obtain ⟨g1, hh⟩ := chk_some hh
    replace g1 := inb_in g1
    refine ld_numbers dX1_readNumber_26 g1 ?_
    refine v_iload_n 2 dX1_readNumber_27 rfl rfl ?_
    refine v_icmp_lt (tgt := 47) dX1_readNumber_28 (by decide) (fun c => ?_) (fun c => ?_)
    · replace hh := (if_pos c).symm.trans hh
      exact v_sub [0] rfl (tb_X1_readNumber_47 _ hh)
    · replace hh := (if_neg c).symm.trans hh
      refine v_aload_n 0 dX1_readNumber_31 rfl rfl ?_
      refine r_Reader_tape dX1_readNumber_32 fl_X1_29 ?_
      refine r_Tape_numbers dX1_readNumber_35 fl_X1_105 ?_
      refine v_aload_n 0 dX1_readNumber_38 rfl rfl ?_
      refine r_Reader_at dX1_readNumber_39 fl_X1_52 ?_
      obtain ⟨g3, hh⟩ := chk_some hh
      replace g3 := inb_in g3
      refine ld_numbers dX1_readNumber_42 g3 ?_
      refine v_iload_n 3 dX1_readNumber_43 rfl rfl ?_
      refine v_icmp_le (tgt := 53) dX1_readNumber_44 (by decide) (fun c => ?_) (fun c => ?_)
      · replace hh := (if_pos c).symm.trans hh
        refine v_aload_n 0 dX1_readNumber_53 rfl rfl ?_
        refine r_Reader_clauses dX1_readNumber_54 fl_X1_11 ?_
        refine v_iconst dX1_readNumber_57 (by decide : _ = (3 : Int32)) ?_
        refine v_aload_n 0 dX1_readNumber_58 rfl rfl ?_
        refine r_Reader_clauseCount dX1_readNumber_59 fl_X1_44 ?_
        refine v_imul dX1_readNumber_62 ?_
        refine v_iload_n 1 dX1_readNumber_63 rfl rfl ?_
        refine v_iadd dX1_readNumber_64 ?_
        refine v_aload_n 0 dX1_readNumber_65 rfl rfl ?_
        refine r_Reader_tape dX1_readNumber_66 fl_X1_29 ?_
        refine r_Tape_numbers dX1_readNumber_69 fl_X1_105 ?_
        refine v_aload_n 0 dX1_readNumber_72 rfl rfl ?_
        refine r_Reader_at dX1_readNumber_73 fl_X1_52 ?_
        obtain ⟨g4, hh⟩ := chk_some hh
        replace g4 := inb_in g4
        refine ld_numbers dX1_readNumber_76 g4 ?_
        obtain ⟨g5, hh⟩ := chk_some hh
        replace g5 := inb_in g5
        refine st_clauses dX1_readNumber_77 g5 ?_
        replace hh := lt_of hh
        refine v_aload_n 0 dX1_readNumber_78 rfl rfl ?_
        obtain ⟨q7, eq7, hh⟩ := bnd_some hh
        refine v_callVv (t_X1_advance eq7) dX1_readNumber_79 y_X1_advance ml_X1_89 (ci := 0) rfl rfl (e_Reader) rfl rfl (Nat.le_of_ble_eq_true rfl) ⟨(Nat.le_of_ble_eq_true rfl), (Nat.le_of_ble_eq_true rfl)⟩ ⟨Nat.zero_le _, Nat.zero_le _⟩ ?_
        refine v_iconst dX1_readNumber_82 (by decide : _ = (1 : Int32)) ?_
        obtain rfl := Option.some.inj hh
        exact v_zret dX1_readNumber_83 rfl (zb (by decide)).1 (Nat.zero_le _) (Nat.zero_le _) ⟨rfl, rfl⟩
      · replace hh := (if_neg c).symm.trans hh
        exact v_sub [0] rfl (tb_X1_readNumber_47 _ hh)
  · replace hh := (if_neg c).symm.trans hh
    refine v_aload_n 0 dX1_readNumber_9 rfl rfl ?_
    refine v_iconst dX1_readNumber_10 (by decide : _ = (1 : Int32)) ?_
    obtain ⟨q8, eq8, hh⟩ := bnd_some hh
    refine v_callVi (t_X1_faulty eq8) dX1_readNumber_11 y_X1_faulty ml_X1_85 (ci := 0) rfl rfl (e_Reader) rfl rfl (Nat.le_of_ble_eq_true rfl) ⟨(Nat.le_of_ble_eq_true rfl), (Nat.le_of_ble_eq_true rfl)⟩ ⟨Nat.zero_le _, Nat.zero_le _⟩ ?_
    obtain ⟨g, hh⟩ := chk_some hh
    obtain rfl := Option.some.inj hh
    exact v_zret dX1_readNumber_14 rfl (zb (isz_or g)).1 (Nat.zero_le _) (Nat.zero_le _) ⟨rfl, rfl⟩
def f_X1_readDeed_b104   (S : St) : Option (Int32 × St) :=
  bnd (f_X1_readNumber S (1 : Int32) (0 : Int32) (11 : Int32)) fun q6 =>
 if q6.1 = (0 : Int32) then
  (some ((0 : Int32), q6.2))
  else
  (bnd (f_X1_takes q6.2 (11 : Int32)) fun q7 =>
 if q7.1 = (0 : Int32) then
  (some ((0 : Int32), q7.2))
  else
  (bnd (f_X1_readNumber q7.2 (2 : Int32) (0 : Int32) (3 : Int32)) fun q8 =>
 if q8.1 = (0 : Int32) then
  (some ((0 : Int32), q8.2))
  else
  (some ((1 : Int32), q8.2))))
set_option maxRecDepth 100000 in
set_option maxHeartbeats 4000000 in
theorem tb_X1_readDeed_104 {l : Launch} {G : v_G}    {r : Int32 × St}   : ∀  (S : St),  f_X1_readDeed_b104   S = some r → V l G yX1_readDeed cX1_readDeed 2 (some .boolean) (v_rm 2 0 0) (QI r.1 (lay G r.2)) 0 0 104 [(0, .ref (v_B G + 288))] [] (lay G S) := by
  intro  S  hh
  unfold f_X1_readDeed_b104 at hh
  refine v_aload_n 0 dX1_readDeed_104 rfl rfl ?_
  refine v_iconst dX1_readDeed_105 (by decide : _ = (1 : Int32)) ?_
  refine v_iconst dX1_readDeed_106 (by decide : _ = (0 : Int32)) ?_
  refine v_bipush dX1_readDeed_107 (by decide : _ = (11 : Int32)) ?_
  obtain ⟨q6, eq6, hh⟩ := bnd_some hh
  refine v_callVi (t_X1_readNumber eq6) dX1_readDeed_109 y_X1_readNumber ml_X1_101 (ci := 0) rfl rfl (e_Reader) rfl rfl (Nat.le_of_ble_eq_true rfl) ⟨(Nat.le_of_ble_eq_true rfl), (Nat.le_of_ble_eq_true rfl)⟩ ⟨Nat.zero_le _, Nat.zero_le _⟩ ?_
  refine v_if_eq (tgt := 138) dX1_readDeed_112 (by decide) (fun c => ?_) (fun c => ?_)
  · replace hh := (if_pos c).symm.trans hh
    refine v_iconst dX1_readDeed_138 (by decide : _ = (0 : Int32)) ?_
    obtain rfl := Option.some.inj hh
    exact v_zret dX1_readDeed_139 rfl (zb (by decide)).1 (Nat.zero_le _) (Nat.zero_le _) ⟨rfl, rfl⟩
  · replace hh := (if_neg c).symm.trans hh
    refine v_aload_n 0 dX1_readDeed_115 rfl rfl ?_
    refine v_bipush dX1_readDeed_116 (by decide : _ = (11 : Int32)) ?_
    obtain ⟨q7, eq7, hh⟩ := bnd_some hh
    refine v_callVi (t_X1_takes eq7) dX1_readDeed_118 y_X1_takes ml_X1_98 (ci := 0) rfl rfl (e_Reader) rfl rfl (Nat.le_of_ble_eq_true rfl) ⟨(Nat.le_of_ble_eq_true rfl), (Nat.le_of_ble_eq_true rfl)⟩ ⟨Nat.zero_le _, Nat.zero_le _⟩ ?_
    refine v_if_eq (tgt := 138) dX1_readDeed_121 (by decide) (fun c => ?_) (fun c => ?_)
    · replace hh := (if_pos c).symm.trans hh
      refine v_iconst dX1_readDeed_138 (by decide : _ = (0 : Int32)) ?_
      obtain rfl := Option.some.inj hh
      exact v_zret dX1_readDeed_139 rfl (zb (by decide)).1 (Nat.zero_le _) (Nat.zero_le _) ⟨rfl, rfl⟩
    · replace hh := (if_neg c).symm.trans hh
      refine v_aload_n 0 dX1_readDeed_124 rfl rfl ?_
      refine v_iconst dX1_readDeed_125 (by decide : _ = (2 : Int32)) ?_
      refine v_iconst dX1_readDeed_126 (by decide : _ = (0 : Int32)) ?_
      refine v_iconst dX1_readDeed_127 (by decide : _ = (3 : Int32)) ?_
      obtain ⟨q8, eq8, hh⟩ := bnd_some hh
      refine v_callVi (t_X1_readNumber eq8) dX1_readDeed_128 y_X1_readNumber ml_X1_101 (ci := 0) rfl rfl (e_Reader) rfl rfl (Nat.le_of_ble_eq_true rfl) ⟨(Nat.le_of_ble_eq_true rfl), (Nat.le_of_ble_eq_true rfl)⟩ ⟨Nat.zero_le _, Nat.zero_le _⟩ ?_
      refine v_if_eq (tgt := 138) dX1_readDeed_131 (by decide) (fun c => ?_) (fun c => ?_)
      · replace hh := (if_pos c).symm.trans hh
        refine v_iconst dX1_readDeed_138 (by decide : _ = (0 : Int32)) ?_
        obtain rfl := Option.some.inj hh
        exact v_zret dX1_readDeed_139 rfl (zb (by decide)).1 (Nat.zero_le _) (Nat.zero_le _) ⟨rfl, rfl⟩
      · replace hh := (if_neg c).symm.trans hh
        refine v_iconst dX1_readDeed_134 (by decide : _ = (1 : Int32)) ?_
        refine v_goto (tgt := 139) dX1_readDeed_135 (by decide) ?_
        obtain rfl := Option.some.inj hh
        exact v_zret dX1_readDeed_139 rfl (zb (by decide)).1 (Nat.zero_le _) (Nat.zero_le _) ⟨rfl, rfl⟩
def f_X1_readDeed  (S : St) (x1 : Int32) : Option (Int32 × St) :=
  if x1 = (2 : Int32) then
  (bnd (f_X1_readNumber S (1 : Int32) (1 : Int32) (9 : Int32)) fun q1 =>
 chk (isz q1.1) (some (q1.1, q1.2)))
  else if x1 = (3 : Int32) then
  (bnd (f_X1_readNumber S (1 : Int32) (0 : Int32) (999 : Int32)) fun q2 =>
 if q2.1 = (0 : Int32) then
  (some ((0 : Int32), q2.2))
  else
  (bnd (f_X1_takes q2.2 (10 : Int32)) fun q3 =>
 if q3.1 = (0 : Int32) then
  (some ((0 : Int32), q3.2))
  else
  (bnd (f_X1_readNumber q3.2 (2 : Int32) (0 : Int32) (11 : Int32)) fun q4 =>
 if q4.1 = (0 : Int32) then
  (some ((0 : Int32), q4.2))
  else
  (some ((1 : Int32), q4.2)))))
  else if x1 = (4 : Int32) then
  (bnd (f_X1_readNumber S (1 : Int32) (0 : Int32) (11 : Int32)) fun q5 =>
 chk (isz q5.1) (some (q5.1, q5.2)))
  else if x1 = (5 : Int32) then
  (f_X1_readDeed_b104 S)
  else if x1 = (6 : Int32) then
  (f_X1_readDeed_b104 S)
  else if x1 = (7 : Int32) then
  (some ((1 : Int32), S))
  else if x1 = (8 : Int32) then
  (bnd (f_X1_readNumber S (1 : Int32) (1 : Int32) (99 : Int32)) fun q9 =>
 if q9.1 = (0 : Int32) then
  (some ((0 : Int32), q9.2))
  else
  (bnd (f_X1_takes q9.2 (10 : Int32)) fun q10 =>
 if q10.1 = (0 : Int32) then
  (some ((0 : Int32), q10.2))
  else
  (bnd (f_X1_readNumber q10.2 (2 : Int32) (0 : Int32) (11 : Int32)) fun q11 =>
 if q11.1 = (0 : Int32) then
  (some ((0 : Int32), q11.2))
  else
  (some ((1 : Int32), q11.2)))))
  else if x1 = (9 : Int32) then
  (bnd (f_X1_readNumber S (1 : Int32) (1 : Int32) (60 : Int32)) fun q12 =>
 chk (isz q12.1) (some (q12.1, q12.2)))
  else (some ((1 : Int32), S))
set_option maxRecDepth 100000 in
set_option maxHeartbeats 4000000 in
theorem t_X1_readDeed {l : Launch} {G : v_G} {S : St}   {x1 : Int32} {r : Int32 × St} (hh : f_X1_readDeed  S x1 = some r) : v_M l G yX1_readDeed cX1_readDeed 2 (some .boolean) 2 0 0 [.ref (v_B G + 288), .int x1] (lay G S) (QI r.1 (lay G r.2)) := by
  refine v_entry (by decide) (Nat.le_of_ble_eq_true rfl) ?_
  unfold f_X1_readDeed at hh
  show V l G yX1_readDeed cX1_readDeed 2 (some .boolean) (v_rm 2 0 0) (QI r.1 (lay G r.2)) 0 0 0 [(0, .ref (v_B G + 288)), (1, .int x1)] [] (lay G S)
  refine v_iload_n 1 dX1_readDeed_0 rfl rfl ?_
  refine sw_if hh (fun c0 hh => ?_) (fun c0 hh => ?_)
  · skip
    refine v_tableIn (tgt := 48) dX1_readDeed_1 (by rw [c0]; decide) (by rw [c0]; decide) (by rw [c0] <;> rfl) (by decide) ?_
    refine v_aload_n 0 dX1_readDeed_48 rfl rfl ?_
    refine v_iconst dX1_readDeed_49 (by decide : _ = (1 : Int32)) ?_
    refine v_iconst dX1_readDeed_50 (by decide : _ = (1 : Int32)) ?_
    refine v_bipush dX1_readDeed_51 (by decide : _ = (9 : Int32)) ?_
    obtain ⟨q1, eq1, hh⟩ := bnd_some hh
    refine v_callVi (t_X1_readNumber eq1) dX1_readDeed_53 y_X1_readNumber ml_X1_101 (ci := 0) rfl rfl (e_Reader) rfl rfl (Nat.le_of_ble_eq_true rfl) ⟨(Nat.le_of_ble_eq_true rfl), (Nat.le_of_ble_eq_true rfl)⟩ ⟨Nat.zero_le _, Nat.zero_le _⟩ ?_
    obtain ⟨g, hh⟩ := chk_some hh
    obtain rfl := Option.some.inj hh
    exact v_zret dX1_readDeed_56 rfl (zb (isz_or g)).1 (Nat.zero_le _) (Nat.zero_le _) ⟨rfl, rfl⟩
  · skip
    refine sw_if hh (fun c1 hh => ?_) (fun c1 hh => ?_)
    · skip
      refine v_tableIn (tgt := 57) dX1_readDeed_1 (by rw [c1]; decide) (by rw [c1]; decide) (by rw [c1] <;> rfl) (by decide) ?_
      refine v_aload_n 0 dX1_readDeed_57 rfl rfl ?_
      refine v_iconst dX1_readDeed_58 (by decide : _ = (1 : Int32)) ?_
      refine v_iconst dX1_readDeed_59 (by decide : _ = (0 : Int32)) ?_
      refine v_sipush dX1_readDeed_60 (by decide : _ = (999 : Int32)) ?_
      obtain ⟨q2, eq2, hh⟩ := bnd_some hh
      refine v_callVi (t_X1_readNumber eq2) dX1_readDeed_63 y_X1_readNumber ml_X1_101 (ci := 0) rfl rfl (e_Reader) rfl rfl (Nat.le_of_ble_eq_true rfl) ⟨(Nat.le_of_ble_eq_true rfl), (Nat.le_of_ble_eq_true rfl)⟩ ⟨Nat.zero_le _, Nat.zero_le _⟩ ?_
      refine v_if_eq (tgt := 93) dX1_readDeed_66 (by decide) (fun c => ?_) (fun c => ?_)
      · replace hh := (if_pos c).symm.trans hh
        refine v_iconst dX1_readDeed_93 (by decide : _ = (0 : Int32)) ?_
        obtain rfl := Option.some.inj hh
        exact v_zret dX1_readDeed_94 rfl (zb (by decide)).1 (Nat.zero_le _) (Nat.zero_le _) ⟨rfl, rfl⟩
      · replace hh := (if_neg c).symm.trans hh
        refine v_aload_n 0 dX1_readDeed_69 rfl rfl ?_
        refine v_bipush dX1_readDeed_70 (by decide : _ = (10 : Int32)) ?_
        obtain ⟨q3, eq3, hh⟩ := bnd_some hh
        refine v_callVi (t_X1_takes eq3) dX1_readDeed_72 y_X1_takes ml_X1_98 (ci := 0) rfl rfl (e_Reader) rfl rfl (Nat.le_of_ble_eq_true rfl) ⟨(Nat.le_of_ble_eq_true rfl), (Nat.le_of_ble_eq_true rfl)⟩ ⟨Nat.zero_le _, Nat.zero_le _⟩ ?_
        refine v_if_eq (tgt := 93) dX1_readDeed_75 (by decide) (fun c => ?_) (fun c => ?_)
        · replace hh := (if_pos c).symm.trans hh
          refine v_iconst dX1_readDeed_93 (by decide : _ = (0 : Int32)) ?_
          obtain rfl := Option.some.inj hh
          exact v_zret dX1_readDeed_94 rfl (zb (by decide)).1 (Nat.zero_le _) (Nat.zero_le _) ⟨rfl, rfl⟩
        · replace hh := (if_neg c).symm.trans hh
          refine v_aload_n 0 dX1_readDeed_78 rfl rfl ?_
          refine v_iconst dX1_readDeed_79 (by decide : _ = (2 : Int32)) ?_
          refine v_iconst dX1_readDeed_80 (by decide : _ = (0 : Int32)) ?_
          refine v_bipush dX1_readDeed_81 (by decide : _ = (11 : Int32)) ?_
          obtain ⟨q4, eq4, hh⟩ := bnd_some hh
          refine v_callVi (t_X1_readNumber eq4) dX1_readDeed_83 y_X1_readNumber ml_X1_101 (ci := 0) rfl rfl (e_Reader) rfl rfl (Nat.le_of_ble_eq_true rfl) ⟨(Nat.le_of_ble_eq_true rfl), (Nat.le_of_ble_eq_true rfl)⟩ ⟨Nat.zero_le _, Nat.zero_le _⟩ ?_
          refine v_if_eq (tgt := 93) dX1_readDeed_86 (by decide) (fun c => ?_) (fun c => ?_)
          · replace hh := (if_pos c).symm.trans hh
            refine v_iconst dX1_readDeed_93 (by decide : _ = (0 : Int32)) ?_
            obtain rfl := Option.some.inj hh
            exact v_zret dX1_readDeed_94 rfl (zb (by decide)).1 (Nat.zero_le _) (Nat.zero_le _) ⟨rfl, rfl⟩
          · replace hh := (if_neg c).symm.trans hh
            refine v_iconst dX1_readDeed_89 (by decide : _ = (1 : Int32)) ?_
            refine v_goto (tgt := 94) dX1_readDeed_90 (by decide) ?_
            obtain rfl := Option.some.inj hh
            exact v_zret dX1_readDeed_94 rfl (zb (by decide)).1 (Nat.zero_le _) (Nat.zero_le _) ⟨rfl, rfl⟩
    · skip
      refine sw_if hh (fun c2 hh => ?_) (fun c2 hh => ?_)
      · skip
        refine v_tableIn (tgt := 95) dX1_readDeed_1 (by rw [c2]; decide) (by rw [c2]; decide) (by rw [c2] <;> rfl) (by decide) ?_
        refine v_aload_n 0 dX1_readDeed_95 rfl rfl ?_
        refine v_iconst dX1_readDeed_96 (by decide : _ = (1 : Int32)) ?_
        refine v_iconst dX1_readDeed_97 (by decide : _ = (0 : Int32)) ?_
        refine v_bipush dX1_readDeed_98 (by decide : _ = (11 : Int32)) ?_
        obtain ⟨q5, eq5, hh⟩ := bnd_some hh
        refine v_callVi (t_X1_readNumber eq5) dX1_readDeed_100 y_X1_readNumber ml_X1_101 (ci := 0) rfl rfl (e_Reader) rfl rfl (Nat.le_of_ble_eq_true rfl) ⟨(Nat.le_of_ble_eq_true rfl), (Nat.le_of_ble_eq_true rfl)⟩ ⟨Nat.zero_le _, Nat.zero_le _⟩ ?_
        obtain ⟨g, hh⟩ := chk_some hh
        obtain rfl := Option.some.inj hh
        exact v_zret dX1_readDeed_103 rfl (zb (isz_or g)).1 (Nat.zero_le _) (Nat.zero_le _) ⟨rfl, rfl⟩
      · skip
        refine sw_if hh (fun c3 hh => ?_) (fun c3 hh => ?_)
        · skip
          refine v_tableIn (tgt := 104) dX1_readDeed_1 (by rw [c3]; decide) (by rw [c3]; decide) (by rw [c3] <;> rfl) (by decide) ?_
          exact v_sub [0] rfl (tb_X1_readDeed_104 _ hh)
        · skip
          refine sw_if hh (fun c4 hh => ?_) (fun c4 hh => ?_)
          · skip
            refine v_tableIn (tgt := 104) dX1_readDeed_1 (by rw [c4]; decide) (by rw [c4]; decide) (by rw [c4] <;> rfl) (by decide) ?_
            exact v_sub [0] rfl (tb_X1_readDeed_104 _ hh)
          · skip
            refine sw_if hh (fun c5 hh => ?_) (fun c5 hh => ?_)
            · skip
              refine v_tableIn (tgt := 186) dX1_readDeed_1 (by rw [c5]; decide) (by rw [c5]; decide) (by rw [c5] <;> rfl) (by decide) ?_
              refine v_iconst dX1_readDeed_186 (by decide : _ = (1 : Int32)) ?_
              obtain rfl := Option.some.inj hh
              exact v_zret dX1_readDeed_187 rfl (zb (by decide)).1 (Nat.zero_le _) (Nat.zero_le _) ⟨rfl, rfl⟩
            · skip
              refine sw_if hh (fun c6 hh => ?_) (fun c6 hh => ?_)
              · skip
                refine v_tableIn (tgt := 140) dX1_readDeed_1 (by rw [c6]; decide) (by rw [c6]; decide) (by rw [c6] <;> rfl) (by decide) ?_
                refine v_aload_n 0 dX1_readDeed_140 rfl rfl ?_
                refine v_iconst dX1_readDeed_141 (by decide : _ = (1 : Int32)) ?_
                refine v_iconst dX1_readDeed_142 (by decide : _ = (1 : Int32)) ?_
                refine v_bipush dX1_readDeed_143 (by decide : _ = (99 : Int32)) ?_
                obtain ⟨q9, eq9, hh⟩ := bnd_some hh
                refine v_callVi (t_X1_readNumber eq9) dX1_readDeed_145 y_X1_readNumber ml_X1_101 (ci := 0) rfl rfl (e_Reader) rfl rfl (Nat.le_of_ble_eq_true rfl) ⟨(Nat.le_of_ble_eq_true rfl), (Nat.le_of_ble_eq_true rfl)⟩ ⟨Nat.zero_le _, Nat.zero_le _⟩ ?_
                refine v_if_eq (tgt := 175) dX1_readDeed_148 (by decide) (fun c => ?_) (fun c => ?_)
                · replace hh := (if_pos c).symm.trans hh
                  refine v_iconst dX1_readDeed_175 (by decide : _ = (0 : Int32)) ?_
                  obtain rfl := Option.some.inj hh
                  exact v_zret dX1_readDeed_176 rfl (zb (by decide)).1 (Nat.zero_le _) (Nat.zero_le _) ⟨rfl, rfl⟩
                · replace hh := (if_neg c).symm.trans hh
                  refine v_aload_n 0 dX1_readDeed_151 rfl rfl ?_
                  refine v_bipush dX1_readDeed_152 (by decide : _ = (10 : Int32)) ?_
                  obtain ⟨q10, eq10, hh⟩ := bnd_some hh
                  refine v_callVi (t_X1_takes eq10) dX1_readDeed_154 y_X1_takes ml_X1_98 (ci := 0) rfl rfl (e_Reader) rfl rfl (Nat.le_of_ble_eq_true rfl) ⟨(Nat.le_of_ble_eq_true rfl), (Nat.le_of_ble_eq_true rfl)⟩ ⟨Nat.zero_le _, Nat.zero_le _⟩ ?_
                  refine v_if_eq (tgt := 175) dX1_readDeed_157 (by decide) (fun c => ?_) (fun c => ?_)
                  · replace hh := (if_pos c).symm.trans hh
                    refine v_iconst dX1_readDeed_175 (by decide : _ = (0 : Int32)) ?_
                    obtain rfl := Option.some.inj hh
                    exact v_zret dX1_readDeed_176 rfl (zb (by decide)).1 (Nat.zero_le _) (Nat.zero_le _) ⟨rfl, rfl⟩
                  · replace hh := (if_neg c).symm.trans hh
                    refine v_aload_n 0 dX1_readDeed_160 rfl rfl ?_
                    refine v_iconst dX1_readDeed_161 (by decide : _ = (2 : Int32)) ?_
                    refine v_iconst dX1_readDeed_162 (by decide : _ = (0 : Int32)) ?_
                    refine v_bipush dX1_readDeed_163 (by decide : _ = (11 : Int32)) ?_
                    obtain ⟨q11, eq11, hh⟩ := bnd_some hh
                    refine v_callVi (t_X1_readNumber eq11) dX1_readDeed_165 y_X1_readNumber ml_X1_101 (ci := 0) rfl rfl (e_Reader) rfl rfl (Nat.le_of_ble_eq_true rfl) ⟨(Nat.le_of_ble_eq_true rfl), (Nat.le_of_ble_eq_true rfl)⟩ ⟨Nat.zero_le _, Nat.zero_le _⟩ ?_
                    refine v_if_eq (tgt := 175) dX1_readDeed_168 (by decide) (fun c => ?_) (fun c => ?_)
                    · replace hh := (if_pos c).symm.trans hh
                      refine v_iconst dX1_readDeed_175 (by decide : _ = (0 : Int32)) ?_
                      obtain rfl := Option.some.inj hh
                      exact v_zret dX1_readDeed_176 rfl (zb (by decide)).1 (Nat.zero_le _) (Nat.zero_le _) ⟨rfl, rfl⟩
                    · replace hh := (if_neg c).symm.trans hh
                      refine v_iconst dX1_readDeed_171 (by decide : _ = (1 : Int32)) ?_
                      refine v_goto (tgt := 176) dX1_readDeed_172 (by decide) ?_
                      obtain rfl := Option.some.inj hh
                      exact v_zret dX1_readDeed_176 rfl (zb (by decide)).1 (Nat.zero_le _) (Nat.zero_le _) ⟨rfl, rfl⟩
              · skip
                refine sw_if hh (fun c7 hh => ?_) (fun c7 hh => ?_)
                · skip
                  refine v_tableIn (tgt := 177) dX1_readDeed_1 (by rw [c7]; decide) (by rw [c7]; decide) (by rw [c7] <;> rfl) (by decide) ?_
                  refine v_aload_n 0 dX1_readDeed_177 rfl rfl ?_
                  refine v_iconst dX1_readDeed_178 (by decide : _ = (1 : Int32)) ?_
                  refine v_iconst dX1_readDeed_179 (by decide : _ = (1 : Int32)) ?_
                  refine v_bipush dX1_readDeed_180 (by decide : _ = (60 : Int32)) ?_
                  obtain ⟨q12, eq12, hh⟩ := bnd_some hh
                  refine v_callVi (t_X1_readNumber eq12) dX1_readDeed_182 y_X1_readNumber ml_X1_101 (ci := 0) rfl rfl (e_Reader) rfl rfl (Nat.le_of_ble_eq_true rfl) ⟨(Nat.le_of_ble_eq_true rfl), (Nat.le_of_ble_eq_true rfl)⟩ ⟨Nat.zero_le _, Nat.zero_le _⟩ ?_
                  obtain ⟨g, hh⟩ := chk_some hh
                  obtain rfl := Option.some.inj hh
                  exact v_zret dX1_readDeed_185 rfl (zb (isz_or g)).1 (Nat.zero_le _) (Nat.zero_le _) ⟨rfl, rfl⟩
                · skip
                  refine v_tableOut (tgt := 186) dX1_readDeed_1 (sw_out 8 (by decide) (fun k hk => match k, hk with | 0, _ => fun h => c0 (h.trans (by decide)) | 1, _ => fun h => c1 (h.trans (by decide)) | 2, _ => fun h => c2 (h.trans (by decide)) | 3, _ => fun h => c3 (h.trans (by decide)) | 4, _ => fun h => c4 (h.trans (by decide)) | 5, _ => fun h => c5 (h.trans (by decide)) | 6, _ => fun h => c6 (h.trans (by decide)) | 7, _ => fun h => c7 (h.trans (by decide)) | k + 8, hk => absurd hk (by omega))) (by decide) ?_
                  refine v_iconst dX1_readDeed_186 (by decide : _ = (1 : Int32)) ?_
                  obtain rfl := Option.some.inj hh
                  exact v_zret dX1_readDeed_187 rfl (zb (by decide)).1 (Nat.zero_le _) (Nat.zero_le _) ⟨rfl, rfl⟩
def f_X1_add  (S : St) (x1 : Int32) (x2 : Int32) : Option (St) :=
  if (300 : Int32) ≤ (gI S 109 0 0) then
  (some S)
  else
  (chk (inb (gI S 109 0 0) 300) (
  lt (sI S 108 0 ((gI S 109 0 0).toNatClampNeg) ((x2 * (64 : Int32)) + x1)) fun S2 =>
  lt (sI S2 109 0 0 ((gI S2 109 0 0) + (1 : Int32))) fun S3 =>
  some S3))
set_option maxRecDepth 100000 in
set_option maxHeartbeats 4000000 in
theorem t_X1_add {l : Launch} {G : v_G} {S : St}   {x1 : Int32} {x2 : Int32} {r : St} (hh : f_X1_add  S x1 x2 = some r) : v_M l G yX1_add cX1_add 3 (none) 0 0 0 [.ref (v_B G + 288), .int x1, .int x2] (lay G S) (QV (lay G r)) := by
  refine v_entry (by decide) (Nat.le_of_ble_eq_true rfl) ?_
  unfold f_X1_add at hh
  show V l G yX1_add cX1_add 3 (none) (v_rm 0 0 0) (QV (lay G r)) 0 0 0 [(0, .ref (v_B G + 288)), (1, .int x1), (2, .int x2)] [] (lay G S)
  refine v_aload_n 0 dX1_add_0 rfl rfl ?_
  refine r_Reader_lawLength dX1_add_1 fl_X1_108 ?_
  refine v_aload_n 0 dX1_add_4 rfl rfl ?_
  refine r_Reader_law dX1_add_5 fl_X1_15 ?_
  refine ln_lawbuf dX1_add_8 ?_
  refine v_icmp_ge (tgt := 37) dX1_add_9 (by decide) (fun c => ?_) (fun c => ?_)
  · replace hh := (if_pos c).symm.trans hh
    obtain rfl := Option.some.inj hh
    exact v_vret dX1_add_37 rfl (Nat.zero_le _) (Nat.zero_le _) ⟨rfl, rfl⟩
  · replace hh := (if_neg c).symm.trans hh
    refine v_aload_n 0 dX1_add_12 rfl rfl ?_
    refine r_Reader_law dX1_add_13 fl_X1_15 ?_
    refine v_aload_n 0 dX1_add_16 rfl rfl ?_
    refine r_Reader_lawLength dX1_add_17 fl_X1_108 ?_
    refine v_iload_n 2 dX1_add_20 rfl rfl ?_
    refine v_bipush dX1_add_21 (by decide : _ = (64 : Int32)) ?_
    refine v_imul dX1_add_23 ?_
    refine v_iload_n 1 dX1_add_24 rfl rfl ?_
    refine v_iadd dX1_add_25 ?_
    obtain ⟨g1, hh⟩ := chk_some hh
    replace g1 := inb_in g1
    refine st_lawbuf dX1_add_26 g1 ?_
    replace hh := lt_of hh
    refine v_aload_n 0 dX1_add_27 rfl rfl ?_
    refine v_dup dX1_add_28 rfl ?_
    refine r_Reader_lawLength dX1_add_29 fl_X1_108 ?_
    refine v_iconst dX1_add_32 (by decide : _ = (1 : Int32)) ?_
    refine v_iadd dX1_add_33 ?_
    refine w_Reader_lawLength dX1_add_34 fl_X1_108 ?_
    replace hh := lt_of hh
    obtain rfl := Option.some.inj hh
    exact v_vret dX1_add_37 rfl (Nat.zero_le _) (Nat.zero_le _) ⟨rfl, rfl⟩
def f_X1_land  (S : St) (x1 : Int32) (x2 : Int32) : Option (St) :=
  if (300 : Int32) ≤ x1 then
  (some S)
  else
  (chk (inb x1 300) (
  lt (sI S 108 0 x1.toNatClampNeg (((gI S 109 0 0) * (64 : Int32)) + x2)) fun S2 =>
  some S2))
set_option maxRecDepth 100000 in
set_option maxHeartbeats 4000000 in
theorem t_X1_land {l : Launch} {G : v_G} {S : St}   {x1 : Int32} {x2 : Int32} {r : St} (hh : f_X1_land  S x1 x2 = some r) : v_M l G yX1_land cX1_land 3 (none) 0 0 0 [.ref (v_B G + 288), .int x1, .int x2] (lay G S) (QV (lay G r)) := by
  refine v_entry (by decide) (Nat.le_of_ble_eq_true rfl) ?_
  unfold f_X1_land at hh
  show V l G yX1_land cX1_land 3 (none) (v_rm 0 0 0) (QV (lay G r)) 0 0 0 [(0, .ref (v_B G + 288)), (1, .int x1), (2, .int x2)] [] (lay G S)
  refine v_iload_n 1 dX1_land_0 rfl rfl ?_
  refine v_aload_n 0 dX1_land_1 rfl rfl ?_
  refine r_Reader_law dX1_land_2 fl_X1_15 ?_
  refine ln_lawbuf dX1_land_5 ?_
  refine v_icmp_ge (tgt := 24) dX1_land_6 (by decide) (fun c => ?_) (fun c => ?_)
  · replace hh := (if_pos c).symm.trans hh
    obtain rfl := Option.some.inj hh
    exact v_vret dX1_land_24 rfl (Nat.zero_le _) (Nat.zero_le _) ⟨rfl, rfl⟩
  · replace hh := (if_neg c).symm.trans hh
    refine v_aload_n 0 dX1_land_9 rfl rfl ?_
    refine r_Reader_law dX1_land_10 fl_X1_15 ?_
    refine v_iload_n 1 dX1_land_13 rfl rfl ?_
    refine v_aload_n 0 dX1_land_14 rfl rfl ?_
    refine r_Reader_lawLength dX1_land_15 fl_X1_108 ?_
    refine v_bipush dX1_land_18 (by decide : _ = (64 : Int32)) ?_
    refine v_imul dX1_land_20 ?_
    refine v_iload_n 2 dX1_land_21 rfl rfl ?_
    refine v_iadd dX1_land_22 ?_
    obtain ⟨g1, hh⟩ := chk_some hh
    replace g1 := inb_in g1
    refine st_lawbuf dX1_land_23 g1 ?_
    replace hh := lt_of hh
    obtain rfl := Option.some.inj hh
    exact v_vret dX1_land_24 rfl (Nat.zero_le _) (Nat.zero_le _) ⟨rfl, rfl⟩
def f_X1_adds  (S : St) (x1 : Int32) (x2 : Int32) : Option (Int32 × St) :=
  bnd (f_X1_add S x1 x2) fun q1 =>
 bnd (f_X1_advance q1 ) fun q2 =>
 some ((1 : Int32), q2)
set_option maxRecDepth 100000 in
set_option maxHeartbeats 4000000 in
theorem t_X1_adds {l : Launch} {G : v_G} {S : St}   {x1 : Int32} {x2 : Int32} {r : Int32 × St} (hh : f_X1_adds  S x1 x2 = some r) : v_M l G yX1_adds cX1_adds 3 (some .boolean) 1 0 0 [.ref (v_B G + 288), .int x1, .int x2] (lay G S) (QI r.1 (lay G r.2)) := by
  refine v_entry (by decide) (Nat.le_of_ble_eq_true rfl) ?_
  unfold f_X1_adds at hh
  show V l G yX1_adds cX1_adds 3 (some .boolean) (v_rm 1 0 0) (QI r.1 (lay G r.2)) 0 0 0 [(0, .ref (v_B G + 288)), (1, .int x1), (2, .int x2)] [] (lay G S)
  refine v_aload_n 0 dX1_adds_0 rfl rfl ?_
  refine v_iload_n 1 dX1_adds_1 rfl rfl ?_
  refine v_iload_n 2 dX1_adds_2 rfl rfl ?_
  obtain ⟨q1, eq1, hh⟩ := bnd_some hh
  refine v_callVv (t_X1_add eq1) dX1_adds_3 y_X1_add ml_X1_118 (ci := 0) rfl rfl (e_Reader) rfl rfl (Nat.le_of_ble_eq_true rfl) ⟨(Nat.le_of_ble_eq_true rfl), (Nat.le_of_ble_eq_true rfl)⟩ ⟨Nat.zero_le _, Nat.zero_le _⟩ ?_
  refine v_aload_n 0 dX1_adds_6 rfl rfl ?_
  obtain ⟨q2, eq2, hh⟩ := bnd_some hh
  refine v_callVv (t_X1_advance eq2) dX1_adds_7 y_X1_advance ml_X1_89 (ci := 0) rfl rfl (e_Reader) rfl rfl (Nat.le_of_ble_eq_true rfl) ⟨(Nat.le_of_ble_eq_true rfl), (Nat.le_of_ble_eq_true rfl)⟩ ⟨Nat.zero_le _, Nat.zero_le _⟩ ?_
  refine v_iconst dX1_adds_10 (by decide : _ = (1 : Int32)) ?_
  obtain rfl := Option.some.inj hh
  exact v_zret dX1_adds_11 rfl (zb (by decide)).1 (Nat.zero_le _) (Nat.zero_le _) ⟨rfl, rfl⟩
def f_X1_opens  (S : St) (x1 : Int32) : Option (Int32 × St) :=
  if x1 < (8 : Int32) then
  (bnd (f_X1_advance S ) fun q1 =>
 some ((1 : Int32), q1))
  else
  (bnd (f_X1_faulty S (3 : Int32)) fun q2 =>
 chk (isz q2.1) (some (q2.1, q2.2)))
set_option maxRecDepth 100000 in
set_option maxHeartbeats 4000000 in
theorem t_X1_opens {l : Launch} {G : v_G} {S : St}   {x1 : Int32} {r : Int32 × St} (hh : f_X1_opens  S x1 = some r) : v_M l G yX1_opens cX1_opens 2 (some .boolean) 1 0 0 [.ref (v_B G + 288), .int x1] (lay G S) (QI r.1 (lay G r.2)) := by
  refine v_entry (by decide) (Nat.le_of_ble_eq_true rfl) ?_
  unfold f_X1_opens at hh
  show V l G yX1_opens cX1_opens 2 (some .boolean) (v_rm 1 0 0) (QI r.1 (lay G r.2)) 0 0 0 [(0, .ref (v_B G + 288)), (1, .int x1)] [] (lay G S)
  refine v_iload_n 1 dX1_opens_0 rfl rfl ?_
  refine v_bipush dX1_opens_1 (by decide : _ = (8 : Int32)) ?_
  refine v_icmp_lt (tgt := 12) dX1_opens_3 (by decide) (fun c => ?_) (fun c => ?_)
  · replace hh := (if_pos c).symm.trans hh
    refine v_aload_n 0 dX1_opens_12 rfl rfl ?_
    obtain ⟨q1, eq1, hh⟩ := bnd_some hh
    refine v_callVv (t_X1_advance eq1) dX1_opens_13 y_X1_advance ml_X1_89 (ci := 0) rfl rfl (e_Reader) rfl rfl (Nat.le_of_ble_eq_true rfl) ⟨(Nat.le_of_ble_eq_true rfl), (Nat.le_of_ble_eq_true rfl)⟩ ⟨Nat.zero_le _, Nat.zero_le _⟩ ?_
    refine v_iconst dX1_opens_16 (by decide : _ = (1 : Int32)) ?_
    obtain rfl := Option.some.inj hh
    exact v_zret dX1_opens_17 rfl (zb (by decide)).1 (Nat.zero_le _) (Nat.zero_le _) ⟨rfl, rfl⟩
  · replace hh := (if_neg c).symm.trans hh
    refine v_aload_n 0 dX1_opens_6 rfl rfl ?_
    refine v_iconst dX1_opens_7 (by decide : _ = (3 : Int32)) ?_
    obtain ⟨q2, eq2, hh⟩ := bnd_some hh
    refine v_callVi (t_X1_faulty eq2) dX1_opens_8 y_X1_faulty ml_X1_85 (ci := 0) rfl rfl (e_Reader) rfl rfl (Nat.le_of_ble_eq_true rfl) ⟨(Nat.le_of_ble_eq_true rfl), (Nat.le_of_ble_eq_true rfl)⟩ ⟨Nat.zero_le _, Nat.zero_le _⟩ ?_
    obtain ⟨g, hh⟩ := chk_some hh
    obtain rfl := Option.some.inj hh
    exact v_zret dX1_opens_11 rfl (zb (isz_or g)).1 (Nat.zero_le _) (Nat.zero_le _) ⟨rfl, rfl⟩
