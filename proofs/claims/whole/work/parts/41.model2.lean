def f_X10_isAskAhead (N : Nat) (S : St)  : Option (Int32) :=
  bnd (f_X10_openNow N S ) fun q1 =>
 if q1 = (41 : Int32) then
  (chk (inb ((gI S 1016 0 0) - (1 : Int32)) 160) (
  if (40 : Int32) ≤ (gI S 1015 0 ((gI S 1016 0 0) - (1 : Int32)).toNatClampNeg) then
  (some (1 : Int32))
  else
  (chk (inb ((gI S 1016 0 0) - (1 : Int32)) 160) (
  bnd (f_X10_rank S (gI S 1015 0 ((gI S 1016 0 0) - (1 : Int32)).toNatClampNeg)) fun q4 =>
 bnd (f_X10_isIn S q4 (1 : Int32) (3 : Int32)) fun q5 =>
 if q5 = (0 : Int32) then
  (some (0 : Int32))
  else
  (some (1 : Int32))))))
  else
  (some (0 : Int32))
set_option maxRecDepth 100000 in
set_option maxHeartbeats 4000000 in
theorem t_X10_isAskAhead {l : Launch} {G : v_G} {N : Nat} {S : St}    {r : Int32} (hh : f_X10_isAskAhead N S  = some r) : v_M l G yX10_isAskAhead cX10_isAskAhead 1 (some .boolean) 2 0 0 [.ref (v_B G + 291)] (lay G S) (QI r (lay G S)) := by
  refine v_entry (by decide) (Nat.le_of_ble_eq_true rfl) ?_
  unfold f_X10_isAskAhead at hh
  show V l G yX10_isAskAhead cX10_isAskAhead 1 (some .boolean) (v_rm 2 0 0) (QI r (lay G S)) 0 0 0 [(0, .ref (v_B G + 291))] [] (lay G S)
  refine v_aload_n 0 dX10_isAskAhead_0 rfl rfl ?_
  obtain ⟨q1, eq1, hh⟩ := bnd_some hh
  refine v_callVi (t_X10_openNow eq1) dX10_isAskAhead_1 y_X10_openNow ml_X10_153 (ci := 9) rfl rfl (e_Model) rfl rfl (Nat.le_of_ble_eq_true rfl) ⟨(Nat.le_of_ble_eq_true rfl), (Nat.le_of_ble_eq_true rfl)⟩ ⟨Nat.zero_le _, Nat.zero_le _⟩ ?_
  refine v_bipush dX10_isAskAhead_4 (by decide : _ = (41 : Int32)) ?_
  refine v_icmp_ne (tgt := 51) dX10_isAskAhead_6 (by decide) (fun c => ?_) (fun c => ?_)
  · replace hh := (if_neg c).symm.trans hh
    refine v_iconst dX10_isAskAhead_51 (by decide : _ = (0 : Int32)) ?_
    obtain rfl := Option.some.inj hh
    exact v_zret dX10_isAskAhead_52 rfl (zb (by decide)).1 (Nat.zero_le _) (Nat.zero_le _) ⟨rfl, rfl⟩
  · replace hh := (if_pos c).symm.trans hh
    refine v_aload_n 0 dX10_isAskAhead_9 rfl rfl ?_
    refine r_Model_pile dX10_isAskAhead_10 fl_X10_29 ?_
    refine v_aload_n 0 dX10_isAskAhead_13 rfl rfl ?_
    refine r_Model_piled dX10_isAskAhead_14 fl_X10_136 ?_
    refine v_iconst dX10_isAskAhead_17 (by decide : _ = (1 : Int32)) ?_
    refine v_isub dX10_isAskAhead_18 ?_
    obtain ⟨g2, hh⟩ := chk_some hh
    replace g2 := inb_in g2
    refine ld_pile dX10_isAskAhead_19 g2 ?_
    refine v_bipush dX10_isAskAhead_20 (by decide : _ = (40 : Int32)) ?_
    refine v_icmp_ge (tgt := 47) dX10_isAskAhead_22 (by decide) (fun c => ?_) (fun c => ?_)
    · replace hh := (if_pos c).symm.trans hh
      refine v_iconst dX10_isAskAhead_47 (by decide : _ = (1 : Int32)) ?_
      refine v_goto (tgt := 52) dX10_isAskAhead_48 (by decide) ?_
      obtain rfl := Option.some.inj hh
      exact v_zret dX10_isAskAhead_52 rfl (zb (by decide)).1 (Nat.zero_le _) (Nat.zero_le _) ⟨rfl, rfl⟩
    · replace hh := (if_neg c).symm.trans hh
      refine v_aload_n 0 dX10_isAskAhead_25 rfl rfl ?_
      refine r_Model_pile dX10_isAskAhead_26 fl_X10_29 ?_
      refine v_aload_n 0 dX10_isAskAhead_29 rfl rfl ?_
      refine r_Model_piled dX10_isAskAhead_30 fl_X10_136 ?_
      refine v_iconst dX10_isAskAhead_33 (by decide : _ = (1 : Int32)) ?_
      refine v_isub dX10_isAskAhead_34 ?_
      obtain ⟨g3, hh⟩ := chk_some hh
      replace g3 := inb_in g3
      refine ld_pile dX10_isAskAhead_35 g3 ?_
      obtain ⟨q4, eq4, hh⟩ := bnd_some hh
      refine v_callSi (t_X10_rank eq4) dX10_isAskAhead_36 y_X10_rank ml_X10_139 rfl rfl (Nat.le_of_ble_eq_true rfl) ⟨(Nat.le_of_ble_eq_true rfl), (Nat.le_of_ble_eq_true rfl)⟩ ⟨Nat.zero_le _, Nat.zero_le _⟩ ?_
      refine v_iconst dX10_isAskAhead_39 (by decide : _ = (1 : Int32)) ?_
      refine v_iconst dX10_isAskAhead_40 (by decide : _ = (3 : Int32)) ?_
      obtain ⟨q5, eq5, hh⟩ := bnd_some hh
      refine v_callSi (t_X10_isIn eq5) dX10_isAskAhead_41 y_X10_isIn ml_X10_63 rfl rfl (Nat.le_of_ble_eq_true rfl) ⟨(Nat.le_of_ble_eq_true rfl), (Nat.le_of_ble_eq_true rfl)⟩ ⟨Nat.zero_le _, Nat.zero_le _⟩ ?_
      refine v_if_eq (tgt := 51) dX10_isAskAhead_44 (by decide) (fun c => ?_) (fun c => ?_)
      · replace hh := (if_pos c).symm.trans hh
        refine v_iconst dX10_isAskAhead_51 (by decide : _ = (0 : Int32)) ?_
        obtain rfl := Option.some.inj hh
        exact v_zret dX10_isAskAhead_52 rfl (zb (by decide)).1 (Nat.zero_le _) (Nat.zero_le _) ⟨rfl, rfl⟩
      · replace hh := (if_neg c).symm.trans hh
        refine v_iconst dX10_isAskAhead_47 (by decide : _ = (1 : Int32)) ?_
        refine v_goto (tgt := 52) dX10_isAskAhead_48 (by decide) ?_
        obtain rfl := Option.some.inj hh
        exact v_zret dX10_isAskAhead_52 rfl (zb (by decide)).1 (Nat.zero_le _) (Nat.zero_le _) ⟨rfl, rfl⟩
def f_X10_opened (N : Nat) (S : St) (x1 : Int32) : Option (Int32 × St) :=
  if (gI S 1017 0 0) = (8 : Int32) then
  (some ((3 : Int32), S))
  else
  (lt (sI S 1017 0 0 ((gI S 1017 0 0) + (1 : Int32))) fun S1 =>
  chk (inb (gI S1 1016 0 0) 160) (
  lt (sI S1 1015 0 ((gI S1 1016 0 0).toNatClampNeg) x1) fun S3 =>
  lt (sI S3 1016 0 0 ((gI S3 1016 0 0) + (1 : Int32))) fun S4 =>
  bnd (f_X10_nextToken N S4 ) fun q5 =>
 some ((0 : Int32), q5)))
set_option maxRecDepth 100000 in
set_option maxHeartbeats 4000000 in
theorem t_X10_opened {l : Launch} {G : v_G} {N : Nat} {S : St}   {x1 : Int32} {r : Int32 × St} (hh : f_X10_opened N S x1 = some r) : v_M l G yX10_opened cX10_opened 2 (some .int) 2 0 0 [.ref (v_B G + 291), .int x1] (lay G S) (QI r.1 (lay G r.2)) := by
  refine v_entry (by decide) (Nat.le_of_ble_eq_true rfl) ?_
  unfold f_X10_opened at hh
  show V l G yX10_opened cX10_opened 2 (some .int) (v_rm 2 0 0) (QI r.1 (lay G r.2)) 0 0 0 [(0, .ref (v_B G + 291)), (1, .int x1)] [] (lay G S)
  refine v_aload_n 0 dX10_opened_0 rfl rfl ?_
  refine r_Model_opens dX10_opened_1 fl_X10_146 ?_
  refine v_bipush dX10_opened_4 (by decide : _ = (8 : Int32)) ?_
  refine v_icmp_ne (tgt := 11) dX10_opened_6 (by decide) (fun c => ?_) (fun c => ?_)
  · replace hh := (if_neg c).symm.trans hh
    refine v_aload_n 0 dX10_opened_11 rfl rfl ?_
    refine v_dup dX10_opened_12 rfl ?_
    refine r_Model_opens dX10_opened_13 fl_X10_146 ?_
    refine v_iconst dX10_opened_16 (by decide : _ = (1 : Int32)) ?_
    refine v_iadd dX10_opened_17 ?_
    refine w_Model_opens dX10_opened_18 fl_X10_146 ?_
    replace hh := lt_of hh
    refine v_aload_n 0 dX10_opened_21 rfl rfl ?_
    refine r_Model_pile dX10_opened_22 fl_X10_29 ?_
    refine v_aload_n 0 dX10_opened_25 rfl rfl ?_
    refine r_Model_piled dX10_opened_26 fl_X10_136 ?_
    refine v_iload_n 1 dX10_opened_29 rfl rfl ?_
    obtain ⟨g2, hh⟩ := chk_some hh
    replace g2 := inb_in g2
    refine st_pile dX10_opened_30 g2 ?_
    replace hh := lt_of hh
    refine v_aload_n 0 dX10_opened_31 rfl rfl ?_
    refine v_dup dX10_opened_32 rfl ?_
    refine r_Model_piled dX10_opened_33 fl_X10_136 ?_
    refine v_iconst dX10_opened_36 (by decide : _ = (1 : Int32)) ?_
    refine v_iadd dX10_opened_37 ?_
    refine w_Model_piled dX10_opened_38 fl_X10_136 ?_
    replace hh := lt_of hh
    refine v_aload_n 0 dX10_opened_41 rfl rfl ?_
    obtain ⟨q5, eq5, hh⟩ := bnd_some hh
    refine v_callVv (t_X10_nextToken eq5) dX10_opened_42 y_X10_nextToken ml_X10_156 (ci := 9) rfl rfl (e_Model) rfl rfl (Nat.le_of_ble_eq_true rfl) ⟨(Nat.le_of_ble_eq_true rfl), (Nat.le_of_ble_eq_true rfl)⟩ ⟨Nat.zero_le _, Nat.zero_le _⟩ ?_
    refine v_iconst dX10_opened_45 (by decide : _ = (0 : Int32)) ?_
    obtain rfl := Option.some.inj hh
    exact v_iret dX10_opened_46 rfl (Nat.zero_le _) (Nat.zero_le _) ⟨rfl, rfl⟩
  · replace hh := (if_pos c).symm.trans hh
    refine v_iconst dX10_opened_9 (by decide : _ = (3 : Int32)) ?_
    obtain rfl := Option.some.inj hh
    exact v_iret dX10_opened_10 rfl (Nat.zero_le _) (Nat.zero_le _) ⟨rfl, rfl⟩
def f_X10_beginOne_b81 (N : Nat) (s0 : Int32) (s1 : Int32) (S : St) : Option (Int32 × St) :=
  bnd (f_X10_emit S s1 s0) fun q2 =>
 bnd (f_X10_nextToken N q2 ) fun q3 =>
 lt (sI q3 1018 0 0 (1 : Int32)) fun S4 =>
  bnd (f_X10_settle N S4 (7 : Int32)) fun q5 =>
 some ((0 : Int32), q5)
set_option maxRecDepth 100000 in
set_option maxHeartbeats 4000000 in
theorem tb_X10_beginOne_81 {l : Launch} {G : v_G} {N : Nat}    {r : Int32 × St}   : ∀ (s0 : Int32) (s1 : Int32) (S : St),  f_X10_beginOne_b81 N s0 s1 S = some r → V l G yX10_beginOne cX10_beginOne 2 (some .int) (v_rm 5 0 0) (QI r.1 (lay G r.2)) 0 0 81 [(0, .ref (v_B G + 291))] [.int s0, .int s1, .ref (v_B G + 291)] (lay G S) := by
  intro s0 s1 S  hh
  unfold f_X10_beginOne_b81 at hh
  obtain ⟨q2, eq2, hh⟩ := bnd_some hh
  refine v_callVv (t_X10_emit eq2) dX10_beginOne_81 y_X10_emit ml_X10_142 (ci := 9) rfl rfl (e_Model) rfl rfl (Nat.le_of_ble_eq_true rfl) ⟨(Nat.le_of_ble_eq_true rfl), (Nat.le_of_ble_eq_true rfl)⟩ ⟨Nat.zero_le _, Nat.zero_le _⟩ ?_
  refine v_aload_n 0 dX10_beginOne_84 rfl rfl ?_
  obtain ⟨q3, eq3, hh⟩ := bnd_some hh
  refine v_callVv (t_X10_nextToken eq3) dX10_beginOne_85 y_X10_nextToken ml_X10_156 (ci := 9) rfl rfl (e_Model) rfl rfl (Nat.le_of_ble_eq_true rfl) ⟨(Nat.le_of_ble_eq_true rfl), (Nat.le_of_ble_eq_true rfl)⟩ ⟨Nat.zero_le _, Nat.zero_le _⟩ ?_
  refine v_aload_n 0 dX10_beginOne_88 rfl rfl ?_
  refine v_iconst dX10_beginOne_89 (by decide : _ = (1 : Int32)) ?_
  refine w_Model_isWhole dX10_beginOne_90 fl_X10_165 (by decide) ?_
  replace hh := lt_of hh
  refine v_aload_n 0 dX10_beginOne_93 rfl rfl ?_
  refine v_bipush dX10_beginOne_94 (by decide : _ = (7 : Int32)) ?_
  obtain ⟨q5, eq5, hh⟩ := bnd_some hh
  refine v_callVv (t_X10_settle eq5) dX10_beginOne_96 y_X10_settle ml_X10_168 (ci := 9) rfl rfl (e_Model) rfl rfl (Nat.le_of_ble_eq_true rfl) ⟨(Nat.le_of_ble_eq_true rfl), (Nat.le_of_ble_eq_true rfl)⟩ ⟨Nat.zero_le _, Nat.zero_le _⟩ ?_
  refine v_iconst dX10_beginOne_99 (by decide : _ = (0 : Int32)) ?_
  obtain rfl := Option.some.inj hh
  exact v_iret dX10_beginOne_100 rfl (Nat.zero_le _) (Nat.zero_le _) ⟨rfl, rfl⟩
def f_X10_beginOne_b65 (N : Nat) (x1 : Int32) (s0 : Int32) (S : St) : Option (Int32 × St) :=
  if (gI S 1009 0 0) = (1 : Int32) then
  (f_X10_beginOne_b81 N (gI S 1010 0 0) s0 S)
  else
  (f_X10_beginOne_b81 N x1 s0 S)
set_option maxRecDepth 100000 in
set_option maxHeartbeats 4000000 in
theorem tb_X10_beginOne_65 {l : Launch} {G : v_G} {N : Nat}    {r : Int32 × St}   : ∀ (x1 : Int32) (s0 : Int32) (S : St),  f_X10_beginOne_b65 N x1 s0 S = some r → V l G yX10_beginOne cX10_beginOne 2 (some .int) (v_rm 5 0 0) (QI r.1 (lay G r.2)) 0 0 65 [(0, .ref (v_B G + 291)), (1, .int x1)] [.int s0, .ref (v_B G + 291)] (lay G S) := by
  intro x1 s0 S  hh
  unfold f_X10_beginOne_b65 at hh
  refine v_aload_n 0 dX10_beginOne_65 rfl rfl ?_
  refine r_Model_token dX10_beginOne_66 fl_X10_88 ?_
  refine v_iconst dX10_beginOne_69 (by decide : _ = (1 : Int32)) ?_
  refine v_icmp_ne (tgt := 80) dX10_beginOne_70 (by decide) (fun c => ?_) (fun c => ?_)
  · replace hh := (if_neg c).symm.trans hh
    refine v_iload_n 1 dX10_beginOne_80 rfl rfl ?_
    exact v_sub [0] rfl (tb_X10_beginOne_81 _ _ _ hh)
  · replace hh := (if_pos c).symm.trans hh
    refine v_aload_n 0 dX10_beginOne_73 rfl rfl ?_
    refine r_Model_number dX10_beginOne_74 fl_X10_94 ?_
    refine v_goto (tgt := 81) dX10_beginOne_77 (by decide) ?_
    exact v_sub [0] rfl (tb_X10_beginOne_81 _ _ _ hh)
def f_X10_beginOne_b51 (N : Nat) (x1 : Int32) (S : St) : Option (Int32 × St) :=
  if (gI S 1009 0 0) = (1 : Int32) then
  (f_X10_beginOne_b65 N x1 (0 : Int32) S)
  else
  (f_X10_beginOne_b65 N x1 (1 : Int32) S)
set_option maxRecDepth 100000 in
set_option maxHeartbeats 4000000 in
theorem tb_X10_beginOne_51 {l : Launch} {G : v_G} {N : Nat}    {r : Int32 × St}   : ∀ (x1 : Int32) (S : St),  f_X10_beginOne_b51 N x1 S = some r → V l G yX10_beginOne cX10_beginOne 2 (some .int) (v_rm 5 0 0) (QI r.1 (lay G r.2)) 0 0 51 [(0, .ref (v_B G + 291)), (1, .int x1)] [] (lay G S) := by
  intro x1 S  hh
  unfold f_X10_beginOne_b51 at hh
  refine v_aload_n 0 dX10_beginOne_51 rfl rfl ?_
  refine v_aload_n 0 dX10_beginOne_52 rfl rfl ?_
  refine r_Model_token dX10_beginOne_53 fl_X10_88 ?_
  refine v_iconst dX10_beginOne_56 (by decide : _ = (1 : Int32)) ?_
  refine v_icmp_ne (tgt := 64) dX10_beginOne_57 (by decide) (fun c => ?_) (fun c => ?_)
  · replace hh := (if_neg c).symm.trans hh
    refine v_iconst dX10_beginOne_64 (by decide : _ = (1 : Int32)) ?_
    exact v_sub [0, 1] rfl (tb_X10_beginOne_65 _ _ _ hh)
  · replace hh := (if_pos c).symm.trans hh
    refine v_iconst dX10_beginOne_60 (by decide : _ = (0 : Int32)) ?_
    refine v_goto (tgt := 65) dX10_beginOne_61 (by decide) ?_
    exact v_sub [0, 1] rfl (tb_X10_beginOne_65 _ _ _ hh)
def f_X10_beginOne_b39 (N : Nat) (x1 : Int32) (S : St) : Option (Int32 × St) :=
  if (gI S 1009 0 0) = (1 : Int32) then
  (f_X10_beginOne_b51 N x1 S)
  else
  (if x1 < (0 : Int32) then
  (if (gI S 1009 0 0) = (40 : Int32) then
  (bnd (f_X10_opened N S (40 : Int32)) fun q20 =>
 some (q20.1, q20.2))
  else
  (if (gI S 1009 0 0) = (45 : Int32) then
  (bnd (f_X10_opened N S (5 : Int32)) fun q19 =>
 some (q19.1, q19.2))
  else
  (bnd (f_X10_w6 S (115 : Int32) (113 : Int32) (117 : Int32) (97 : Int32) (114 : Int32) (101 : Int32)) fun q6 =>
 bnd (f_X10_isWord S q6) fun q7 =>
 if q7 = (0 : Int32) then
  (bnd (f_X10_w5 S (115 : Int32) (104 : Int32) (101 : Int32) (101 : Int32) (116 : Int32)) fun q8 =>
 bnd (f_X10_isWord S q8) fun q9 =>
 if q9 = (0 : Int32) then
  (bnd (f_X10_w2 S (105 : Int32) (102 : Int32)) fun q10 =>
 bnd (f_X10_isWord S q10) fun q11 =>
 if q11 = (0 : Int32) then
  (bnd (f_X10_w3 S (110 : Int32) (111 : Int32) (116 : Int32)) fun q12 =>
 bnd (f_X10_isWord S q12) fun q13 =>
 if q13 = (0 : Int32) then
  (some ((1 : Int32), S))
  else
  (bnd (f_X10_isAskAhead N S ) fun q14 =>
 if q14 = (0 : Int32) then
  (some ((1 : Int32), S))
  else
  (bnd (f_X10_opened N S (20 : Int32)) fun q15 =>
 some (q15.1, q15.2))))
  else
  (bnd (f_X10_opened N S (41 : Int32)) fun q16 =>
 some (q16.1, q16.2)))
  else
  (bnd (f_X10_opened N S (2 : Int32)) fun q17 =>
 some (q17.1, q17.2)))
  else
  (bnd (f_X10_opened N S (4 : Int32)) fun q18 =>
 some (q18.1, q18.2)))))
  else
  (f_X10_beginOne_b51 N x1 S))
set_option maxRecDepth 100000 in
set_option maxHeartbeats 4000000 in
theorem tb_X10_beginOne_39 {l : Launch} {G : v_G} {N : Nat}    {r : Int32 × St}   : ∀ (x1 : Int32) (S : St),  f_X10_beginOne_b39 N x1 S = some r → V l G yX10_beginOne cX10_beginOne 2 (some .int) (v_rm 5 0 0) (QI r.1 (lay G r.2)) 0 0 39 [(0, .ref (v_B G + 291)), (1, .int x1)] [] (lay G S) := by
  intro x1 S  hh
  unfold f_X10_beginOne_b39 at hh
  refine v_aload_n 0 dX10_beginOne_39 rfl rfl ?_
  refine r_Model_token dX10_beginOne_40 fl_X10_88 ?_
  refine v_iconst dX10_beginOne_43 (by decide : _ = (1 : Int32)) ?_
  refine v_icmp_eq (tgt := 51) dX10_beginOne_44 (by decide) (fun c => ?_) (fun c => ?_)
  · replace hh := (if_pos c).symm.trans hh
    exact v_sub [0, 1] rfl (tb_X10_beginOne_51 _ _ hh)
  · replace hh := (if_neg c).symm.trans hh
    refine v_iload_n 1 dX10_beginOne_47 rfl rfl ?_
    refine v_if_lt (tgt := 101) dX10_beginOne_48 (by decide) (fun c => ?_) (fun c => ?_)
    · replace hh := (if_pos c).symm.trans hh
      refine v_aload_n 0 dX10_beginOne_101 rfl rfl ?_
      refine r_Model_token dX10_beginOne_102 fl_X10_88 ?_
      refine v_bipush dX10_beginOne_105 (by decide : _ = (40 : Int32)) ?_
      refine v_icmp_ne (tgt := 117) dX10_beginOne_107 (by decide) (fun c => ?_) (fun c => ?_)
      · replace hh := (if_neg c).symm.trans hh
        refine v_aload_n 0 dX10_beginOne_117 rfl rfl ?_
        refine r_Model_token dX10_beginOne_118 fl_X10_88 ?_
        refine v_bipush dX10_beginOne_121 (by decide : _ = (45 : Int32)) ?_
        refine v_icmp_ne (tgt := 132) dX10_beginOne_123 (by decide) (fun c => ?_) (fun c => ?_)
        · replace hh := (if_neg c).symm.trans hh
          refine v_aload_n 0 dX10_beginOne_132 rfl rfl ?_
          refine v_bipush dX10_beginOne_133 (by decide : _ = (115 : Int32)) ?_
          refine v_bipush dX10_beginOne_135 (by decide : _ = (113 : Int32)) ?_
          refine v_bipush dX10_beginOne_137 (by decide : _ = (117 : Int32)) ?_
          refine v_bipush dX10_beginOne_139 (by decide : _ = (97 : Int32)) ?_
          refine v_bipush dX10_beginOne_141 (by decide : _ = (114 : Int32)) ?_
          refine v_bipush dX10_beginOne_143 (by decide : _ = (101 : Int32)) ?_
          obtain ⟨q6, eq6, hh⟩ := bnd_some hh
          refine v_callSl (t_X10_w6 eq6) dX10_beginOne_145 y_X10_w6 ml_X10_174 rfl rfl (Nat.le_of_ble_eq_true rfl) ⟨(Nat.le_of_ble_eq_true rfl), (Nat.le_of_ble_eq_true rfl)⟩ ⟨Nat.zero_le _, Nat.zero_le _⟩ ?_
          obtain ⟨q7, eq7, hh⟩ := bnd_some hh
          refine v_callVi (t_X10_isWord eq7) dX10_beginOne_148 y_X10_isWord ml_X10_178 (ci := 9) rfl rfl (e_Model) rfl rfl (Nat.le_of_ble_eq_true rfl) ⟨(Nat.le_of_ble_eq_true rfl), (Nat.le_of_ble_eq_true rfl)⟩ ⟨Nat.zero_le _, Nat.zero_le _⟩ ?_
          refine v_if_eq (tgt := 160) dX10_beginOne_151 (by decide) (fun c => ?_) (fun c => ?_)
          · replace hh := (if_pos c).symm.trans hh
            refine v_aload_n 0 dX10_beginOne_160 rfl rfl ?_
            refine v_bipush dX10_beginOne_161 (by decide : _ = (115 : Int32)) ?_
            refine v_bipush dX10_beginOne_163 (by decide : _ = (104 : Int32)) ?_
            refine v_bipush dX10_beginOne_165 (by decide : _ = (101 : Int32)) ?_
            refine v_bipush dX10_beginOne_167 (by decide : _ = (101 : Int32)) ?_
            refine v_bipush dX10_beginOne_169 (by decide : _ = (116 : Int32)) ?_
            obtain ⟨q8, eq8, hh⟩ := bnd_some hh
            refine v_callSl (t_X10_w5 eq8) dX10_beginOne_171 y_X10_w5 ml_X10_122 rfl rfl (Nat.le_of_ble_eq_true rfl) ⟨(Nat.le_of_ble_eq_true rfl), (Nat.le_of_ble_eq_true rfl)⟩ ⟨Nat.zero_le _, Nat.zero_le _⟩ ?_
            obtain ⟨q9, eq9, hh⟩ := bnd_some hh
            refine v_callVi (t_X10_isWord eq9) dX10_beginOne_174 y_X10_isWord ml_X10_178 (ci := 9) rfl rfl (e_Model) rfl rfl (Nat.le_of_ble_eq_true rfl) ⟨(Nat.le_of_ble_eq_true rfl), (Nat.le_of_ble_eq_true rfl)⟩ ⟨Nat.zero_le _, Nat.zero_le _⟩ ?_
            refine v_if_eq (tgt := 186) dX10_beginOne_177 (by decide) (fun c => ?_) (fun c => ?_)
            · replace hh := (if_pos c).symm.trans hh
              refine v_aload_n 0 dX10_beginOne_186 rfl rfl ?_
              refine v_bipush dX10_beginOne_187 (by decide : _ = (105 : Int32)) ?_
              refine v_bipush dX10_beginOne_189 (by decide : _ = (102 : Int32)) ?_
              obtain ⟨q10, eq10, hh⟩ := bnd_some hh
              refine v_callSl (t_X10_w2 eq10) dX10_beginOne_191 y_X10_w2 ml_X10_110 rfl rfl (Nat.le_of_ble_eq_true rfl) ⟨(Nat.le_of_ble_eq_true rfl), (Nat.le_of_ble_eq_true rfl)⟩ ⟨Nat.zero_le _, Nat.zero_le _⟩ ?_
              obtain ⟨q11, eq11, hh⟩ := bnd_some hh
              refine v_callVi (t_X10_isWord eq11) dX10_beginOne_194 y_X10_isWord ml_X10_178 (ci := 9) rfl rfl (e_Model) rfl rfl (Nat.le_of_ble_eq_true rfl) ⟨(Nat.le_of_ble_eq_true rfl), (Nat.le_of_ble_eq_true rfl)⟩ ⟨Nat.zero_le _, Nat.zero_le _⟩ ?_
              refine v_if_eq (tgt := 207) dX10_beginOne_197 (by decide) (fun c => ?_) (fun c => ?_)
              · replace hh := (if_pos c).symm.trans hh
                refine v_aload_n 0 dX10_beginOne_207 rfl rfl ?_
                refine v_bipush dX10_beginOne_208 (by decide : _ = (110 : Int32)) ?_
                refine v_bipush dX10_beginOne_210 (by decide : _ = (111 : Int32)) ?_
                refine v_bipush dX10_beginOne_212 (by decide : _ = (116 : Int32)) ?_
                obtain ⟨q12, eq12, hh⟩ := bnd_some hh
                refine v_callSl (t_X10_w3 eq12) dX10_beginOne_214 y_X10_w3 ml_X10_114 rfl rfl (Nat.le_of_ble_eq_true rfl) ⟨(Nat.le_of_ble_eq_true rfl), (Nat.le_of_ble_eq_true rfl)⟩ ⟨Nat.zero_le _, Nat.zero_le _⟩ ?_
                obtain ⟨q13, eq13, hh⟩ := bnd_some hh
                refine v_callVi (t_X10_isWord eq13) dX10_beginOne_217 y_X10_isWord ml_X10_178 (ci := 9) rfl rfl (e_Model) rfl rfl (Nat.le_of_ble_eq_true rfl) ⟨(Nat.le_of_ble_eq_true rfl), (Nat.le_of_ble_eq_true rfl)⟩ ⟨Nat.zero_le _, Nat.zero_le _⟩ ?_
                refine v_if_eq (tgt := 239) dX10_beginOne_220 (by decide) (fun c => ?_) (fun c => ?_)
                · replace hh := (if_pos c).symm.trans hh
                  refine v_iconst dX10_beginOne_239 (by decide : _ = (1 : Int32)) ?_
                  obtain rfl := Option.some.inj hh
                  exact v_iret dX10_beginOne_240 rfl (Nat.zero_le _) (Nat.zero_le _) ⟨rfl, rfl⟩
                · replace hh := (if_neg c).symm.trans hh
                  refine v_aload_n 0 dX10_beginOne_223 rfl rfl ?_
                  obtain ⟨q14, eq14, hh⟩ := bnd_some hh
                  refine v_callVi (t_X10_isAskAhead eq14) dX10_beginOne_224 y_X10_isAskAhead ml_X10_182 (ci := 9) rfl rfl (e_Model) rfl rfl (Nat.le_of_ble_eq_true rfl) ⟨(Nat.le_of_ble_eq_true rfl), (Nat.le_of_ble_eq_true rfl)⟩ ⟨Nat.zero_le _, Nat.zero_le _⟩ ?_
                  refine v_if_eq (tgt := 239) dX10_beginOne_227 (by decide) (fun c => ?_) (fun c => ?_)
                  · replace hh := (if_pos c).symm.trans hh
                    refine v_iconst dX10_beginOne_239 (by decide : _ = (1 : Int32)) ?_
                    obtain rfl := Option.some.inj hh
                    exact v_iret dX10_beginOne_240 rfl (Nat.zero_le _) (Nat.zero_le _) ⟨rfl, rfl⟩
                  · replace hh := (if_neg c).symm.trans hh
                    refine v_aload_n 0 dX10_beginOne_230 rfl rfl ?_
                    refine v_bipush dX10_beginOne_231 (by decide : _ = (20 : Int32)) ?_
                    obtain ⟨q15, eq15, hh⟩ := bnd_some hh
                    refine v_callVi (t_X10_opened eq15) dX10_beginOne_233 y_X10_opened ml_X10_171 (ci := 9) rfl rfl (e_Model) rfl rfl (Nat.le_of_ble_eq_true rfl) ⟨(Nat.le_of_ble_eq_true rfl), (Nat.le_of_ble_eq_true rfl)⟩ ⟨Nat.zero_le _, Nat.zero_le _⟩ ?_
                    refine v_goto (tgt := 240) dX10_beginOne_236 (by decide) ?_
                    obtain rfl := Option.some.inj hh
                    exact v_iret dX10_beginOne_240 rfl (Nat.zero_le _) (Nat.zero_le _) ⟨rfl, rfl⟩
              · replace hh := (if_neg c).symm.trans hh
                refine v_aload_n 0 dX10_beginOne_200 rfl rfl ?_
                refine v_bipush dX10_beginOne_201 (by decide : _ = (41 : Int32)) ?_
                obtain ⟨q16, eq16, hh⟩ := bnd_some hh
                refine v_callVi (t_X10_opened eq16) dX10_beginOne_203 y_X10_opened ml_X10_171 (ci := 9) rfl rfl (e_Model) rfl rfl (Nat.le_of_ble_eq_true rfl) ⟨(Nat.le_of_ble_eq_true rfl), (Nat.le_of_ble_eq_true rfl)⟩ ⟨Nat.zero_le _, Nat.zero_le _⟩ ?_
                obtain rfl := Option.some.inj hh
                exact v_iret dX10_beginOne_206 rfl (Nat.zero_le _) (Nat.zero_le _) ⟨rfl, rfl⟩
            · replace hh := (if_neg c).symm.trans hh
              refine v_aload_n 0 dX10_beginOne_180 rfl rfl ?_
              refine v_iconst dX10_beginOne_181 (by decide : _ = (2 : Int32)) ?_
              obtain ⟨q17, eq17, hh⟩ := bnd_some hh
              refine v_callVi (t_X10_opened eq17) dX10_beginOne_182 y_X10_opened ml_X10_171 (ci := 9) rfl rfl (e_Model) rfl rfl (Nat.le_of_ble_eq_true rfl) ⟨(Nat.le_of_ble_eq_true rfl), (Nat.le_of_ble_eq_true rfl)⟩ ⟨Nat.zero_le _, Nat.zero_le _⟩ ?_
              obtain rfl := Option.some.inj hh
              exact v_iret dX10_beginOne_185 rfl (Nat.zero_le _) (Nat.zero_le _) ⟨rfl, rfl⟩
          · replace hh := (if_neg c).symm.trans hh
            refine v_aload_n 0 dX10_beginOne_154 rfl rfl ?_
            refine v_iconst dX10_beginOne_155 (by decide : _ = (4 : Int32)) ?_
            obtain ⟨q18, eq18, hh⟩ := bnd_some hh
            refine v_callVi (t_X10_opened eq18) dX10_beginOne_156 y_X10_opened ml_X10_171 (ci := 9) rfl rfl (e_Model) rfl rfl (Nat.le_of_ble_eq_true rfl) ⟨(Nat.le_of_ble_eq_true rfl), (Nat.le_of_ble_eq_true rfl)⟩ ⟨Nat.zero_le _, Nat.zero_le _⟩ ?_
            obtain rfl := Option.some.inj hh
            exact v_iret dX10_beginOne_159 rfl (Nat.zero_le _) (Nat.zero_le _) ⟨rfl, rfl⟩
        · replace hh := (if_pos c).symm.trans hh
          refine v_aload_n 0 dX10_beginOne_126 rfl rfl ?_
          refine v_iconst dX10_beginOne_127 (by decide : _ = (5 : Int32)) ?_
          obtain ⟨q19, eq19, hh⟩ := bnd_some hh
          refine v_callVi (t_X10_opened eq19) dX10_beginOne_128 y_X10_opened ml_X10_171 (ci := 9) rfl rfl (e_Model) rfl rfl (Nat.le_of_ble_eq_true rfl) ⟨(Nat.le_of_ble_eq_true rfl), (Nat.le_of_ble_eq_true rfl)⟩ ⟨Nat.zero_le _, Nat.zero_le _⟩ ?_
          obtain rfl := Option.some.inj hh
          exact v_iret dX10_beginOne_131 rfl (Nat.zero_le _) (Nat.zero_le _) ⟨rfl, rfl⟩
      · replace hh := (if_pos c).symm.trans hh
        refine v_aload_n 0 dX10_beginOne_110 rfl rfl ?_
        refine v_bipush dX10_beginOne_111 (by decide : _ = (40 : Int32)) ?_
        obtain ⟨q20, eq20, hh⟩ := bnd_some hh
        refine v_callVi (t_X10_opened eq20) dX10_beginOne_113 y_X10_opened ml_X10_171 (ci := 9) rfl rfl (e_Model) rfl rfl (Nat.le_of_ble_eq_true rfl) ⟨(Nat.le_of_ble_eq_true rfl), (Nat.le_of_ble_eq_true rfl)⟩ ⟨Nat.zero_le _, Nat.zero_le _⟩ ?_
        obtain rfl := Option.some.inj hh
        exact v_iret dX10_beginOne_116 rfl (Nat.zero_le _) (Nat.zero_le _) ⟨rfl, rfl⟩
    · replace hh := (if_neg c).symm.trans hh
      exact v_sub [0, 1] rfl (tb_X10_beginOne_51 _ _ hh)
def f_X10_beginOne_b20 (N : Nat)  (S : St) : Option (Int32 × St) :=
  bnd (f_X10_nameOf S ) fun q1 =>
 if q1 ≤ (3 : Int32) then
  (f_X10_beginOne_b39 N q1 S)
  else
  (if (gI S 1014 0 0) = (0 : Int32) then
  (f_X10_beginOne_b39 N q1 S)
  else
  (some ((5 : Int32), S)))
set_option maxRecDepth 100000 in
set_option maxHeartbeats 4000000 in
theorem tb_X10_beginOne_20 {l : Launch} {G : v_G} {N : Nat}    {r : Int32 × St}   : ∀  (S : St),  f_X10_beginOne_b20 N  S = some r → V l G yX10_beginOne cX10_beginOne 2 (some .int) (v_rm 5 0 0) (QI r.1 (lay G r.2)) 0 0 20 [(0, .ref (v_B G + 291))] [] (lay G S) := by
  intro  S  hh
  unfold f_X10_beginOne_b20 at hh
  refine v_aload_n 0 dX10_beginOne_20 rfl rfl ?_
  obtain ⟨q1, eq1, hh⟩ := bnd_some hh
  refine v_callVi (t_X10_nameOf eq1) dX10_beginOne_21 y_X10_nameOf ml_X10_159 (ci := 9) rfl rfl (e_Model) rfl rfl (Nat.le_of_ble_eq_true rfl) ⟨(Nat.le_of_ble_eq_true rfl), (Nat.le_of_ble_eq_true rfl)⟩ ⟨Nat.zero_le _, Nat.zero_le _⟩ ?_
  refine v_istore_n dX10_beginOne_24 rfl (by decide) rfl ?_
  refine v_iload_n 0 dX10_beginOne_25 rfl rfl ?_
  refine v_iconst dX10_beginOne_26 (by decide : _ = (3 : Int32)) ?_
  refine v_icmp_le (tgt := 39) dX10_beginOne_27 (by decide) (fun c => ?_) (fun c => ?_)
  · replace hh := (if_pos c).symm.trans hh
    exact v_sub [1, 0] rfl (tb_X10_beginOne_39 _ _ hh)
  · replace hh := (if_neg c).symm.trans hh
    refine v_aload_n 1 dX10_beginOne_30 rfl rfl ?_
    refine r_Model_sort0 dX10_beginOne_31 fl_X10_162 ?_
    refine v_if_eq (tgt := 39) dX10_beginOne_34 (by decide) (fun c => ?_) (fun c => ?_)
    · replace hh := (if_pos c).symm.trans hh
      exact v_sub [1, 0] rfl (tb_X10_beginOne_39 _ _ hh)
    · replace hh := (if_neg c).symm.trans hh
      refine v_iconst dX10_beginOne_37 (by decide : _ = (5 : Int32)) ?_
      obtain rfl := Option.some.inj hh
      exact v_iret dX10_beginOne_38 rfl (Nat.zero_le _) (Nat.zero_le _) ⟨rfl, rfl⟩
def f_X10_beginOne (N : Nat) (S : St)  : Option (Int32 × St) :=
  if (gI S 1009 0 0) = (1 : Int32) then
  (if (gI S 1010 0 0) ≤ (9999 : Int32) then
  (f_X10_beginOne_b20 N S)
  else
  (some ((2 : Int32), S)))
  else
  (f_X10_beginOne_b20 N S)
set_option maxRecDepth 100000 in
set_option maxHeartbeats 4000000 in
theorem t_X10_beginOne {l : Launch} {G : v_G} {N : Nat} {S : St}    {r : Int32 × St} (hh : f_X10_beginOne N S  = some r) : v_M l G yX10_beginOne cX10_beginOne 2 (some .int) 5 0 0 [.ref (v_B G + 291)] (lay G S) (QI r.1 (lay G r.2)) := by
  refine v_entry (by decide) (Nat.le_of_ble_eq_true rfl) ?_
  unfold f_X10_beginOne at hh
  show V l G yX10_beginOne cX10_beginOne 2 (some .int) (v_rm 5 0 0) (QI r.1 (lay G r.2)) 0 0 0 [(0, .ref (v_B G + 291))] [] (lay G S)
  refine v_aload_n 0 dX10_beginOne_0 rfl rfl ?_
  refine r_Model_token dX10_beginOne_1 fl_X10_88 ?_
  refine v_iconst dX10_beginOne_4 (by decide : _ = (1 : Int32)) ?_
  refine v_icmp_ne (tgt := 20) dX10_beginOne_5 (by decide) (fun c => ?_) (fun c => ?_)
  · replace hh := (if_neg c).symm.trans hh
    exact v_sub [0] rfl (tb_X10_beginOne_20 _ hh)
  · replace hh := (if_pos c).symm.trans hh
    refine v_aload_n 0 dX10_beginOne_8 rfl rfl ?_
    refine r_Model_number dX10_beginOne_9 fl_X10_94 ?_
    refine v_sipush dX10_beginOne_12 (by decide : _ = (9999 : Int32)) ?_
    refine v_icmp_le (tgt := 20) dX10_beginOne_15 (by decide) (fun c => ?_) (fun c => ?_)
    · replace hh := (if_pos c).symm.trans hh
      exact v_sub [0] rfl (tb_X10_beginOne_20 _ hh)
    · replace hh := (if_neg c).symm.trans hh
      refine v_iconst dX10_beginOne_18 (by decide : _ = (2 : Int32)) ?_
      obtain rfl := Option.some.inj hh
      exact v_iret dX10_beginOne_19 rfl (Nat.zero_le _) (Nat.zero_le _) ⟨rfl, rfl⟩
def f_X10_compareOf  (S : St)  : Option (Int32) :=
  if (gI S 1009 0 0) = (60 : Int32) then
  (some (10 : Int32))
  else
  (if (gI S 1009 0 0) = (4 : Int32) then
  (some (11 : Int32))
  else
  (if (gI S 1009 0 0) = (62 : Int32) then
  (some (12 : Int32))
  else
  (if (gI S 1009 0 0) = (5 : Int32) then
  (some (13 : Int32))
  else
  (if (gI S 1009 0 0) = (61 : Int32) then
  (some (14 : Int32))
  else
  (if (gI S 1009 0 0) = (35 : Int32) then
  (some (15 : Int32))
  else
  (some (-1 : Int32)))))))
set_option maxRecDepth 100000 in
set_option maxHeartbeats 4000000 in
theorem t_X10_compareOf {l : Launch} {G : v_G} {S : St}    {r : Int32} (hh : f_X10_compareOf  S  = some r) : v_M l G yX10_compareOf cX10_compareOf 1 (some .int) 0 0 0 [.ref (v_B G + 291)] (lay G S) (QI r (lay G S)) := by
  refine v_entry (by decide) (Nat.le_of_ble_eq_true rfl) ?_
  unfold f_X10_compareOf at hh
  show V l G yX10_compareOf cX10_compareOf 1 (some .int) (v_rm 0 0 0) (QI r (lay G S)) 0 0 0 [(0, .ref (v_B G + 291))] [] (lay G S)
  refine v_aload_n 0 dX10_compareOf_0 rfl rfl ?_
  refine r_Model_token dX10_compareOf_1 fl_X10_88 ?_
  refine v_bipush dX10_compareOf_4 (by decide : _ = (60 : Int32)) ?_
  refine v_icmp_ne (tgt := 14) dX10_compareOf_6 (by decide) (fun c => ?_) (fun c => ?_)
  · replace hh := (if_neg c).symm.trans hh
    refine v_aload_n 0 dX10_compareOf_14 rfl rfl ?_
    refine r_Model_token dX10_compareOf_15 fl_X10_88 ?_
    refine v_iconst dX10_compareOf_18 (by decide : _ = (4 : Int32)) ?_
    refine v_icmp_ne (tgt := 27) dX10_compareOf_19 (by decide) (fun c => ?_) (fun c => ?_)
    · replace hh := (if_neg c).symm.trans hh
      refine v_aload_n 0 dX10_compareOf_27 rfl rfl ?_
      refine r_Model_token dX10_compareOf_28 fl_X10_88 ?_
      refine v_bipush dX10_compareOf_31 (by decide : _ = (62 : Int32)) ?_
      refine v_icmp_ne (tgt := 41) dX10_compareOf_33 (by decide) (fun c => ?_) (fun c => ?_)
      · replace hh := (if_neg c).symm.trans hh
        refine v_aload_n 0 dX10_compareOf_41 rfl rfl ?_
        refine r_Model_token dX10_compareOf_42 fl_X10_88 ?_
        refine v_iconst dX10_compareOf_45 (by decide : _ = (5 : Int32)) ?_
        refine v_icmp_ne (tgt := 54) dX10_compareOf_46 (by decide) (fun c => ?_) (fun c => ?_)
        · replace hh := (if_neg c).symm.trans hh
          refine v_aload_n 0 dX10_compareOf_54 rfl rfl ?_
          refine r_Model_token dX10_compareOf_55 fl_X10_88 ?_
          refine v_bipush dX10_compareOf_58 (by decide : _ = (61 : Int32)) ?_
          refine v_icmp_ne (tgt := 68) dX10_compareOf_60 (by decide) (fun c => ?_) (fun c => ?_)
          · replace hh := (if_neg c).symm.trans hh
            refine v_aload_n 0 dX10_compareOf_68 rfl rfl ?_
            refine r_Model_token dX10_compareOf_69 fl_X10_88 ?_
            refine v_bipush dX10_compareOf_72 (by decide : _ = (35 : Int32)) ?_
            refine v_icmp_ne (tgt := 82) dX10_compareOf_74 (by decide) (fun c => ?_) (fun c => ?_)
            · replace hh := (if_neg c).symm.trans hh
              refine v_iconst dX10_compareOf_82 (by decide : _ = (-1 : Int32)) ?_
              obtain rfl := Option.some.inj hh
              exact v_iret dX10_compareOf_83 rfl (Nat.zero_le _) (Nat.zero_le _) ⟨rfl, rfl⟩
            · replace hh := (if_pos c).symm.trans hh
              refine v_bipush dX10_compareOf_77 (by decide : _ = (15 : Int32)) ?_
              refine v_goto (tgt := 83) dX10_compareOf_79 (by decide) ?_
              obtain rfl := Option.some.inj hh
              exact v_iret dX10_compareOf_83 rfl (Nat.zero_le _) (Nat.zero_le _) ⟨rfl, rfl⟩
          · replace hh := (if_pos c).symm.trans hh
            refine v_bipush dX10_compareOf_63 (by decide : _ = (14 : Int32)) ?_
            refine v_goto (tgt := 83) dX10_compareOf_65 (by decide) ?_
            obtain rfl := Option.some.inj hh
            exact v_iret dX10_compareOf_83 rfl (Nat.zero_le _) (Nat.zero_le _) ⟨rfl, rfl⟩
        · replace hh := (if_pos c).symm.trans hh
          refine v_bipush dX10_compareOf_49 (by decide : _ = (13 : Int32)) ?_
          refine v_goto (tgt := 83) dX10_compareOf_51 (by decide) ?_
          obtain rfl := Option.some.inj hh
          exact v_iret dX10_compareOf_83 rfl (Nat.zero_le _) (Nat.zero_le _) ⟨rfl, rfl⟩
      · replace hh := (if_pos c).symm.trans hh
        refine v_bipush dX10_compareOf_36 (by decide : _ = (12 : Int32)) ?_
        refine v_goto (tgt := 83) dX10_compareOf_38 (by decide) ?_
        obtain rfl := Option.some.inj hh
        exact v_iret dX10_compareOf_83 rfl (Nat.zero_le _) (Nat.zero_le _) ⟨rfl, rfl⟩
    · replace hh := (if_pos c).symm.trans hh
      refine v_bipush dX10_compareOf_22 (by decide : _ = (11 : Int32)) ?_
      refine v_goto (tgt := 83) dX10_compareOf_24 (by decide) ?_
      obtain rfl := Option.some.inj hh
      exact v_iret dX10_compareOf_83 rfl (Nat.zero_le _) (Nat.zero_le _) ⟨rfl, rfl⟩
  · replace hh := (if_pos c).symm.trans hh
    refine v_bipush dX10_compareOf_9 (by decide : _ = (10 : Int32)) ?_
    refine v_goto (tgt := 83) dX10_compareOf_11 (by decide) ?_
    obtain rfl := Option.some.inj hh
    exact v_iret dX10_compareOf_83 rfl (Nat.zero_le _) (Nat.zero_le _) ⟨rfl, rfl⟩
def f_X10_betweenOf (N : Nat) (S : St)  : Option (Int32) :=
  if (gI S 1009 0 0) = (43 : Int32) then
  (some (6 : Int32))
  else
  (if (gI S 1009 0 0) = (45 : Int32) then
  (some (7 : Int32))
  else
  (if (gI S 1009 0 0) = (42 : Int32) then
  (some (8 : Int32))
  else
  (if (gI S 1009 0 0) = (47 : Int32) then
  (some (9 : Int32))
  else
  (bnd (f_X10_openNow N S ) fun q1 =>
 if q1 = (41 : Int32) then
  (bnd (f_X10_isCompared N S ) fun q2 =>
 if q2 = (0 : Int32) then
  (bnd (f_X10_compareOf S ) fun q7 =>
 some q7)
  else
  (bnd (f_X10_w3 S (97 : Int32) (110 : Int32) (100 : Int32)) fun q3 =>
 bnd (f_X10_isWord S q3) fun q4 =>
 if q4 = (0 : Int32) then
  (bnd (f_X10_w2 S (111 : Int32) (114 : Int32)) fun q5 =>
 bnd (f_X10_isWord S q5) fun q6 =>
 if q6 = (0 : Int32) then
  (some (-1 : Int32))
  else
  (some (22 : Int32)))
  else
  (some (21 : Int32))))
  else
  (some (-1 : Int32))))))
set_option maxRecDepth 100000 in
set_option maxHeartbeats 4000000 in
theorem t_X10_betweenOf {l : Launch} {G : v_G} {N : Nat} {S : St}    {r : Int32} (hh : f_X10_betweenOf N S  = some r) : v_M l G yX10_betweenOf cX10_betweenOf 1 (some .int) 2 0 0 [.ref (v_B G + 291)] (lay G S) (QI r (lay G S)) := by
  refine v_entry (by decide) (Nat.le_of_ble_eq_true rfl) ?_
  unfold f_X10_betweenOf at hh
  show V l G yX10_betweenOf cX10_betweenOf 1 (some .int) (v_rm 2 0 0) (QI r (lay G S)) 0 0 0 [(0, .ref (v_B G + 291))] [] (lay G S)
  refine v_aload_n 0 dX10_betweenOf_0 rfl rfl ?_
  refine r_Model_token dX10_betweenOf_1 fl_X10_88 ?_
  refine v_bipush dX10_betweenOf_4 (by decide : _ = (43 : Int32)) ?_
  refine v_icmp_ne (tgt := 12) dX10_betweenOf_6 (by decide) (fun c => ?_) (fun c => ?_)
  · replace hh := (if_neg c).symm.trans hh
    refine v_aload_n 0 dX10_betweenOf_12 rfl rfl ?_
    refine r_Model_token dX10_betweenOf_13 fl_X10_88 ?_
    refine v_bipush dX10_betweenOf_16 (by decide : _ = (45 : Int32)) ?_
    refine v_icmp_ne (tgt := 24) dX10_betweenOf_18 (by decide) (fun c => ?_) (fun c => ?_)
    · replace hh := (if_neg c).symm.trans hh
      refine v_aload_n 0 dX10_betweenOf_24 rfl rfl ?_
      refine r_Model_token dX10_betweenOf_25 fl_X10_88 ?_
      refine v_bipush dX10_betweenOf_28 (by decide : _ = (42 : Int32)) ?_
      refine v_icmp_ne (tgt := 36) dX10_betweenOf_30 (by decide) (fun c => ?_) (fun c => ?_)
      · replace hh := (if_neg c).symm.trans hh
        refine v_aload_n 0 dX10_betweenOf_36 rfl rfl ?_
        refine r_Model_token dX10_betweenOf_37 fl_X10_88 ?_
        refine v_bipush dX10_betweenOf_40 (by decide : _ = (47 : Int32)) ?_
        refine v_icmp_ne (tgt := 48) dX10_betweenOf_42 (by decide) (fun c => ?_) (fun c => ?_)
        · replace hh := (if_neg c).symm.trans hh
          refine v_aload_n 0 dX10_betweenOf_48 rfl rfl ?_
          obtain ⟨q1, eq1, hh⟩ := bnd_some hh
          refine v_callVi (t_X10_openNow eq1) dX10_betweenOf_49 y_X10_openNow ml_X10_153 (ci := 9) rfl rfl (e_Model) rfl rfl (Nat.le_of_ble_eq_true rfl) ⟨(Nat.le_of_ble_eq_true rfl), (Nat.le_of_ble_eq_true rfl)⟩ ⟨Nat.zero_le _, Nat.zero_le _⟩ ?_
          refine v_bipush dX10_betweenOf_52 (by decide : _ = (41 : Int32)) ?_
          refine v_icmp_eq (tgt := 59) dX10_betweenOf_54 (by decide) (fun c => ?_) (fun c => ?_)
          · replace hh := (if_pos c).symm.trans hh
            refine v_aload_n 0 dX10_betweenOf_59 rfl rfl ?_
            obtain ⟨q2, eq2, hh⟩ := bnd_some hh
            refine v_callVi (t_X10_isCompared eq2) dX10_betweenOf_60 y_X10_isCompared ml_X10_185 (ci := 9) rfl rfl (e_Model) rfl rfl (Nat.le_of_ble_eq_true rfl) ⟨(Nat.le_of_ble_eq_true rfl), (Nat.le_of_ble_eq_true rfl)⟩ ⟨Nat.zero_le _, Nat.zero_le _⟩ ?_
            refine v_if_ne (tgt := 71) dX10_betweenOf_63 (by decide) (fun c => ?_) (fun c => ?_)
            · replace hh := (if_neg c).symm.trans hh
              refine v_aload_n 0 dX10_betweenOf_71 rfl rfl ?_
              refine v_bipush dX10_betweenOf_72 (by decide : _ = (97 : Int32)) ?_
              refine v_bipush dX10_betweenOf_74 (by decide : _ = (110 : Int32)) ?_
              refine v_bipush dX10_betweenOf_76 (by decide : _ = (100 : Int32)) ?_
              obtain ⟨q3, eq3, hh⟩ := bnd_some hh
              refine v_callSl (t_X10_w3 eq3) dX10_betweenOf_78 y_X10_w3 ml_X10_114 rfl rfl (Nat.le_of_ble_eq_true rfl) ⟨(Nat.le_of_ble_eq_true rfl), (Nat.le_of_ble_eq_true rfl)⟩ ⟨Nat.zero_le _, Nat.zero_le _⟩ ?_
              obtain ⟨q4, eq4, hh⟩ := bnd_some hh
              refine v_callVi (t_X10_isWord eq4) dX10_betweenOf_81 y_X10_isWord ml_X10_178 (ci := 9) rfl rfl (e_Model) rfl rfl (Nat.le_of_ble_eq_true rfl) ⟨(Nat.le_of_ble_eq_true rfl), (Nat.le_of_ble_eq_true rfl)⟩ ⟨Nat.zero_le _, Nat.zero_le _⟩ ?_
              refine v_if_eq (tgt := 92) dX10_betweenOf_84 (by decide) (fun c => ?_) (fun c => ?_)
              · replace hh := (if_pos c).symm.trans hh
                refine v_aload_n 0 dX10_betweenOf_92 rfl rfl ?_
                refine v_bipush dX10_betweenOf_93 (by decide : _ = (111 : Int32)) ?_
                refine v_bipush dX10_betweenOf_95 (by decide : _ = (114 : Int32)) ?_
                obtain ⟨q5, eq5, hh⟩ := bnd_some hh
                refine v_callSl (t_X10_w2 eq5) dX10_betweenOf_97 y_X10_w2 ml_X10_110 rfl rfl (Nat.le_of_ble_eq_true rfl) ⟨(Nat.le_of_ble_eq_true rfl), (Nat.le_of_ble_eq_true rfl)⟩ ⟨Nat.zero_le _, Nat.zero_le _⟩ ?_
                obtain ⟨q6, eq6, hh⟩ := bnd_some hh
                refine v_callVi (t_X10_isWord eq6) dX10_betweenOf_100 y_X10_isWord ml_X10_178 (ci := 9) rfl rfl (e_Model) rfl rfl (Nat.le_of_ble_eq_true rfl) ⟨(Nat.le_of_ble_eq_true rfl), (Nat.le_of_ble_eq_true rfl)⟩ ⟨Nat.zero_le _, Nat.zero_le _⟩ ?_
                refine v_if_eq (tgt := 111) dX10_betweenOf_103 (by decide) (fun c => ?_) (fun c => ?_)
                · replace hh := (if_pos c).symm.trans hh
                  refine v_iconst dX10_betweenOf_111 (by decide : _ = (-1 : Int32)) ?_
                  obtain rfl := Option.some.inj hh
                  exact v_iret dX10_betweenOf_112 rfl (Nat.zero_le _) (Nat.zero_le _) ⟨rfl, rfl⟩
                · replace hh := (if_neg c).symm.trans hh
                  refine v_bipush dX10_betweenOf_106 (by decide : _ = (22 : Int32)) ?_
                  refine v_goto (tgt := 112) dX10_betweenOf_108 (by decide) ?_
                  obtain rfl := Option.some.inj hh
                  exact v_iret dX10_betweenOf_112 rfl (Nat.zero_le _) (Nat.zero_le _) ⟨rfl, rfl⟩
              · replace hh := (if_neg c).symm.trans hh
                refine v_bipush dX10_betweenOf_87 (by decide : _ = (21 : Int32)) ?_
                refine v_goto (tgt := 112) dX10_betweenOf_89 (by decide) ?_
                obtain rfl := Option.some.inj hh
                exact v_iret dX10_betweenOf_112 rfl (Nat.zero_le _) (Nat.zero_le _) ⟨rfl, rfl⟩
            · replace hh := (if_pos c).symm.trans hh
              refine v_aload_n 0 dX10_betweenOf_66 rfl rfl ?_
              obtain ⟨q7, eq7, hh⟩ := bnd_some hh
              refine v_callVi (t_X10_compareOf eq7) dX10_betweenOf_67 y_X10_compareOf ml_X10_188 (ci := 9) rfl rfl (e_Model) rfl rfl (Nat.le_of_ble_eq_true rfl) ⟨(Nat.le_of_ble_eq_true rfl), (Nat.le_of_ble_eq_true rfl)⟩ ⟨Nat.zero_le _, Nat.zero_le _⟩ ?_
              obtain rfl := Option.some.inj hh
              exact v_iret dX10_betweenOf_70 rfl (Nat.zero_le _) (Nat.zero_le _) ⟨rfl, rfl⟩
          · replace hh := (if_neg c).symm.trans hh
            refine v_iconst dX10_betweenOf_57 (by decide : _ = (-1 : Int32)) ?_
            obtain rfl := Option.some.inj hh
            exact v_iret dX10_betweenOf_58 rfl (Nat.zero_le _) (Nat.zero_le _) ⟨rfl, rfl⟩
        · replace hh := (if_pos c).symm.trans hh
          refine v_bipush dX10_betweenOf_45 (by decide : _ = (9 : Int32)) ?_
          obtain rfl := Option.some.inj hh
          exact v_iret dX10_betweenOf_47 rfl (Nat.zero_le _) (Nat.zero_le _) ⟨rfl, rfl⟩
      · replace hh := (if_pos c).symm.trans hh
        refine v_bipush dX10_betweenOf_33 (by decide : _ = (8 : Int32)) ?_
        obtain rfl := Option.some.inj hh
        exact v_iret dX10_betweenOf_35 rfl (Nat.zero_le _) (Nat.zero_le _) ⟨rfl, rfl⟩
    · replace hh := (if_pos c).symm.trans hh
      refine v_bipush dX10_betweenOf_21 (by decide : _ = (7 : Int32)) ?_
      obtain rfl := Option.some.inj hh
      exact v_iret dX10_betweenOf_23 rfl (Nat.zero_le _) (Nat.zero_le _) ⟨rfl, rfl⟩
  · replace hh := (if_pos c).symm.trans hh
    refine v_bipush dX10_betweenOf_9 (by decide : _ = (6 : Int32)) ?_
    obtain rfl := Option.some.inj hh
    exact v_iret dX10_betweenOf_11 rfl (Nat.zero_le _) (Nat.zero_le _) ⟨rfl, rfl⟩
def f_X10_partOf (N : Nat) (S : St) (x1 : Int32) : Option (Int32) :=
  if x1 = (40 : Int32) then
  (if (gI S 1009 0 0) = (41 : Int32) then
  (some (0 : Int32))
  else
  (some (-1 : Int32)))
  else if x1 = (41 : Int32) then
  (bnd (f_X10_w4 S (116 : Int32) (104 : Int32) (101 : Int32) (110 : Int32)) fun q1 =>
 bnd (f_X10_isWord S q1) fun q2 =>
 if q2 = (0 : Int32) then
  (some (-1 : Int32))
  else
  (bnd (f_X10_isCompared N S ) fun q3 =>
 if q3 = (0 : Int32) then
  (some (-1 : Int32))
  else
  (some (42 : Int32))))
  else if x1 = (42 : Int32) then
  (bnd (f_X10_w4 S (101 : Int32) (108 : Int32) (115 : Int32) (101 : Int32)) fun q4 =>
 bnd (f_X10_isWord S q4) fun q5 =>
 if q5 = (0 : Int32) then
  (some (-1 : Int32))
  else
  (some (43 : Int32)))
  else if x1 = (43 : Int32) then
  (bnd (f_X10_w3 S (101 : Int32) (110 : Int32) (100 : Int32)) fun q6 =>
 bnd (f_X10_isWord S q6) fun q7 =>
 if q7 = (0 : Int32) then
  (some (-1 : Int32))
  else
  (some (0 : Int32)))
  else (some (-1 : Int32))
set_option maxRecDepth 100000 in
set_option maxHeartbeats 4000000 in
theorem t_X10_partOf {l : Launch} {G : v_G} {N : Nat} {S : St}   {x1 : Int32} {r : Int32} (hh : f_X10_partOf N S x1 = some r) : v_M l G yX10_partOf cX10_partOf 2 (some .int) 3 0 0 [.ref (v_B G + 291), .int x1] (lay G S) (QI r (lay G S)) := by
  refine v_entry (by decide) (Nat.le_of_ble_eq_true rfl) ?_
  unfold f_X10_partOf at hh
  show V l G yX10_partOf cX10_partOf 2 (some .int) (v_rm 3 0 0) (QI r (lay G S)) 0 0 0 [(0, .ref (v_B G + 291)), (1, .int x1)] [] (lay G S)
  refine v_iload_n 1 dX10_partOf_0 rfl rfl ?_
  refine sw_if hh (fun c0 hh => ?_) (fun c0 hh => ?_)
  · skip
    refine v_tableIn (tgt := 32) dX10_partOf_1 (by rw [c0]; decide) (by rw [c0]; decide) (by rw [c0] <;> rfl) (by decide) ?_
    refine v_aload_n 0 dX10_partOf_32 rfl rfl ?_
    refine r_Model_token dX10_partOf_33 fl_X10_88 ?_
    refine v_bipush dX10_partOf_36 (by decide : _ = (41 : Int32)) ?_
    refine v_icmp_ne (tgt := 45) dX10_partOf_38 (by decide) (fun c => ?_) (fun c => ?_)
    · replace hh := (if_neg c).symm.trans hh
      refine v_iconst dX10_partOf_45 (by decide : _ = (-1 : Int32)) ?_
      obtain rfl := Option.some.inj hh
      exact v_iret dX10_partOf_46 rfl (Nat.zero_le _) (Nat.zero_le _) ⟨rfl, rfl⟩
    · replace hh := (if_pos c).symm.trans hh
      refine v_iconst dX10_partOf_41 (by decide : _ = (0 : Int32)) ?_
      refine v_goto (tgt := 46) dX10_partOf_42 (by decide) ?_
      obtain rfl := Option.some.inj hh
      exact v_iret dX10_partOf_46 rfl (Nat.zero_le _) (Nat.zero_le _) ⟨rfl, rfl⟩
  · skip
    refine sw_if hh (fun c1 hh => ?_) (fun c1 hh => ?_)
    · skip
      refine v_tableIn (tgt := 47) dX10_partOf_1 (by rw [c1]; decide) (by rw [c1]; decide) (by rw [c1] <;> rfl) (by decide) ?_
      refine v_aload_n 0 dX10_partOf_47 rfl rfl ?_
      refine v_bipush dX10_partOf_48 (by decide : _ = (116 : Int32)) ?_
      refine v_bipush dX10_partOf_50 (by decide : _ = (104 : Int32)) ?_
      refine v_bipush dX10_partOf_52 (by decide : _ = (101 : Int32)) ?_
      refine v_bipush dX10_partOf_54 (by decide : _ = (110 : Int32)) ?_
      obtain ⟨q1, eq1, hh⟩ := bnd_some hh
      refine v_callSl (t_X10_w4 eq1) dX10_partOf_56 y_X10_w4 ml_X10_118 rfl rfl (Nat.le_of_ble_eq_true rfl) ⟨(Nat.le_of_ble_eq_true rfl), (Nat.le_of_ble_eq_true rfl)⟩ ⟨Nat.zero_le _, Nat.zero_le _⟩ ?_
      obtain ⟨q2, eq2, hh⟩ := bnd_some hh
      refine v_callVi (t_X10_isWord eq2) dX10_partOf_59 y_X10_isWord ml_X10_178 (ci := 9) rfl rfl (e_Model) rfl rfl (Nat.le_of_ble_eq_true rfl) ⟨(Nat.le_of_ble_eq_true rfl), (Nat.le_of_ble_eq_true rfl)⟩ ⟨Nat.zero_le _, Nat.zero_le _⟩ ?_
      refine v_if_eq (tgt := 77) dX10_partOf_62 (by decide) (fun c => ?_) (fun c => ?_)
      · replace hh := (if_pos c).symm.trans hh
        refine v_iconst dX10_partOf_77 (by decide : _ = (-1 : Int32)) ?_
        obtain rfl := Option.some.inj hh
        exact v_iret dX10_partOf_78 rfl (Nat.zero_le _) (Nat.zero_le _) ⟨rfl, rfl⟩
      · replace hh := (if_neg c).symm.trans hh
        refine v_aload_n 0 dX10_partOf_65 rfl rfl ?_
        obtain ⟨q3, eq3, hh⟩ := bnd_some hh
        refine v_callVi (t_X10_isCompared eq3) dX10_partOf_66 y_X10_isCompared ml_X10_185 (ci := 9) rfl rfl (e_Model) rfl rfl (Nat.le_of_ble_eq_true rfl) ⟨(Nat.le_of_ble_eq_true rfl), (Nat.le_of_ble_eq_true rfl)⟩ ⟨Nat.zero_le _, Nat.zero_le _⟩ ?_
        refine v_if_eq (tgt := 77) dX10_partOf_69 (by decide) (fun c => ?_) (fun c => ?_)
        · replace hh := (if_pos c).symm.trans hh
          refine v_iconst dX10_partOf_77 (by decide : _ = (-1 : Int32)) ?_
          obtain rfl := Option.some.inj hh
          exact v_iret dX10_partOf_78 rfl (Nat.zero_le _) (Nat.zero_le _) ⟨rfl, rfl⟩
        · replace hh := (if_neg c).symm.trans hh
          refine v_bipush dX10_partOf_72 (by decide : _ = (42 : Int32)) ?_
          refine v_goto (tgt := 78) dX10_partOf_74 (by decide) ?_
          obtain rfl := Option.some.inj hh
          exact v_iret dX10_partOf_78 rfl (Nat.zero_le _) (Nat.zero_le _) ⟨rfl, rfl⟩
    · skip
      refine sw_if hh (fun c2 hh => ?_) (fun c2 hh => ?_)
      · skip
        refine v_tableIn (tgt := 79) dX10_partOf_1 (by rw [c2]; decide) (by rw [c2]; decide) (by rw [c2] <;> rfl) (by decide) ?_
        refine v_aload_n 0 dX10_partOf_79 rfl rfl ?_
        refine v_bipush dX10_partOf_80 (by decide : _ = (101 : Int32)) ?_
        refine v_bipush dX10_partOf_82 (by decide : _ = (108 : Int32)) ?_
        refine v_bipush dX10_partOf_84 (by decide : _ = (115 : Int32)) ?_
        refine v_bipush dX10_partOf_86 (by decide : _ = (101 : Int32)) ?_
        obtain ⟨q4, eq4, hh⟩ := bnd_some hh
        refine v_callSl (t_X10_w4 eq4) dX10_partOf_88 y_X10_w4 ml_X10_118 rfl rfl (Nat.le_of_ble_eq_true rfl) ⟨(Nat.le_of_ble_eq_true rfl), (Nat.le_of_ble_eq_true rfl)⟩ ⟨Nat.zero_le _, Nat.zero_le _⟩ ?_
        obtain ⟨q5, eq5, hh⟩ := bnd_some hh
        refine v_callVi (t_X10_isWord eq5) dX10_partOf_91 y_X10_isWord ml_X10_178 (ci := 9) rfl rfl (e_Model) rfl rfl (Nat.le_of_ble_eq_true rfl) ⟨(Nat.le_of_ble_eq_true rfl), (Nat.le_of_ble_eq_true rfl)⟩ ⟨Nat.zero_le _, Nat.zero_le _⟩ ?_
        refine v_if_eq (tgt := 102) dX10_partOf_94 (by decide) (fun c => ?_) (fun c => ?_)
        · replace hh := (if_pos c).symm.trans hh
          refine v_iconst dX10_partOf_102 (by decide : _ = (-1 : Int32)) ?_
          obtain rfl := Option.some.inj hh
          exact v_iret dX10_partOf_103 rfl (Nat.zero_le _) (Nat.zero_le _) ⟨rfl, rfl⟩
        · replace hh := (if_neg c).symm.trans hh
          refine v_bipush dX10_partOf_97 (by decide : _ = (43 : Int32)) ?_
          refine v_goto (tgt := 103) dX10_partOf_99 (by decide) ?_
          obtain rfl := Option.some.inj hh
          exact v_iret dX10_partOf_103 rfl (Nat.zero_le _) (Nat.zero_le _) ⟨rfl, rfl⟩
      · skip
        refine sw_if hh (fun c3 hh => ?_) (fun c3 hh => ?_)
        · skip
          refine v_tableIn (tgt := 104) dX10_partOf_1 (by rw [c3]; decide) (by rw [c3]; decide) (by rw [c3] <;> rfl) (by decide) ?_
          refine v_aload_n 0 dX10_partOf_104 rfl rfl ?_
          refine v_bipush dX10_partOf_105 (by decide : _ = (101 : Int32)) ?_
          refine v_bipush dX10_partOf_107 (by decide : _ = (110 : Int32)) ?_
          refine v_bipush dX10_partOf_109 (by decide : _ = (100 : Int32)) ?_
          obtain ⟨q6, eq6, hh⟩ := bnd_some hh
          refine v_callSl (t_X10_w3 eq6) dX10_partOf_111 y_X10_w3 ml_X10_114 rfl rfl (Nat.le_of_ble_eq_true rfl) ⟨(Nat.le_of_ble_eq_true rfl), (Nat.le_of_ble_eq_true rfl)⟩ ⟨Nat.zero_le _, Nat.zero_le _⟩ ?_
          obtain ⟨q7, eq7, hh⟩ := bnd_some hh
          refine v_callVi (t_X10_isWord eq7) dX10_partOf_114 y_X10_isWord ml_X10_178 (ci := 9) rfl rfl (e_Model) rfl rfl (Nat.le_of_ble_eq_true rfl) ⟨(Nat.le_of_ble_eq_true rfl), (Nat.le_of_ble_eq_true rfl)⟩ ⟨Nat.zero_le _, Nat.zero_le _⟩ ?_
          refine v_if_eq (tgt := 124) dX10_partOf_117 (by decide) (fun c => ?_) (fun c => ?_)
          · replace hh := (if_pos c).symm.trans hh
            refine v_iconst dX10_partOf_124 (by decide : _ = (-1 : Int32)) ?_
            obtain rfl := Option.some.inj hh
            exact v_iret dX10_partOf_125 rfl (Nat.zero_le _) (Nat.zero_le _) ⟨rfl, rfl⟩
          · replace hh := (if_neg c).symm.trans hh
            refine v_iconst dX10_partOf_120 (by decide : _ = (0 : Int32)) ?_
            refine v_goto (tgt := 125) dX10_partOf_121 (by decide) ?_
            obtain rfl := Option.some.inj hh
            exact v_iret dX10_partOf_125 rfl (Nat.zero_le _) (Nat.zero_le _) ⟨rfl, rfl⟩
        · skip
          refine v_tableOut (tgt := 126) dX10_partOf_1 (sw_out 4 (by decide) (fun k hk => match k, hk with | 0, _ => fun h => c0 (h.trans (by decide)) | 1, _ => fun h => c1 (h.trans (by decide)) | 2, _ => fun h => c2 (h.trans (by decide)) | 3, _ => fun h => c3 (h.trans (by decide)) | k + 4, hk => absurd hk (by omega))) (by decide) ?_
          refine v_iconst dX10_partOf_126 (by decide : _ = (-1 : Int32)) ?_
          obtain rfl := Option.some.inj hh
          exact v_iret dX10_partOf_127 rfl (Nat.zero_le _) (Nat.zero_le _) ⟨rfl, rfl⟩
def f_X10_behindOne_b139 (N : Nat)  (S : St) : Option (Int32 × St) :=
  bnd (f_X10_settle N S (7 : Int32)) fun q8 =>
 some ((1 : Int32), q8)
set_option maxRecDepth 100000 in
set_option maxHeartbeats 4000000 in
theorem tb_X10_behindOne_139 {l : Launch} {G : v_G} {N : Nat}    {r : Int32 × St}   : ∀  (S : St),  f_X10_behindOne_b139 N  S = some r → V l G yX10_behindOne cX10_behindOne 4 (some .boolean) (v_rm 4 0 0) (QI r.1 (lay G r.2)) 0 0 139 [(0, .ref (v_B G + 291))] [] (lay G S) := by
  intro  S  hh
  unfold f_X10_behindOne_b139 at hh
  refine v_aload_n 0 dX10_behindOne_139 rfl rfl ?_
  refine v_bipush dX10_behindOne_140 (by decide : _ = (7 : Int32)) ?_
  obtain ⟨q8, eq8, hh⟩ := bnd_some hh
  refine v_callVv (t_X10_settle eq8) dX10_behindOne_142 y_X10_settle ml_X10_168 (ci := 9) rfl rfl (e_Model) rfl rfl (Nat.le_of_ble_eq_true rfl) ⟨(Nat.le_of_ble_eq_true rfl), (Nat.le_of_ble_eq_true rfl)⟩ ⟨Nat.zero_le _, Nat.zero_le _⟩ ?_
  refine v_iconst dX10_behindOne_145 (by decide : _ = (1 : Int32)) ?_
  obtain rfl := Option.some.inj hh
  exact v_zret dX10_behindOne_146 rfl (zb (by decide)).1 (Nat.zero_le _) (Nat.zero_le _) ⟨rfl, rfl⟩
def f_X10_behindOne_b26 (N : Nat) (x1 : Int32) (s0 : Int32) (S : St) : Option (Int32 × St) :=
  bnd (f_X10_settle N S s0) fun q16 =>
 chk (inb (gI q16 1016 0 0) 160) (
  lt (sI q16 1015 0 ((gI q16 1016 0 0).toNatClampNeg) x1) fun S18 =>
  lt (sI S18 1016 0 0 ((gI S18 1016 0 0) + (1 : Int32))) fun S19 =>
  lt (sI S19 1018 0 0 (0 : Int32)) fun S20 =>
  bnd (f_X10_nextToken N S20 ) fun q21 =>
 some ((1 : Int32), q21))
set_option maxRecDepth 100000 in
set_option maxHeartbeats 4000000 in
theorem tb_X10_behindOne_26 {l : Launch} {G : v_G} {N : Nat}    {r : Int32 × St}   : ∀ (x1 : Int32) (s0 : Int32) (S : St),  f_X10_behindOne_b26 N x1 s0 S = some r → V l G yX10_behindOne cX10_behindOne 4 (some .boolean) (v_rm 4 0 0) (QI r.1 (lay G r.2)) 0 0 26 [(0, .ref (v_B G + 291)), (1, .int x1)] [.int s0, .ref (v_B G + 291)] (lay G S) := by
  intro x1 s0 S  hh
  unfold f_X10_behindOne_b26 at hh
  obtain ⟨q16, eq16, hh⟩ := bnd_some hh
  refine v_callVv (t_X10_settle eq16) dX10_behindOne_26 y_X10_settle ml_X10_168 (ci := 9) rfl rfl (e_Model) rfl rfl (Nat.le_of_ble_eq_true rfl) ⟨(Nat.le_of_ble_eq_true rfl), (Nat.le_of_ble_eq_true rfl)⟩ ⟨Nat.zero_le _, Nat.zero_le _⟩ ?_
  refine v_aload_n 0 dX10_behindOne_29 rfl rfl ?_
  refine r_Model_pile dX10_behindOne_30 fl_X10_29 ?_
  refine v_aload_n 0 dX10_behindOne_33 rfl rfl ?_
  refine r_Model_piled dX10_behindOne_34 fl_X10_136 ?_
  refine v_iload_n 1 dX10_behindOne_37 rfl rfl ?_
  obtain ⟨g17, hh⟩ := chk_some hh
  replace g17 := inb_in g17
  refine st_pile dX10_behindOne_38 g17 ?_
  replace hh := lt_of hh
  refine v_aload_n 0 dX10_behindOne_39 rfl rfl ?_
  refine v_dup dX10_behindOne_40 rfl ?_
  refine r_Model_piled dX10_behindOne_41 fl_X10_136 ?_
  refine v_iconst dX10_behindOne_44 (by decide : _ = (1 : Int32)) ?_
  refine v_iadd dX10_behindOne_45 ?_
  refine w_Model_piled dX10_behindOne_46 fl_X10_136 ?_
  replace hh := lt_of hh
  refine v_aload_n 0 dX10_behindOne_49 rfl rfl ?_
  refine v_iconst dX10_behindOne_50 (by decide : _ = (0 : Int32)) ?_
  refine w_Model_isWhole dX10_behindOne_51 fl_X10_165 (by decide) ?_
  replace hh := lt_of hh
  refine v_aload_n 0 dX10_behindOne_54 rfl rfl ?_
  obtain ⟨q21, eq21, hh⟩ := bnd_some hh
  refine v_callVv (t_X10_nextToken eq21) dX10_behindOne_55 y_X10_nextToken ml_X10_156 (ci := 9) rfl rfl (e_Model) rfl rfl (Nat.le_of_ble_eq_true rfl) ⟨(Nat.le_of_ble_eq_true rfl), (Nat.le_of_ble_eq_true rfl)⟩ ⟨Nat.zero_le _, Nat.zero_le _⟩ ?_
  refine v_iconst dX10_behindOne_58 (by decide : _ = (1 : Int32)) ?_
  obtain rfl := Option.some.inj hh
  exact v_zret dX10_behindOne_59 rfl (zb (by decide)).1 (Nat.zero_le _) (Nat.zero_le _) ⟨rfl, rfl⟩
def f_X10_behindOne (N : Nat) (S : St)  : Option (Int32 × St) :=
  bnd (f_X10_betweenOf N S ) fun q1 =>
 if q1 < (0 : Int32) then
  (bnd (f_X10_openNow N S ) fun q2 =>
 bnd (f_X10_partOf N S q2) fun q3 =>
 if (0 : Int32) ≤ q3 then
  (bnd (f_X10_settle N S (1 : Int32)) fun q4 =>
 bnd (f_X10_nextToken N q4 ) fun q5 =>
 if q3 ≤ (0 : Int32) then
  (lt (sI q5 1017 0 0 ((gI q5 1017 0 0) - (1 : Int32))) fun S6 =>
  lt (sI S6 1016 0 0 ((gI S6 1016 0 0) - (1 : Int32))) fun S7 =>
  if q2 = (43 : Int32) then
  (bnd (f_X10_emit S7 (3 : Int32) (0 : Int32)) fun q9 =>
 f_X10_behindOne_b139 N q9)
  else
  (f_X10_behindOne_b139 N S7))
  else
  (bnd (f_X10_openAt N q5 ) fun q10 =>
 chk (inb q10 160) (
  lt (sI q5 1015 0 q10.toNatClampNeg q3) fun S12 =>
  lt (sI S12 1018 0 0 (0 : Int32)) fun S13 =>
  some ((1 : Int32), S13))))
  else
  (some ((0 : Int32), S)))
  else
  (bnd (f_X10_rank S q1) fun q14 =>
 if q14 = (4 : Int32) then
  (f_X10_behindOne_b26 N q1 (5 : Int32) S)
  else
  (bnd (f_X10_rank S q1) fun q15 =>
 f_X10_behindOne_b26 N q1 q15 S))
set_option maxRecDepth 100000 in
set_option maxHeartbeats 4000000 in
theorem t_X10_behindOne {l : Launch} {G : v_G} {N : Nat} {S : St}    {r : Int32 × St} (hh : f_X10_behindOne N S  = some r) : v_M l G yX10_behindOne cX10_behindOne 4 (some .boolean) 4 0 0 [.ref (v_B G + 291)] (lay G S) (QI r.1 (lay G r.2)) := by
  refine v_entry (by decide) (Nat.le_of_ble_eq_true rfl) ?_
  unfold f_X10_behindOne at hh
  show V l G yX10_behindOne cX10_behindOne 4 (some .boolean) (v_rm 4 0 0) (QI r.1 (lay G r.2)) 0 0 0 [(0, .ref (v_B G + 291))] [] (lay G S)
  refine v_aload_n 0 dX10_behindOne_0 rfl rfl ?_
  obtain ⟨q1, eq1, hh⟩ := bnd_some hh
  refine v_callVi (t_X10_betweenOf eq1) dX10_behindOne_1 y_X10_betweenOf ml_X10_191 (ci := 9) rfl rfl (e_Model) rfl rfl (Nat.le_of_ble_eq_true rfl) ⟨(Nat.le_of_ble_eq_true rfl), (Nat.le_of_ble_eq_true rfl)⟩ ⟨Nat.zero_le _, Nat.zero_le _⟩ ?_
  refine v_istore_n dX10_behindOne_4 rfl (by decide) rfl ?_
  refine v_iload_n 0 dX10_behindOne_5 rfl rfl ?_
  refine v_if_lt (tgt := 60) dX10_behindOne_6 (by decide) (fun c => ?_) (fun c => ?_)
  · replace hh := (if_pos c).symm.trans hh
    refine v_aload_n 1 dX10_behindOne_60 rfl rfl ?_
    obtain ⟨q2, eq2, hh⟩ := bnd_some hh
    refine v_callVi (t_X10_openNow eq2) dX10_behindOne_61 y_X10_openNow ml_X10_153 (ci := 9) rfl rfl (e_Model) rfl rfl (Nat.le_of_ble_eq_true rfl) ⟨(Nat.le_of_ble_eq_true rfl), (Nat.le_of_ble_eq_true rfl)⟩ ⟨Nat.zero_le _, Nat.zero_le _⟩ ?_
    refine v_istore_n dX10_behindOne_64 rfl (by decide) rfl ?_
    refine v_aload_n 2 dX10_behindOne_65 rfl rfl ?_
    refine v_iload_n 0 dX10_behindOne_66 rfl rfl ?_
    obtain ⟨q3, eq3, hh⟩ := bnd_some hh
    refine v_callVi (t_X10_partOf eq3) dX10_behindOne_67 y_X10_partOf ml_X10_194 (ci := 9) rfl rfl (e_Model) rfl rfl (Nat.le_of_ble_eq_true rfl) ⟨(Nat.le_of_ble_eq_true rfl), (Nat.le_of_ble_eq_true rfl)⟩ ⟨Nat.zero_le _, Nat.zero_le _⟩ ?_
    refine v_istore_n dX10_behindOne_70 rfl (by decide) rfl ?_
    refine v_iload_n 0 dX10_behindOne_71 rfl rfl ?_
    refine v_if_ge (tgt := 77) dX10_behindOne_72 (by decide) (fun c => ?_) (fun c => ?_)
    · replace hh := (if_pos c).symm.trans hh
      refine v_aload_n 3 dX10_behindOne_77 rfl rfl ?_
      refine v_iconst dX10_behindOne_78 (by decide : _ = (1 : Int32)) ?_
      obtain ⟨q4, eq4, hh⟩ := bnd_some hh
      refine v_callVv (t_X10_settle eq4) dX10_behindOne_79 y_X10_settle ml_X10_168 (ci := 9) rfl rfl (e_Model) rfl rfl (Nat.le_of_ble_eq_true rfl) ⟨(Nat.le_of_ble_eq_true rfl), (Nat.le_of_ble_eq_true rfl)⟩ ⟨Nat.zero_le _, Nat.zero_le _⟩ ?_
      refine v_aload_n 3 dX10_behindOne_82 rfl rfl ?_
      obtain ⟨q5, eq5, hh⟩ := bnd_some hh
      refine v_callVv (t_X10_nextToken eq5) dX10_behindOne_83 y_X10_nextToken ml_X10_156 (ci := 9) rfl rfl (e_Model) rfl rfl (Nat.le_of_ble_eq_true rfl) ⟨(Nat.le_of_ble_eq_true rfl), (Nat.le_of_ble_eq_true rfl)⟩ ⟨Nat.zero_le _, Nat.zero_le _⟩ ?_
      refine v_iload_n 0 dX10_behindOne_86 rfl rfl ?_
      refine v_if_le (tgt := 107) dX10_behindOne_87 (by decide) (fun c => ?_) (fun c => ?_)
      · replace hh := (if_pos c).symm.trans hh
        refine v_aload_n 3 dX10_behindOne_107 rfl rfl ?_
        refine v_dup dX10_behindOne_108 rfl ?_
        refine r_Model_opens dX10_behindOne_109 fl_X10_146 ?_
        refine v_iconst dX10_behindOne_112 (by decide : _ = (1 : Int32)) ?_
        refine v_isub dX10_behindOne_113 ?_
        refine w_Model_opens dX10_behindOne_114 fl_X10_146 ?_
        replace hh := lt_of hh
        refine v_aload_n 3 dX10_behindOne_117 rfl rfl ?_
        refine v_dup dX10_behindOne_118 rfl ?_
        refine r_Model_piled dX10_behindOne_119 fl_X10_136 ?_
        refine v_iconst dX10_behindOne_122 (by decide : _ = (1 : Int32)) ?_
        refine v_isub dX10_behindOne_123 ?_
        refine w_Model_piled dX10_behindOne_124 fl_X10_136 ?_
        replace hh := lt_of hh
        refine v_iload_n 1 dX10_behindOne_127 rfl rfl ?_
        refine v_bipush dX10_behindOne_128 (by decide : _ = (43 : Int32)) ?_
        refine v_icmp_ne (tgt := 139) dX10_behindOne_130 (by decide) (fun c => ?_) (fun c => ?_)
        · replace hh := (if_neg c).symm.trans hh
          exact v_sub [3] rfl (tb_X10_behindOne_139 _ hh)
        · replace hh := (if_pos c).symm.trans hh
          refine v_aload_n 3 dX10_behindOne_133 rfl rfl ?_
          refine v_iconst dX10_behindOne_134 (by decide : _ = (3 : Int32)) ?_
          refine v_iconst dX10_behindOne_135 (by decide : _ = (0 : Int32)) ?_
          obtain ⟨q9, eq9, hh⟩ := bnd_some hh
          refine v_callVv (t_X10_emit eq9) dX10_behindOne_136 y_X10_emit ml_X10_142 (ci := 9) rfl rfl (e_Model) rfl rfl (Nat.le_of_ble_eq_true rfl) ⟨(Nat.le_of_ble_eq_true rfl), (Nat.le_of_ble_eq_true rfl)⟩ ⟨Nat.zero_le _, Nat.zero_le _⟩ ?_
          exact v_sub [3] rfl (tb_X10_behindOne_139 _ hh)
      · replace hh := (if_neg c).symm.trans hh
        refine v_aload_n 3 dX10_behindOne_90 rfl rfl ?_
        refine r_Model_pile dX10_behindOne_91 fl_X10_29 ?_
        refine v_aload_n 3 dX10_behindOne_94 rfl rfl ?_
        obtain ⟨q10, eq10, hh⟩ := bnd_some hh
        refine v_callVi (t_X10_openAt eq10) dX10_behindOne_95 y_X10_openAt ml_X10_149 (ci := 9) rfl rfl (e_Model) rfl rfl (Nat.le_of_ble_eq_true rfl) ⟨(Nat.le_of_ble_eq_true rfl), (Nat.le_of_ble_eq_true rfl)⟩ ⟨Nat.zero_le _, Nat.zero_le _⟩ ?_
        refine v_iload_n 0 dX10_behindOne_98 rfl rfl ?_
        obtain ⟨g11, hh⟩ := chk_some hh
        replace g11 := inb_in g11
        refine st_pile dX10_behindOne_99 g11 ?_
        replace hh := lt_of hh
        refine v_aload_n 3 dX10_behindOne_100 rfl rfl ?_
        refine v_iconst dX10_behindOne_101 (by decide : _ = (0 : Int32)) ?_
        refine w_Model_isWhole dX10_behindOne_102 fl_X10_165 (by decide) ?_
        replace hh := lt_of hh
        refine v_iconst dX10_behindOne_105 (by decide : _ = (1 : Int32)) ?_
        obtain rfl := Option.some.inj hh
        exact v_zret dX10_behindOne_106 rfl (zb (by decide)).1 (Nat.zero_le _) (Nat.zero_le _) ⟨rfl, rfl⟩
    · replace hh := (if_neg c).symm.trans hh
      refine v_iconst dX10_behindOne_75 (by decide : _ = (0 : Int32)) ?_
      obtain rfl := Option.some.inj hh
      exact v_zret dX10_behindOne_76 rfl (zb (by decide)).1 (Nat.zero_le _) (Nat.zero_le _) ⟨rfl, rfl⟩
  · replace hh := (if_neg c).symm.trans hh
    refine v_aload_n 1 dX10_behindOne_9 rfl rfl ?_
    refine v_iload_n 0 dX10_behindOne_10 rfl rfl ?_
    obtain ⟨q14, eq14, hh⟩ := bnd_some hh
    refine v_callSi (t_X10_rank eq14) dX10_behindOne_11 y_X10_rank ml_X10_139 rfl rfl (Nat.le_of_ble_eq_true rfl) ⟨(Nat.le_of_ble_eq_true rfl), (Nat.le_of_ble_eq_true rfl)⟩ ⟨Nat.zero_le _, Nat.zero_le _⟩ ?_
    refine v_iconst dX10_behindOne_14 (by decide : _ = (4 : Int32)) ?_
    refine v_icmp_ne (tgt := 22) dX10_behindOne_15 (by decide) (fun c => ?_) (fun c => ?_)
    · replace hh := (if_neg c).symm.trans hh
      refine v_iload_n 0 dX10_behindOne_22 rfl rfl ?_
      obtain ⟨q15, eq15, hh⟩ := bnd_some hh
      refine v_callSi (t_X10_rank eq15) dX10_behindOne_23 y_X10_rank ml_X10_139 rfl rfl (Nat.le_of_ble_eq_true rfl) ⟨(Nat.le_of_ble_eq_true rfl), (Nat.le_of_ble_eq_true rfl)⟩ ⟨Nat.zero_le _, Nat.zero_le _⟩ ?_
      exact v_sub [1, 0] rfl (tb_X10_behindOne_26 _ _ _ hh)
    · replace hh := (if_pos c).symm.trans hh
      refine v_iconst dX10_behindOne_18 (by decide : _ = (5 : Int32)) ?_
      refine v_goto (tgt := 26) dX10_behindOne_19 (by decide) ?_
      exact v_sub [1, 0] rfl (tb_X10_behindOne_26 _ _ _ hh)
def f_X10_summed_b15 (N : Nat) : Nat → St → Option (Int32 × St)
  | 0, _ => none
  | n + 1, S =>
  if (gI S 1018 0 0) = (0 : Int32) then
  (bnd (f_X10_beginOne N S ) fun q4 =>
 if q4.1 = (0 : Int32) then
  (f_X10_summed_b15 N n q4.2)
  else
  (some (q4.1, q4.2)))
  else
  (bnd (f_X10_behindOne N S ) fun q5 =>
 if q5.1 = (0 : Int32) then
  (bnd (f_X10_openNow N q5.2 ) fun q6 =>
 if q6 < (0 : Int32) then
  (bnd (f_X10_settle N q5.2 (1 : Int32)) fun q7 =>
 some ((0 : Int32), q7))
  else
  (some ((1 : Int32), q5.2)))
  else
  (f_X10_summed_b15 N n q5.2))
set_option maxRecDepth 100000 in
set_option maxHeartbeats 4000000 in
theorem tb_X10_summed_15 {l : Launch} {G : v_G} {N : Nat}    {r : Int32 × St}   : ∀ (n : Nat)  (S : St),  f_X10_summed_b15 N n  S = some r → V l G yX10_summed cX10_summed 2 (some .int) (v_rm 6 0 0) (QI r.1 (lay G r.2)) 0 0 15 [(0, .ref (v_B G + 291))] [] (lay G S) := by
  intro n
  induction n with
  | zero =>
    intro  S  hh
    rw [f_X10_summed_b15] at hh
    cases hh
  | succ n ih =>
    intro  S  hh
    rw [f_X10_summed_b15] at hh
    refine v_aload_n 0 dX10_summed_15 rfl rfl ?_
    refine r_Model_isWhole dX10_summed_16 fl_X10_165 ?_
    refine v_if_eq (tgt := 48) dX10_summed_19 (by decide) (fun c => ?_) (fun c => ?_)
    · replace hh := (if_pos c).symm.trans hh
      refine v_aload_n 0 dX10_summed_48 rfl rfl ?_
      obtain ⟨q4, eq4, hh⟩ := bnd_some hh
      refine v_callVi (t_X10_beginOne eq4) dX10_summed_49 y_X10_beginOne ml_X10_200 (ci := 9) rfl rfl (e_Model) rfl rfl (Nat.le_of_ble_eq_true rfl) ⟨(Nat.le_of_ble_eq_true rfl), (Nat.le_of_ble_eq_true rfl)⟩ ⟨Nat.zero_le _, Nat.zero_le _⟩ ?_
      refine v_istore_n dX10_summed_52 rfl (by decide) rfl ?_
      refine v_iload_n 0 dX10_summed_53 rfl rfl ?_
      refine v_if_eq (tgt := 59) dX10_summed_54 (by decide) (fun c => ?_) (fun c => ?_)
      · replace hh := (if_pos c).symm.trans hh
        refine v_goto (tgt := 15) dX10_summed_59 (by decide) ?_
        exact v_sub [1] rfl (ih _ hh)
      · replace hh := (if_neg c).symm.trans hh
        refine v_iload_n 0 dX10_summed_57 rfl rfl ?_
        obtain rfl := Option.some.inj hh
        exact v_iret dX10_summed_58 rfl (Nat.zero_le _) (Nat.zero_le _) ⟨rfl, rfl⟩
    · replace hh := (if_neg c).symm.trans hh
      refine v_aload_n 0 dX10_summed_22 rfl rfl ?_
      obtain ⟨q5, eq5, hh⟩ := bnd_some hh
      refine v_callVi (t_X10_behindOne eq5) dX10_summed_23 y_X10_behindOne ml_X10_197 (ci := 9) rfl rfl (e_Model) rfl rfl (Nat.le_of_ble_eq_true rfl) ⟨(Nat.le_of_ble_eq_true rfl), (Nat.le_of_ble_eq_true rfl)⟩ ⟨Nat.zero_le _, Nat.zero_le _⟩ ?_
      refine v_if_eq (tgt := 32) dX10_summed_26 (by decide) (fun c => ?_) (fun c => ?_)
      · replace hh := (if_pos c).symm.trans hh
        refine v_aload_n 0 dX10_summed_32 rfl rfl ?_
        obtain ⟨q6, eq6, hh⟩ := bnd_some hh
        refine v_callVi (t_X10_openNow eq6) dX10_summed_33 y_X10_openNow ml_X10_153 (ci := 9) rfl rfl (e_Model) rfl rfl (Nat.le_of_ble_eq_true rfl) ⟨(Nat.le_of_ble_eq_true rfl), (Nat.le_of_ble_eq_true rfl)⟩ ⟨Nat.zero_le _, Nat.zero_le _⟩ ?_
        refine v_if_lt (tgt := 41) dX10_summed_36 (by decide) (fun c => ?_) (fun c => ?_)
        · replace hh := (if_pos c).symm.trans hh
          refine v_aload_n 0 dX10_summed_41 rfl rfl ?_
          refine v_iconst dX10_summed_42 (by decide : _ = (1 : Int32)) ?_
          obtain ⟨q7, eq7, hh⟩ := bnd_some hh
          refine v_callVv (t_X10_settle eq7) dX10_summed_43 y_X10_settle ml_X10_168 (ci := 9) rfl rfl (e_Model) rfl rfl (Nat.le_of_ble_eq_true rfl) ⟨(Nat.le_of_ble_eq_true rfl), (Nat.le_of_ble_eq_true rfl)⟩ ⟨Nat.zero_le _, Nat.zero_le _⟩ ?_
          refine v_iconst dX10_summed_46 (by decide : _ = (0 : Int32)) ?_
          obtain rfl := Option.some.inj hh
          exact v_iret dX10_summed_47 rfl (Nat.zero_le _) (Nat.zero_le _) ⟨rfl, rfl⟩
        · replace hh := (if_neg c).symm.trans hh
          refine v_iconst dX10_summed_39 (by decide : _ = (1 : Int32)) ?_
          obtain rfl := Option.some.inj hh
          exact v_iret dX10_summed_40 rfl (Nat.zero_le _) (Nat.zero_le _) ⟨rfl, rfl⟩
      · replace hh := (if_neg c).symm.trans hh
        refine v_goto (tgt := 15) dX10_summed_29 (by decide) ?_
        exact v_sub [0] rfl (ih _ hh)
def f_X10_summed (N : Nat) (S : St)  : Option (Int32 × St) :=
  lt (sI S 1016 0 0 (0 : Int32)) fun S1 =>
  lt (sI S1 1017 0 0 (0 : Int32)) fun S2 =>
  lt (sI S2 1018 0 0 (0 : Int32)) fun S3 =>
  f_X10_summed_b15 N N S3
set_option maxRecDepth 100000 in
set_option maxHeartbeats 4000000 in
theorem t_X10_summed {l : Launch} {G : v_G} {N : Nat} {S : St}    {r : Int32 × St} (hh : f_X10_summed N S  = some r) : v_M l G yX10_summed cX10_summed 2 (some .int) 6 0 0 [.ref (v_B G + 291)] (lay G S) (QI r.1 (lay G r.2)) := by
  refine v_entry (by decide) (Nat.le_of_ble_eq_true rfl) ?_
  unfold f_X10_summed at hh
  show V l G yX10_summed cX10_summed 2 (some .int) (v_rm 6 0 0) (QI r.1 (lay G r.2)) 0 0 0 [(0, .ref (v_B G + 291))] [] (lay G S)
  refine v_aload_n 0 dX10_summed_0 rfl rfl ?_
  refine v_iconst dX10_summed_1 (by decide : _ = (0 : Int32)) ?_
  refine w_Model_piled dX10_summed_2 fl_X10_136 ?_
  replace hh := lt_of hh
  refine v_aload_n 0 dX10_summed_5 rfl rfl ?_
  refine v_iconst dX10_summed_6 (by decide : _ = (0 : Int32)) ?_
  refine w_Model_opens dX10_summed_7 fl_X10_146 ?_
  replace hh := lt_of hh
  refine v_aload_n 0 dX10_summed_10 rfl rfl ?_
  refine v_iconst dX10_summed_11 (by decide : _ = (0 : Int32)) ?_
  refine w_Model_isWhole dX10_summed_12 fl_X10_165 (by decide) ?_
  replace hh := lt_of hh
  exact v_sub [0] rfl (tb_X10_summed_15 N _ hh)
def f_X10_figure (N : Nat) (S : St) (x1 : Int32) (x2 : Int32) (x3 : Int32) : Option (Int32 × St) :=
  if (gI S 1009 0 0) = (1 : Int32) then
  (bnd (f_X10_isIn S (gI S 1010 0 0) x2 x3) fun q1 =>
 if q1 = (0 : Int32) then
  (some ((2 : Int32), S))
  else
  (chk (inb x1 2724) (
  lt (sI S 1002 0 x1.toNatClampNeg (gI S 1010 0 0)) fun S3 =>
  bnd (f_X10_nextToken N S3 ) fun q4 =>
 some ((0 : Int32), q4))))
  else
  (some ((1 : Int32), S))
set_option maxRecDepth 100000 in
set_option maxHeartbeats 4000000 in
theorem t_X10_figure {l : Launch} {G : v_G} {N : Nat} {S : St}   {x1 : Int32} {x2 : Int32} {x3 : Int32} {r : Int32 × St} (hh : f_X10_figure N S x1 x2 x3 = some r) : v_M l G yX10_figure cX10_figure 4 (some .int) 2 0 0 [.ref (v_B G + 291), .int x1, .int x2, .int x3] (lay G S) (QI r.1 (lay G r.2)) := by
  refine v_entry (by decide) (Nat.le_of_ble_eq_true rfl) ?_
  unfold f_X10_figure at hh
  show V l G yX10_figure cX10_figure 4 (some .int) (v_rm 2 0 0) (QI r.1 (lay G r.2)) 0 0 0 [(0, .ref (v_B G + 291)), (1, .int x1), (2, .int x2), (3, .int x3)] [] (lay G S)
  refine v_aload_n 0 dX10_figure_0 rfl rfl ?_
  refine r_Model_token dX10_figure_1 fl_X10_88 ?_
  refine v_iconst dX10_figure_4 (by decide : _ = (1 : Int32)) ?_
  refine v_icmp_eq (tgt := 10) dX10_figure_5 (by decide) (fun c => ?_) (fun c => ?_)
  · replace hh := (if_pos c).symm.trans hh
    refine v_aload_n 0 dX10_figure_10 rfl rfl ?_
    refine r_Model_number dX10_figure_11 fl_X10_94 ?_
    refine v_iload_n 2 dX10_figure_14 rfl rfl ?_
    refine v_iload_n 3 dX10_figure_15 rfl rfl ?_
    obtain ⟨q1, eq1, hh⟩ := bnd_some hh
    refine v_callSi (t_X10_isIn eq1) dX10_figure_16 y_X10_isIn ml_X10_63 rfl rfl (Nat.le_of_ble_eq_true rfl) ⟨(Nat.le_of_ble_eq_true rfl), (Nat.le_of_ble_eq_true rfl)⟩ ⟨Nat.zero_le _, Nat.zero_le _⟩ ?_
    refine v_if_ne (tgt := 24) dX10_figure_19 (by decide) (fun c => ?_) (fun c => ?_)
    · replace hh := (if_neg c).symm.trans hh
      refine v_aload_n 0 dX10_figure_24 rfl rfl ?_
      refine r_Model_texts dX10_figure_25 fl_X10_16 ?_
      refine v_iload_n 1 dX10_figure_28 rfl rfl ?_
      refine v_aload_n 0 dX10_figure_29 rfl rfl ?_
      refine r_Model_number dX10_figure_30 fl_X10_94 ?_
      obtain ⟨g2, hh⟩ := chk_some hh
      replace g2 := inb_in g2
      refine st_mtexts dX10_figure_33 g2 ?_
      replace hh := lt_of hh
      refine v_aload_n 0 dX10_figure_34 rfl rfl ?_
      obtain ⟨q4, eq4, hh⟩ := bnd_some hh
      refine v_callVv (t_X10_nextToken eq4) dX10_figure_35 y_X10_nextToken ml_X10_156 (ci := 9) rfl rfl (e_Model) rfl rfl (Nat.le_of_ble_eq_true rfl) ⟨(Nat.le_of_ble_eq_true rfl), (Nat.le_of_ble_eq_true rfl)⟩ ⟨Nat.zero_le _, Nat.zero_le _⟩ ?_
      refine v_iconst dX10_figure_38 (by decide : _ = (0 : Int32)) ?_
      obtain rfl := Option.some.inj hh
      exact v_iret dX10_figure_39 rfl (Nat.zero_le _) (Nat.zero_le _) ⟨rfl, rfl⟩
    · replace hh := (if_pos c).symm.trans hh
      refine v_iconst dX10_figure_22 (by decide : _ = (2 : Int32)) ?_
      obtain rfl := Option.some.inj hh
      exact v_iret dX10_figure_23 rfl (Nat.zero_le _) (Nat.zero_le _) ⟨rfl, rfl⟩
  · replace hh := (if_neg c).symm.trans hh
    refine v_iconst dX10_figure_8 (by decide : _ = (1 : Int32)) ?_
    obtain rfl := Option.some.inj hh
    exact v_iret dX10_figure_9 rfl (Nat.zero_le _) (Nat.zero_le _) ⟨rfl, rfl⟩
def f_X10_lawClause (N : Nat) (S : St) (x1 : Int32) : Option (Int32 × St) :=
  chk (inb (x1 + (1 : Int32)) 2724) (
  lt (sI S 1002 0 ((x1 + (1 : Int32)).toNatClampNeg) (gI S 1013 0 0)) fun S2 =>
  bnd (f_X10_summed N S2 ) fun q3 =>
 chk (inb (x1 + (2 : Int32)) 2724) (
  lt (sI q3.2 1002 0 ((x1 + (2 : Int32)).toNatClampNeg) (gI q3.2 1013 0 0)) fun S5 =>
  some (q3.1, S5)))
set_option maxRecDepth 100000 in
set_option maxHeartbeats 4000000 in
theorem t_X10_lawClause {l : Launch} {G : v_G} {N : Nat} {S : St}   {x1 : Int32} {r : Int32 × St} (hh : f_X10_lawClause N S x1 = some r) : v_M l G yX10_lawClause cX10_lawClause 3 (some .int) 7 0 0 [.ref (v_B G + 291), .int x1] (lay G S) (QI r.1 (lay G r.2)) := by
  refine v_entry (by decide) (Nat.le_of_ble_eq_true rfl) ?_
  unfold f_X10_lawClause at hh
  show V l G yX10_lawClause cX10_lawClause 3 (some .int) (v_rm 7 0 0) (QI r.1 (lay G r.2)) 0 0 0 [(0, .ref (v_B G + 291)), (1, .int x1)] [] (lay G S)
  refine v_aload_n 0 dX10_lawClause_0 rfl rfl ?_
  refine r_Model_texts dX10_lawClause_1 fl_X10_16 ?_
  refine v_iload_n 1 dX10_lawClause_4 rfl rfl ?_
  refine v_iconst dX10_lawClause_5 (by decide : _ = (1 : Int32)) ?_
  refine v_iadd dX10_lawClause_6 ?_
  refine v_aload_n 0 dX10_lawClause_7 rfl rfl ?_
  refine r_Model_written dX10_lawClause_8 fl_X10_129 ?_
  obtain ⟨g1, hh⟩ := chk_some hh
  replace g1 := inb_in g1
  refine st_mtexts dX10_lawClause_11 g1 ?_
  replace hh := lt_of hh
  refine v_aload_n 0 dX10_lawClause_12 rfl rfl ?_
  obtain ⟨q3, eq3, hh⟩ := bnd_some hh
  refine v_callVi (t_X10_summed eq3) dX10_lawClause_13 y_X10_summed ml_X10_203 (ci := 9) rfl rfl (e_Model) rfl rfl (Nat.le_of_ble_eq_true rfl) ⟨(Nat.le_of_ble_eq_true rfl), (Nat.le_of_ble_eq_true rfl)⟩ ⟨Nat.zero_le _, Nat.zero_le _⟩ ?_
  refine v_istore_n dX10_lawClause_16 rfl (by decide) rfl ?_
  refine v_aload_n 1 dX10_lawClause_17 rfl rfl ?_
  refine r_Model_texts dX10_lawClause_18 fl_X10_16 ?_
  refine v_iload_n 2 dX10_lawClause_21 rfl rfl ?_
  refine v_iconst dX10_lawClause_22 (by decide : _ = (2 : Int32)) ?_
  refine v_iadd dX10_lawClause_23 ?_
  refine v_aload_n 1 dX10_lawClause_24 rfl rfl ?_
  refine r_Model_written dX10_lawClause_25 fl_X10_129 ?_
  obtain ⟨g4, hh⟩ := chk_some hh
  replace g4 := inb_in g4
  refine st_mtexts dX10_lawClause_28 g4 ?_
  replace hh := lt_of hh
  refine v_iload_n 0 dX10_lawClause_29 rfl rfl ?_
  obtain rfl := Option.some.inj hh
  exact v_iret dX10_lawClause_30 rfl (Nat.zero_le _) (Nat.zero_le _) ⟨rfl, rfl⟩
def f_X10_pair (N : Nat) (S : St) (x1 : Int32) (x2 : Int32) (x3 : Int32) (x4 : Int64) (x6 : Int32) : Option (Int32 × St) :=
  bnd (f_X10_figure N S (x1 + (1 : Int32)) x2 x3) fun q1 =>
 if q1.1 = (0 : Int32) then
  (bnd (f_X10_isWord q1.2 x4) fun q2 =>
 if q2 = (0 : Int32) then
  (some ((1 : Int32), q1.2))
  else
  (bnd (f_X10_nextToken N q1.2 ) fun q3 =>
 bnd (f_X10_figure N q3 (x1 + (2 : Int32)) (0 : Int32) x6) fun q4 =>
 some (q4.1, q4.2)))
  else
  (some (q1.1, q1.2))
set_option maxRecDepth 100000 in
set_option maxHeartbeats 4000000 in
theorem t_X10_pair {l : Launch} {G : v_G} {N : Nat} {S : St}   {x1 : Int32} {x2 : Int32} {x3 : Int32} {x4 : Int64} {x6 : Int32} {r : Int32 × St} (hh : f_X10_pair N S x1 x2 x3 x4 x6 = some r) : v_M l G yX10_pair cX10_pair 8 (some .int) 3 0 0 [.ref (v_B G + 291), .int x1, .int x2, .int x3, .long x4, .int x6] (lay G S) (QI r.1 (lay G r.2)) := by
  refine v_entry (by decide) (Nat.le_of_ble_eq_true rfl) ?_
  unfold f_X10_pair at hh
  show V l G yX10_pair cX10_pair 8 (some .int) (v_rm 3 0 0) (QI r.1 (lay G r.2)) 0 0 0 [(0, .ref (v_B G + 291)), (1, .int x1), (2, .int x2), (3, .int x3), (4, .long x4), (6, .int x6)] [] (lay G S)
  refine v_aload_n 0 dX10_pair_0 rfl rfl ?_
  refine v_iload_n 1 dX10_pair_1 rfl rfl ?_
  refine v_iconst dX10_pair_2 (by decide : _ = (1 : Int32)) ?_
  refine v_iadd dX10_pair_3 ?_
  refine v_iload_n 2 dX10_pair_4 rfl rfl ?_
  refine v_iload_n 3 dX10_pair_5 rfl rfl ?_
  obtain ⟨q1, eq1, hh⟩ := bnd_some hh
  refine v_callVi (t_X10_figure eq1) dX10_pair_6 y_X10_figure ml_X10_206 (ci := 9) rfl rfl (e_Model) rfl rfl (Nat.le_of_ble_eq_true rfl) ⟨(Nat.le_of_ble_eq_true rfl), (Nat.le_of_ble_eq_true rfl)⟩ ⟨Nat.zero_le _, Nat.zero_le _⟩ ?_
  refine v_istore dX10_pair_9 (by decide) rfl ?_
  refine v_iload 0 dX10_pair_11 rfl ?_
  refine v_if_eq (tgt := 19) dX10_pair_13 (by decide) (fun c => ?_) (fun c => ?_)
  · replace hh := (if_pos c).symm.trans hh
    refine v_aload_n 1 dX10_pair_19 rfl rfl ?_
    refine v_lload 5 dX10_pair_20 rfl ?_
    obtain ⟨q2, eq2, hh⟩ := bnd_some hh
    refine v_callVi (t_X10_isWord eq2) dX10_pair_22 y_X10_isWord ml_X10_178 (ci := 9) rfl rfl (e_Model) rfl rfl (Nat.le_of_ble_eq_true rfl) ⟨(Nat.le_of_ble_eq_true rfl), (Nat.le_of_ble_eq_true rfl)⟩ ⟨Nat.zero_le _, Nat.zero_le _⟩ ?_
    refine v_if_ne (tgt := 30) dX10_pair_25 (by decide) (fun c => ?_) (fun c => ?_)
    · replace hh := (if_neg c).symm.trans hh
      refine v_aload_n 1 dX10_pair_30 rfl rfl ?_
      obtain ⟨q3, eq3, hh⟩ := bnd_some hh
      refine v_callVv (t_X10_nextToken eq3) dX10_pair_31 y_X10_nextToken ml_X10_156 (ci := 9) rfl rfl (e_Model) rfl rfl (Nat.le_of_ble_eq_true rfl) ⟨(Nat.le_of_ble_eq_true rfl), (Nat.le_of_ble_eq_true rfl)⟩ ⟨Nat.zero_le _, Nat.zero_le _⟩ ?_
      refine v_aload_n 1 dX10_pair_34 rfl rfl ?_
      refine v_iload_n 2 dX10_pair_35 rfl rfl ?_
      refine v_iconst dX10_pair_36 (by decide : _ = (2 : Int32)) ?_
      refine v_iadd dX10_pair_37 ?_
      refine v_iconst dX10_pair_38 (by decide : _ = (0 : Int32)) ?_
      refine v_iload 6 dX10_pair_39 rfl ?_
      obtain ⟨q4, eq4, hh⟩ := bnd_some hh
      refine v_callVi (t_X10_figure eq4) dX10_pair_41 y_X10_figure ml_X10_206 (ci := 9) rfl rfl (e_Model) rfl rfl (Nat.le_of_ble_eq_true rfl) ⟨(Nat.le_of_ble_eq_true rfl), (Nat.le_of_ble_eq_true rfl)⟩ ⟨Nat.zero_le _, Nat.zero_le _⟩ ?_
      obtain rfl := Option.some.inj hh
      exact v_iret dX10_pair_44 rfl (Nat.zero_le _) (Nat.zero_le _) ⟨rfl, rfl⟩
    · replace hh := (if_pos c).symm.trans hh
      refine v_iconst dX10_pair_28 (by decide : _ = (1 : Int32)) ?_
      obtain rfl := Option.some.inj hh
      exact v_iret dX10_pair_29 rfl (Nat.zero_le _) (Nat.zero_le _) ⟨rfl, rfl⟩
  · replace hh := (if_neg c).symm.trans hh
    refine v_iload 0 dX10_pair_16 rfl ?_
    obtain rfl := Option.some.inj hh
    exact v_iret dX10_pair_18 rfl (Nat.zero_le _) (Nat.zero_le _) ⟨rfl, rfl⟩
def f_X10_body (N : Nat) (S : St) (x1 : Int32) (x2 : Int32) : Option (Int32 × St) :=
  if x1 = (2 : Int32) then
  (bnd (f_X10_figure N S (x2 + (1 : Int32)) (1 : Int32) (9 : Int32)) fun q1 =>
 some (q1.1, q1.2))
  else if x1 = (3 : Int32) then
  (bnd (f_X10_w2 S (97 : Int32) (116 : Int32)) fun q2 =>
 bnd (f_X10_pair N S x2 (0 : Int32) (999 : Int32) q2 (11 : Int32)) fun q3 =>
 some (q3.1, q3.2))
  else if x1 = (4 : Int32) then
  (bnd (f_X10_figure N S (x2 + (1 : Int32)) (0 : Int32) (11 : Int32)) fun q4 =>
 some (q4.1, q4.2))
  else if x1 = (5 : Int32) then
  (bnd (f_X10_w2 S (98 : Int32) (121 : Int32)) fun q5 =>
 bnd (f_X10_pair N S x2 (0 : Int32) (11 : Int32) q5 (3 : Int32)) fun q6 =>
 some (q6.1, q6.2))
  else if x1 = (6 : Int32) then
  (bnd (f_X10_w2 S (98 : Int32) (121 : Int32)) fun q7 =>
 bnd (f_X10_pair N S x2 (0 : Int32) (11 : Int32) q7 (3 : Int32)) fun q8 =>
 some (q8.1, q8.2))
  else if x1 = (7 : Int32) then
  (some ((0 : Int32), S))
  else if x1 = (8 : Int32) then
  (bnd (f_X10_w2 S (97 : Int32) (116 : Int32)) fun q9 =>
 bnd (f_X10_pair N S x2 (1 : Int32) (99 : Int32) q9 (11 : Int32)) fun q10 =>
 some (q10.1, q10.2))
  else if x1 = (9 : Int32) then
  (bnd (f_X10_figure N S (x2 + (1 : Int32)) (1 : Int32) (60 : Int32)) fun q11 =>
 some (q11.1, q11.2))
  else (bnd (f_X10_lawClause N S x2) fun q12 =>
 some (q12.1, q12.2))
set_option maxRecDepth 100000 in
set_option maxHeartbeats 4000000 in
theorem t_X10_body {l : Launch} {G : v_G} {N : Nat} {S : St}   {x1 : Int32} {x2 : Int32} {r : Int32 × St} (hh : f_X10_body N S x1 x2 = some r) : v_M l G yX10_body cX10_body 3 (some .int) 8 0 0 [.ref (v_B G + 291), .int x1, .int x2] (lay G S) (QI r.1 (lay G r.2)) := by
  refine v_entry (by decide) (Nat.le_of_ble_eq_true rfl) ?_
  unfold f_X10_body at hh
  show V l G yX10_body cX10_body 3 (some .int) (v_rm 8 0 0) (QI r.1 (lay G r.2)) 0 0 0 [(0, .ref (v_B G + 291)), (1, .int x1), (2, .int x2)] [] (lay G S)
  refine v_iload_n 1 dX10_body_0 rfl rfl ?_
  refine sw_if hh (fun c0 hh => ?_) (fun c0 hh => ?_)
  · skip
    refine v_tableIn (tgt := 48) dX10_body_1 (by rw [c0]; decide) (by rw [c0]; decide) (by rw [c0] <;> rfl) (by decide) ?_
    refine v_aload_n 0 dX10_body_48 rfl rfl ?_
    refine v_iload_n 2 dX10_body_49 rfl rfl ?_
    refine v_iconst dX10_body_50 (by decide : _ = (1 : Int32)) ?_
    refine v_iadd dX10_body_51 ?_
    refine v_iconst dX10_body_52 (by decide : _ = (1 : Int32)) ?_
    refine v_bipush dX10_body_53 (by decide : _ = (9 : Int32)) ?_
    obtain ⟨q1, eq1, hh⟩ := bnd_some hh
    refine v_callVi (t_X10_figure eq1) dX10_body_55 y_X10_figure ml_X10_206 (ci := 9) rfl rfl (e_Model) rfl rfl (Nat.le_of_ble_eq_true rfl) ⟨(Nat.le_of_ble_eq_true rfl), (Nat.le_of_ble_eq_true rfl)⟩ ⟨Nat.zero_le _, Nat.zero_le _⟩ ?_
    obtain rfl := Option.some.inj hh
    exact v_iret dX10_body_58 rfl (Nat.zero_le _) (Nat.zero_le _) ⟨rfl, rfl⟩
  · skip
    refine sw_if hh (fun c1 hh => ?_) (fun c1 hh => ?_)
    · skip
      refine v_tableIn (tgt := 59) dX10_body_1 (by rw [c1]; decide) (by rw [c1]; decide) (by rw [c1] <;> rfl) (by decide) ?_
      refine v_aload_n 0 dX10_body_59 rfl rfl ?_
      refine v_iload_n 2 dX10_body_60 rfl rfl ?_
      refine v_iconst dX10_body_61 (by decide : _ = (0 : Int32)) ?_
      refine v_sipush dX10_body_62 (by decide : _ = (999 : Int32)) ?_
      refine v_bipush dX10_body_65 (by decide : _ = (97 : Int32)) ?_
      refine v_bipush dX10_body_67 (by decide : _ = (116 : Int32)) ?_
      obtain ⟨q2, eq2, hh⟩ := bnd_some hh
      refine v_callSl (t_X10_w2 eq2) dX10_body_69 y_X10_w2 ml_X10_110 rfl rfl (Nat.le_of_ble_eq_true rfl) ⟨(Nat.le_of_ble_eq_true rfl), (Nat.le_of_ble_eq_true rfl)⟩ ⟨Nat.zero_le _, Nat.zero_le _⟩ ?_
      refine v_bipush dX10_body_72 (by decide : _ = (11 : Int32)) ?_
      obtain ⟨q3, eq3, hh⟩ := bnd_some hh
      refine v_callVi (t_X10_pair eq3) dX10_body_74 y_X10_pair ml_X10_210 (ci := 9) rfl rfl (e_Model) rfl rfl (Nat.le_of_ble_eq_true rfl) ⟨(Nat.le_of_ble_eq_true rfl), (Nat.le_of_ble_eq_true rfl)⟩ ⟨Nat.zero_le _, Nat.zero_le _⟩ ?_
      obtain rfl := Option.some.inj hh
      exact v_iret dX10_body_77 rfl (Nat.zero_le _) (Nat.zero_le _) ⟨rfl, rfl⟩
    · skip
      refine sw_if hh (fun c2 hh => ?_) (fun c2 hh => ?_)
      · skip
        refine v_tableIn (tgt := 78) dX10_body_1 (by rw [c2]; decide) (by rw [c2]; decide) (by rw [c2] <;> rfl) (by decide) ?_
        refine v_aload_n 0 dX10_body_78 rfl rfl ?_
        refine v_iload_n 2 dX10_body_79 rfl rfl ?_
        refine v_iconst dX10_body_80 (by decide : _ = (1 : Int32)) ?_
        refine v_iadd dX10_body_81 ?_
        refine v_iconst dX10_body_82 (by decide : _ = (0 : Int32)) ?_
        refine v_bipush dX10_body_83 (by decide : _ = (11 : Int32)) ?_
        obtain ⟨q4, eq4, hh⟩ := bnd_some hh
        refine v_callVi (t_X10_figure eq4) dX10_body_85 y_X10_figure ml_X10_206 (ci := 9) rfl rfl (e_Model) rfl rfl (Nat.le_of_ble_eq_true rfl) ⟨(Nat.le_of_ble_eq_true rfl), (Nat.le_of_ble_eq_true rfl)⟩ ⟨Nat.zero_le _, Nat.zero_le _⟩ ?_
        obtain rfl := Option.some.inj hh
        exact v_iret dX10_body_88 rfl (Nat.zero_le _) (Nat.zero_le _) ⟨rfl, rfl⟩
      · skip
        refine sw_if hh (fun c3 hh => ?_) (fun c3 hh => ?_)
        · skip
          refine v_tableIn (tgt := 89) dX10_body_1 (by rw [c3]; decide) (by rw [c3]; decide) (by rw [c3] <;> rfl) (by decide) ?_
          refine v_aload_n 0 dX10_body_89 rfl rfl ?_
          refine v_iload_n 2 dX10_body_90 rfl rfl ?_
          refine v_iconst dX10_body_91 (by decide : _ = (0 : Int32)) ?_
          refine v_bipush dX10_body_92 (by decide : _ = (11 : Int32)) ?_
          refine v_bipush dX10_body_94 (by decide : _ = (98 : Int32)) ?_
          refine v_bipush dX10_body_96 (by decide : _ = (121 : Int32)) ?_
          obtain ⟨q5, eq5, hh⟩ := bnd_some hh
          refine v_callSl (t_X10_w2 eq5) dX10_body_98 y_X10_w2 ml_X10_110 rfl rfl (Nat.le_of_ble_eq_true rfl) ⟨(Nat.le_of_ble_eq_true rfl), (Nat.le_of_ble_eq_true rfl)⟩ ⟨Nat.zero_le _, Nat.zero_le _⟩ ?_
          refine v_iconst dX10_body_101 (by decide : _ = (3 : Int32)) ?_
          obtain ⟨q6, eq6, hh⟩ := bnd_some hh
          refine v_callVi (t_X10_pair eq6) dX10_body_102 y_X10_pair ml_X10_210 (ci := 9) rfl rfl (e_Model) rfl rfl (Nat.le_of_ble_eq_true rfl) ⟨(Nat.le_of_ble_eq_true rfl), (Nat.le_of_ble_eq_true rfl)⟩ ⟨Nat.zero_le _, Nat.zero_le _⟩ ?_
          obtain rfl := Option.some.inj hh
          exact v_iret dX10_body_105 rfl (Nat.zero_le _) (Nat.zero_le _) ⟨rfl, rfl⟩
        · skip
          refine sw_if hh (fun c4 hh => ?_) (fun c4 hh => ?_)
          · skip
            refine v_tableIn (tgt := 106) dX10_body_1 (by rw [c4]; decide) (by rw [c4]; decide) (by rw [c4] <;> rfl) (by decide) ?_
            refine v_aload_n 0 dX10_body_106 rfl rfl ?_
            refine v_iload_n 2 dX10_body_107 rfl rfl ?_
            refine v_iconst dX10_body_108 (by decide : _ = (0 : Int32)) ?_
            refine v_bipush dX10_body_109 (by decide : _ = (11 : Int32)) ?_
            refine v_bipush dX10_body_111 (by decide : _ = (98 : Int32)) ?_
            refine v_bipush dX10_body_113 (by decide : _ = (121 : Int32)) ?_
            obtain ⟨q7, eq7, hh⟩ := bnd_some hh
            refine v_callSl (t_X10_w2 eq7) dX10_body_115 y_X10_w2 ml_X10_110 rfl rfl (Nat.le_of_ble_eq_true rfl) ⟨(Nat.le_of_ble_eq_true rfl), (Nat.le_of_ble_eq_true rfl)⟩ ⟨Nat.zero_le _, Nat.zero_le _⟩ ?_
            refine v_iconst dX10_body_118 (by decide : _ = (3 : Int32)) ?_
            obtain ⟨q8, eq8, hh⟩ := bnd_some hh
            refine v_callVi (t_X10_pair eq8) dX10_body_119 y_X10_pair ml_X10_210 (ci := 9) rfl rfl (e_Model) rfl rfl (Nat.le_of_ble_eq_true rfl) ⟨(Nat.le_of_ble_eq_true rfl), (Nat.le_of_ble_eq_true rfl)⟩ ⟨Nat.zero_le _, Nat.zero_le _⟩ ?_
            obtain rfl := Option.some.inj hh
            exact v_iret dX10_body_122 rfl (Nat.zero_le _) (Nat.zero_le _) ⟨rfl, rfl⟩
          · skip
            refine sw_if hh (fun c5 hh => ?_) (fun c5 hh => ?_)
            · skip
              refine v_tableIn (tgt := 123) dX10_body_1 (by rw [c5]; decide) (by rw [c5]; decide) (by rw [c5] <;> rfl) (by decide) ?_
              refine v_iconst dX10_body_123 (by decide : _ = (0 : Int32)) ?_
              obtain rfl := Option.some.inj hh
              exact v_iret dX10_body_124 rfl (Nat.zero_le _) (Nat.zero_le _) ⟨rfl, rfl⟩
            · skip
              refine sw_if hh (fun c6 hh => ?_) (fun c6 hh => ?_)
              · skip
                refine v_tableIn (tgt := 125) dX10_body_1 (by rw [c6]; decide) (by rw [c6]; decide) (by rw [c6] <;> rfl) (by decide) ?_
                refine v_aload_n 0 dX10_body_125 rfl rfl ?_
                refine v_iload_n 2 dX10_body_126 rfl rfl ?_
                refine v_iconst dX10_body_127 (by decide : _ = (1 : Int32)) ?_
                refine v_bipush dX10_body_128 (by decide : _ = (99 : Int32)) ?_
                refine v_bipush dX10_body_130 (by decide : _ = (97 : Int32)) ?_
                refine v_bipush dX10_body_132 (by decide : _ = (116 : Int32)) ?_
                obtain ⟨q9, eq9, hh⟩ := bnd_some hh
                refine v_callSl (t_X10_w2 eq9) dX10_body_134 y_X10_w2 ml_X10_110 rfl rfl (Nat.le_of_ble_eq_true rfl) ⟨(Nat.le_of_ble_eq_true rfl), (Nat.le_of_ble_eq_true rfl)⟩ ⟨Nat.zero_le _, Nat.zero_le _⟩ ?_
                refine v_bipush dX10_body_137 (by decide : _ = (11 : Int32)) ?_
                obtain ⟨q10, eq10, hh⟩ := bnd_some hh
                refine v_callVi (t_X10_pair eq10) dX10_body_139 y_X10_pair ml_X10_210 (ci := 9) rfl rfl (e_Model) rfl rfl (Nat.le_of_ble_eq_true rfl) ⟨(Nat.le_of_ble_eq_true rfl), (Nat.le_of_ble_eq_true rfl)⟩ ⟨Nat.zero_le _, Nat.zero_le _⟩ ?_
                obtain rfl := Option.some.inj hh
                exact v_iret dX10_body_142 rfl (Nat.zero_le _) (Nat.zero_le _) ⟨rfl, rfl⟩
              · skip
                refine sw_if hh (fun c7 hh => ?_) (fun c7 hh => ?_)
                · skip
                  refine v_tableIn (tgt := 143) dX10_body_1 (by rw [c7]; decide) (by rw [c7]; decide) (by rw [c7] <;> rfl) (by decide) ?_
                  refine v_aload_n 0 dX10_body_143 rfl rfl ?_
                  refine v_iload_n 2 dX10_body_144 rfl rfl ?_
                  refine v_iconst dX10_body_145 (by decide : _ = (1 : Int32)) ?_
                  refine v_iadd dX10_body_146 ?_
                  refine v_iconst dX10_body_147 (by decide : _ = (1 : Int32)) ?_
                  refine v_bipush dX10_body_148 (by decide : _ = (60 : Int32)) ?_
                  obtain ⟨q11, eq11, hh⟩ := bnd_some hh
                  refine v_callVi (t_X10_figure eq11) dX10_body_150 y_X10_figure ml_X10_206 (ci := 9) rfl rfl (e_Model) rfl rfl (Nat.le_of_ble_eq_true rfl) ⟨(Nat.le_of_ble_eq_true rfl), (Nat.le_of_ble_eq_true rfl)⟩ ⟨Nat.zero_le _, Nat.zero_le _⟩ ?_
                  obtain rfl := Option.some.inj hh
                  exact v_iret dX10_body_153 rfl (Nat.zero_le _) (Nat.zero_le _) ⟨rfl, rfl⟩
                · skip
                  refine v_tableOut (tgt := 154) dX10_body_1 (sw_out 8 (by decide) (fun k hk => match k, hk with | 0, _ => fun h => c0 (h.trans (by decide)) | 1, _ => fun h => c1 (h.trans (by decide)) | 2, _ => fun h => c2 (h.trans (by decide)) | 3, _ => fun h => c3 (h.trans (by decide)) | 4, _ => fun h => c4 (h.trans (by decide)) | 5, _ => fun h => c5 (h.trans (by decide)) | 6, _ => fun h => c6 (h.trans (by decide)) | 7, _ => fun h => c7 (h.trans (by decide)) | k + 8, hk => absurd hk (by omega))) (by decide) ?_
                  refine v_aload_n 0 dX10_body_154 rfl rfl ?_
                  refine v_iload_n 2 dX10_body_155 rfl rfl ?_
                  obtain ⟨q12, eq12, hh⟩ := bnd_some hh
                  refine v_callVi (t_X10_lawClause eq12) dX10_body_156 y_X10_lawClause ml_X10_214 (ci := 9) rfl rfl (e_Model) rfl rfl (Nat.le_of_ble_eq_true rfl) ⟨(Nat.le_of_ble_eq_true rfl), (Nat.le_of_ble_eq_true rfl)⟩ ⟨Nat.zero_le _, Nat.zero_le _⟩ ?_
                  obtain rfl := Option.some.inj hh
                  exact v_iret dX10_body_159 rfl (Nat.zero_le _) (Nat.zero_le _) ⟨rfl, rfl⟩
def f_X10_sortOf  (S : St)  : Option (Int32) :=
  bnd (f_X10_w5 S (109 : Int32) (111 : Int32) (118 : Int32) (101 : Int32) (115 : Int32)) fun q1 =>
 bnd (f_X10_isWord S q1) fun q2 =>
 if q2 = (0 : Int32) then
  (bnd (f_X10_w5 S (116 : Int32) (101 : Int32) (97 : Int32) (114 : Int32) (115 : Int32)) fun q3 =>
 bnd (f_X10_isWord S q3) fun q4 =>
 if q4 = (0 : Int32) then
  (bnd (f_X10_w4 S (104 : Int32) (97 : Int32) (110 : Int32) (100 : Int32)) fun q5 =>
 bnd (f_X10_isWord S q5) fun q6 =>
 if q6 = (0 : Int32) then
  (bnd (f_X10_w5 S (100 : Int32) (111 : Int32) (117 : Int32) (103 : Int32) (104 : Int32)) fun q7 =>
 bnd (f_X10_isWord S q7) fun q8 =>
 if q8 = (0 : Int32) then
  (bnd (f_X10_w4 S (116 : Int32) (111 : Int32) (119 : Int32) (110 : Int32)) fun q9 =>
 bnd (f_X10_isWord S q9) fun q10 =>
 if q10 = (0 : Int32) then
  (bnd (f_X10_w4 S (108 : Int32) (101 : Int32) (102 : Int32) (116 : Int32)) fun q11 =>
 bnd (f_X10_isWord S q11) fun q12 =>
 if q12 = (0 : Int32) then
  (bnd (f_X10_w5 S (114 : Int32) (105 : Int32) (103 : Int32) (104 : Int32) (116 : Int32)) fun q13 =>
 bnd (f_X10_isWord S q13) fun q14 =>
 if q14 = (0 : Int32) then
  (bnd (f_X10_w4 S (116 : Int32) (114 : Int32) (105 : Int32) (109 : Int32)) fun q15 =>
 bnd (f_X10_isWord S q15) fun q16 =>
 if q16 = (0 : Int32) then
  (bnd (f_X10_w5 S (112 : Int32) (97 : Int32) (116 : Int32) (99 : Int32) (104 : Int32)) fun q17 =>
 bnd (f_X10_isWord S q17) fun q18 =>
 if q18 = (0 : Int32) then
  (bnd (f_X10_w4 S (116 : Int32) (117 : Int32) (114 : Int32) (110 : Int32)) fun q19 =>
 bnd (f_X10_isWord S q19) fun q20 =>
 if q20 = (0 : Int32) then
  (some (-1 : Int32))
  else
  (some (9 : Int32)))
  else
  (some (8 : Int32)))
  else
  (some (7 : Int32)))
  else
  (some (6 : Int32)))
  else
  (some (5 : Int32)))
  else
  (some (4 : Int32)))
  else
  (some (3 : Int32)))
  else
  (some (2 : Int32)))
  else
  (some (1 : Int32)))
  else
  (some (0 : Int32))
set_option maxRecDepth 100000 in
set_option maxHeartbeats 4000000 in
theorem t_X10_sortOf {l : Launch} {G : v_G} {S : St}    {r : Int32} (hh : f_X10_sortOf  S  = some r) : v_M l G yX10_sortOf cX10_sortOf 1 (some .int) 4 0 0 [.ref (v_B G + 291)] (lay G S) (QI r (lay G S)) := by
  refine v_entry (by decide) (Nat.le_of_ble_eq_true rfl) ?_
  unfold f_X10_sortOf at hh
  show V l G yX10_sortOf cX10_sortOf 1 (some .int) (v_rm 4 0 0) (QI r (lay G S)) 0 0 0 [(0, .ref (v_B G + 291))] [] (lay G S)
  refine v_aload_n 0 dX10_sortOf_0 rfl rfl ?_
  refine v_bipush dX10_sortOf_1 (by decide : _ = (109 : Int32)) ?_
  refine v_bipush dX10_sortOf_3 (by decide : _ = (111 : Int32)) ?_
  refine v_bipush dX10_sortOf_5 (by decide : _ = (118 : Int32)) ?_
  refine v_bipush dX10_sortOf_7 (by decide : _ = (101 : Int32)) ?_
  refine v_bipush dX10_sortOf_9 (by decide : _ = (115 : Int32)) ?_
  obtain ⟨q1, eq1, hh⟩ := bnd_some hh
  refine v_callSl (t_X10_w5 eq1) dX10_sortOf_11 y_X10_w5 ml_X10_122 rfl rfl (Nat.le_of_ble_eq_true rfl) ⟨(Nat.le_of_ble_eq_true rfl), (Nat.le_of_ble_eq_true rfl)⟩ ⟨Nat.zero_le _, Nat.zero_le _⟩ ?_
  obtain ⟨q2, eq2, hh⟩ := bnd_some hh
  refine v_callVi (t_X10_isWord eq2) dX10_sortOf_14 y_X10_isWord ml_X10_178 (ci := 9) rfl rfl (e_Model) rfl rfl (Nat.le_of_ble_eq_true rfl) ⟨(Nat.le_of_ble_eq_true rfl), (Nat.le_of_ble_eq_true rfl)⟩ ⟨Nat.zero_le _, Nat.zero_le _⟩ ?_
  refine v_if_eq (tgt := 22) dX10_sortOf_17 (by decide) (fun c => ?_) (fun c => ?_)
  · replace hh := (if_pos c).symm.trans hh
    refine v_aload_n 0 dX10_sortOf_22 rfl rfl ?_
    refine v_bipush dX10_sortOf_23 (by decide : _ = (116 : Int32)) ?_
    refine v_bipush dX10_sortOf_25 (by decide : _ = (101 : Int32)) ?_
    refine v_bipush dX10_sortOf_27 (by decide : _ = (97 : Int32)) ?_
    refine v_bipush dX10_sortOf_29 (by decide : _ = (114 : Int32)) ?_
    refine v_bipush dX10_sortOf_31 (by decide : _ = (115 : Int32)) ?_
    obtain ⟨q3, eq3, hh⟩ := bnd_some hh
    refine v_callSl (t_X10_w5 eq3) dX10_sortOf_33 y_X10_w5 ml_X10_122 rfl rfl (Nat.le_of_ble_eq_true rfl) ⟨(Nat.le_of_ble_eq_true rfl), (Nat.le_of_ble_eq_true rfl)⟩ ⟨Nat.zero_le _, Nat.zero_le _⟩ ?_
    obtain ⟨q4, eq4, hh⟩ := bnd_some hh
    refine v_callVi (t_X10_isWord eq4) dX10_sortOf_36 y_X10_isWord ml_X10_178 (ci := 9) rfl rfl (e_Model) rfl rfl (Nat.le_of_ble_eq_true rfl) ⟨(Nat.le_of_ble_eq_true rfl), (Nat.le_of_ble_eq_true rfl)⟩ ⟨Nat.zero_le _, Nat.zero_le _⟩ ?_
    refine v_if_eq (tgt := 44) dX10_sortOf_39 (by decide) (fun c => ?_) (fun c => ?_)
    · replace hh := (if_pos c).symm.trans hh
      refine v_aload_n 0 dX10_sortOf_44 rfl rfl ?_
      refine v_bipush dX10_sortOf_45 (by decide : _ = (104 : Int32)) ?_
      refine v_bipush dX10_sortOf_47 (by decide : _ = (97 : Int32)) ?_
      refine v_bipush dX10_sortOf_49 (by decide : _ = (110 : Int32)) ?_
      refine v_bipush dX10_sortOf_51 (by decide : _ = (100 : Int32)) ?_
      obtain ⟨q5, eq5, hh⟩ := bnd_some hh
      refine v_callSl (t_X10_w4 eq5) dX10_sortOf_53 y_X10_w4 ml_X10_118 rfl rfl (Nat.le_of_ble_eq_true rfl) ⟨(Nat.le_of_ble_eq_true rfl), (Nat.le_of_ble_eq_true rfl)⟩ ⟨Nat.zero_le _, Nat.zero_le _⟩ ?_
      obtain ⟨q6, eq6, hh⟩ := bnd_some hh
      refine v_callVi (t_X10_isWord eq6) dX10_sortOf_56 y_X10_isWord ml_X10_178 (ci := 9) rfl rfl (e_Model) rfl rfl (Nat.le_of_ble_eq_true rfl) ⟨(Nat.le_of_ble_eq_true rfl), (Nat.le_of_ble_eq_true rfl)⟩ ⟨Nat.zero_le _, Nat.zero_le _⟩ ?_
      refine v_if_eq (tgt := 64) dX10_sortOf_59 (by decide) (fun c => ?_) (fun c => ?_)
      · replace hh := (if_pos c).symm.trans hh
        refine v_aload_n 0 dX10_sortOf_64 rfl rfl ?_
        refine v_bipush dX10_sortOf_65 (by decide : _ = (100 : Int32)) ?_
        refine v_bipush dX10_sortOf_67 (by decide : _ = (111 : Int32)) ?_
        refine v_bipush dX10_sortOf_69 (by decide : _ = (117 : Int32)) ?_
        refine v_bipush dX10_sortOf_71 (by decide : _ = (103 : Int32)) ?_
        refine v_bipush dX10_sortOf_73 (by decide : _ = (104 : Int32)) ?_
        obtain ⟨q7, eq7, hh⟩ := bnd_some hh
        refine v_callSl (t_X10_w5 eq7) dX10_sortOf_75 y_X10_w5 ml_X10_122 rfl rfl (Nat.le_of_ble_eq_true rfl) ⟨(Nat.le_of_ble_eq_true rfl), (Nat.le_of_ble_eq_true rfl)⟩ ⟨Nat.zero_le _, Nat.zero_le _⟩ ?_
        obtain ⟨q8, eq8, hh⟩ := bnd_some hh
        refine v_callVi (t_X10_isWord eq8) dX10_sortOf_78 y_X10_isWord ml_X10_178 (ci := 9) rfl rfl (e_Model) rfl rfl (Nat.le_of_ble_eq_true rfl) ⟨(Nat.le_of_ble_eq_true rfl), (Nat.le_of_ble_eq_true rfl)⟩ ⟨Nat.zero_le _, Nat.zero_le _⟩ ?_
        refine v_if_eq (tgt := 86) dX10_sortOf_81 (by decide) (fun c => ?_) (fun c => ?_)
        · replace hh := (if_pos c).symm.trans hh
          refine v_aload_n 0 dX10_sortOf_86 rfl rfl ?_
          refine v_bipush dX10_sortOf_87 (by decide : _ = (116 : Int32)) ?_
          refine v_bipush dX10_sortOf_89 (by decide : _ = (111 : Int32)) ?_
          refine v_bipush dX10_sortOf_91 (by decide : _ = (119 : Int32)) ?_
          refine v_bipush dX10_sortOf_93 (by decide : _ = (110 : Int32)) ?_
          obtain ⟨q9, eq9, hh⟩ := bnd_some hh
          refine v_callSl (t_X10_w4 eq9) dX10_sortOf_95 y_X10_w4 ml_X10_118 rfl rfl (Nat.le_of_ble_eq_true rfl) ⟨(Nat.le_of_ble_eq_true rfl), (Nat.le_of_ble_eq_true rfl)⟩ ⟨Nat.zero_le _, Nat.zero_le _⟩ ?_
          obtain ⟨q10, eq10, hh⟩ := bnd_some hh
          refine v_callVi (t_X10_isWord eq10) dX10_sortOf_98 y_X10_isWord ml_X10_178 (ci := 9) rfl rfl (e_Model) rfl rfl (Nat.le_of_ble_eq_true rfl) ⟨(Nat.le_of_ble_eq_true rfl), (Nat.le_of_ble_eq_true rfl)⟩ ⟨Nat.zero_le _, Nat.zero_le _⟩ ?_
          refine v_if_eq (tgt := 106) dX10_sortOf_101 (by decide) (fun c => ?_) (fun c => ?_)
          · replace hh := (if_pos c).symm.trans hh
            refine v_aload_n 0 dX10_sortOf_106 rfl rfl ?_
            refine v_bipush dX10_sortOf_107 (by decide : _ = (108 : Int32)) ?_
            refine v_bipush dX10_sortOf_109 (by decide : _ = (101 : Int32)) ?_
            refine v_bipush dX10_sortOf_111 (by decide : _ = (102 : Int32)) ?_
            refine v_bipush dX10_sortOf_113 (by decide : _ = (116 : Int32)) ?_
            obtain ⟨q11, eq11, hh⟩ := bnd_some hh
            refine v_callSl (t_X10_w4 eq11) dX10_sortOf_115 y_X10_w4 ml_X10_118 rfl rfl (Nat.le_of_ble_eq_true rfl) ⟨(Nat.le_of_ble_eq_true rfl), (Nat.le_of_ble_eq_true rfl)⟩ ⟨Nat.zero_le _, Nat.zero_le _⟩ ?_
            obtain ⟨q12, eq12, hh⟩ := bnd_some hh
            refine v_callVi (t_X10_isWord eq12) dX10_sortOf_118 y_X10_isWord ml_X10_178 (ci := 9) rfl rfl (e_Model) rfl rfl (Nat.le_of_ble_eq_true rfl) ⟨(Nat.le_of_ble_eq_true rfl), (Nat.le_of_ble_eq_true rfl)⟩ ⟨Nat.zero_le _, Nat.zero_le _⟩ ?_
            refine v_if_eq (tgt := 126) dX10_sortOf_121 (by decide) (fun c => ?_) (fun c => ?_)
            · replace hh := (if_pos c).symm.trans hh
              refine v_aload_n 0 dX10_sortOf_126 rfl rfl ?_
              refine v_bipush dX10_sortOf_127 (by decide : _ = (114 : Int32)) ?_
              refine v_bipush dX10_sortOf_129 (by decide : _ = (105 : Int32)) ?_
              refine v_bipush dX10_sortOf_131 (by decide : _ = (103 : Int32)) ?_
              refine v_bipush dX10_sortOf_133 (by decide : _ = (104 : Int32)) ?_
              refine v_bipush dX10_sortOf_135 (by decide : _ = (116 : Int32)) ?_
              obtain ⟨q13, eq13, hh⟩ := bnd_some hh
              refine v_callSl (t_X10_w5 eq13) dX10_sortOf_137 y_X10_w5 ml_X10_122 rfl rfl (Nat.le_of_ble_eq_true rfl) ⟨(Nat.le_of_ble_eq_true rfl), (Nat.le_of_ble_eq_true rfl)⟩ ⟨Nat.zero_le _, Nat.zero_le _⟩ ?_
              obtain ⟨q14, eq14, hh⟩ := bnd_some hh
              refine v_callVi (t_X10_isWord eq14) dX10_sortOf_140 y_X10_isWord ml_X10_178 (ci := 9) rfl rfl (e_Model) rfl rfl (Nat.le_of_ble_eq_true rfl) ⟨(Nat.le_of_ble_eq_true rfl), (Nat.le_of_ble_eq_true rfl)⟩ ⟨Nat.zero_le _, Nat.zero_le _⟩ ?_
              refine v_if_eq (tgt := 149) dX10_sortOf_143 (by decide) (fun c => ?_) (fun c => ?_)
              · replace hh := (if_pos c).symm.trans hh
                refine v_aload_n 0 dX10_sortOf_149 rfl rfl ?_
                refine v_bipush dX10_sortOf_150 (by decide : _ = (116 : Int32)) ?_
                refine v_bipush dX10_sortOf_152 (by decide : _ = (114 : Int32)) ?_
                refine v_bipush dX10_sortOf_154 (by decide : _ = (105 : Int32)) ?_
                refine v_bipush dX10_sortOf_156 (by decide : _ = (109 : Int32)) ?_
                obtain ⟨q15, eq15, hh⟩ := bnd_some hh
                refine v_callSl (t_X10_w4 eq15) dX10_sortOf_158 y_X10_w4 ml_X10_118 rfl rfl (Nat.le_of_ble_eq_true rfl) ⟨(Nat.le_of_ble_eq_true rfl), (Nat.le_of_ble_eq_true rfl)⟩ ⟨Nat.zero_le _, Nat.zero_le _⟩ ?_
                obtain ⟨q16, eq16, hh⟩ := bnd_some hh
                refine v_callVi (t_X10_isWord eq16) dX10_sortOf_161 y_X10_isWord ml_X10_178 (ci := 9) rfl rfl (e_Model) rfl rfl (Nat.le_of_ble_eq_true rfl) ⟨(Nat.le_of_ble_eq_true rfl), (Nat.le_of_ble_eq_true rfl)⟩ ⟨Nat.zero_le _, Nat.zero_le _⟩ ?_
                refine v_if_eq (tgt := 170) dX10_sortOf_164 (by decide) (fun c => ?_) (fun c => ?_)
                · replace hh := (if_pos c).symm.trans hh
                  refine v_aload_n 0 dX10_sortOf_170 rfl rfl ?_
                  refine v_bipush dX10_sortOf_171 (by decide : _ = (112 : Int32)) ?_
                  refine v_bipush dX10_sortOf_173 (by decide : _ = (97 : Int32)) ?_
                  refine v_bipush dX10_sortOf_175 (by decide : _ = (116 : Int32)) ?_
                  refine v_bipush dX10_sortOf_177 (by decide : _ = (99 : Int32)) ?_
                  refine v_bipush dX10_sortOf_179 (by decide : _ = (104 : Int32)) ?_
                  obtain ⟨q17, eq17, hh⟩ := bnd_some hh
                  refine v_callSl (t_X10_w5 eq17) dX10_sortOf_181 y_X10_w5 ml_X10_122 rfl rfl (Nat.le_of_ble_eq_true rfl) ⟨(Nat.le_of_ble_eq_true rfl), (Nat.le_of_ble_eq_true rfl)⟩ ⟨Nat.zero_le _, Nat.zero_le _⟩ ?_
                  obtain ⟨q18, eq18, hh⟩ := bnd_some hh
                  refine v_callVi (t_X10_isWord eq18) dX10_sortOf_184 y_X10_isWord ml_X10_178 (ci := 9) rfl rfl (e_Model) rfl rfl (Nat.le_of_ble_eq_true rfl) ⟨(Nat.le_of_ble_eq_true rfl), (Nat.le_of_ble_eq_true rfl)⟩ ⟨Nat.zero_le _, Nat.zero_le _⟩ ?_
                  refine v_if_eq (tgt := 195) dX10_sortOf_187 (by decide) (fun c => ?_) (fun c => ?_)
                  · replace hh := (if_pos c).symm.trans hh
                    refine v_aload_n 0 dX10_sortOf_195 rfl rfl ?_
                    refine v_bipush dX10_sortOf_196 (by decide : _ = (116 : Int32)) ?_
                    refine v_bipush dX10_sortOf_198 (by decide : _ = (117 : Int32)) ?_
                    refine v_bipush dX10_sortOf_200 (by decide : _ = (114 : Int32)) ?_
                    refine v_bipush dX10_sortOf_202 (by decide : _ = (110 : Int32)) ?_
                    obtain ⟨q19, eq19, hh⟩ := bnd_some hh
                    refine v_callSl (t_X10_w4 eq19) dX10_sortOf_204 y_X10_w4 ml_X10_118 rfl rfl (Nat.le_of_ble_eq_true rfl) ⟨(Nat.le_of_ble_eq_true rfl), (Nat.le_of_ble_eq_true rfl)⟩ ⟨Nat.zero_le _, Nat.zero_le _⟩ ?_
                    obtain ⟨q20, eq20, hh⟩ := bnd_some hh
                    refine v_callVi (t_X10_isWord eq20) dX10_sortOf_207 y_X10_isWord ml_X10_178 (ci := 9) rfl rfl (e_Model) rfl rfl (Nat.le_of_ble_eq_true rfl) ⟨(Nat.le_of_ble_eq_true rfl), (Nat.le_of_ble_eq_true rfl)⟩ ⟨Nat.zero_le _, Nat.zero_le _⟩ ?_
                    refine v_if_eq (tgt := 218) dX10_sortOf_210 (by decide) (fun c => ?_) (fun c => ?_)
                    · replace hh := (if_pos c).symm.trans hh
                      refine v_iconst dX10_sortOf_218 (by decide : _ = (-1 : Int32)) ?_
                      obtain rfl := Option.some.inj hh
                      exact v_iret dX10_sortOf_219 rfl (Nat.zero_le _) (Nat.zero_le _) ⟨rfl, rfl⟩
                    · replace hh := (if_neg c).symm.trans hh
                      refine v_bipush dX10_sortOf_213 (by decide : _ = (9 : Int32)) ?_
                      refine v_goto (tgt := 219) dX10_sortOf_215 (by decide) ?_
                      obtain rfl := Option.some.inj hh
                      exact v_iret dX10_sortOf_219 rfl (Nat.zero_le _) (Nat.zero_le _) ⟨rfl, rfl⟩
                  · replace hh := (if_neg c).symm.trans hh
                    refine v_bipush dX10_sortOf_190 (by decide : _ = (8 : Int32)) ?_
                    refine v_goto (tgt := 219) dX10_sortOf_192 (by decide) ?_
                    obtain rfl := Option.some.inj hh
                    exact v_iret dX10_sortOf_219 rfl (Nat.zero_le _) (Nat.zero_le _) ⟨rfl, rfl⟩
                · replace hh := (if_neg c).symm.trans hh
                  refine v_bipush dX10_sortOf_167 (by decide : _ = (7 : Int32)) ?_
                  obtain rfl := Option.some.inj hh
                  exact v_iret dX10_sortOf_169 rfl (Nat.zero_le _) (Nat.zero_le _) ⟨rfl, rfl⟩
              · replace hh := (if_neg c).symm.trans hh
                refine v_bipush dX10_sortOf_146 (by decide : _ = (6 : Int32)) ?_
                obtain rfl := Option.some.inj hh
                exact v_iret dX10_sortOf_148 rfl (Nat.zero_le _) (Nat.zero_le _) ⟨rfl, rfl⟩
            · replace hh := (if_neg c).symm.trans hh
              refine v_iconst dX10_sortOf_124 (by decide : _ = (5 : Int32)) ?_
              obtain rfl := Option.some.inj hh
              exact v_iret dX10_sortOf_125 rfl (Nat.zero_le _) (Nat.zero_le _) ⟨rfl, rfl⟩
          · replace hh := (if_neg c).symm.trans hh
            refine v_iconst dX10_sortOf_104 (by decide : _ = (4 : Int32)) ?_
            obtain rfl := Option.some.inj hh
            exact v_iret dX10_sortOf_105 rfl (Nat.zero_le _) (Nat.zero_le _) ⟨rfl, rfl⟩
        · replace hh := (if_neg c).symm.trans hh
          refine v_iconst dX10_sortOf_84 (by decide : _ = (3 : Int32)) ?_
          obtain rfl := Option.some.inj hh
          exact v_iret dX10_sortOf_85 rfl (Nat.zero_le _) (Nat.zero_le _) ⟨rfl, rfl⟩
      · replace hh := (if_neg c).symm.trans hh
        refine v_iconst dX10_sortOf_62 (by decide : _ = (2 : Int32)) ?_
        obtain rfl := Option.some.inj hh
        exact v_iret dX10_sortOf_63 rfl (Nat.zero_le _) (Nat.zero_le _) ⟨rfl, rfl⟩
    · replace hh := (if_neg c).symm.trans hh
      refine v_iconst dX10_sortOf_42 (by decide : _ = (1 : Int32)) ?_
      obtain rfl := Option.some.inj hh
      exact v_iret dX10_sortOf_43 rfl (Nat.zero_le _) (Nat.zero_le _) ⟨rfl, rfl⟩
  · replace hh := (if_neg c).symm.trans hh
    refine v_iconst dX10_sortOf_20 (by decide : _ = (0 : Int32)) ?_
    obtain rfl := Option.some.inj hh
    exact v_iret dX10_sortOf_21 rfl (Nat.zero_le _) (Nat.zero_le _) ⟨rfl, rfl⟩
def f_X10_clause_b65 (N : Nat) (x1 : Int32) (x2 : Int32) (S : St) : Option (Int32 × St) :=
  lt (sI S 1014 0 0 x1) fun S4 =>
  bnd (f_X10_nextToken N S4 ) fun q5 =>
 lt (((gI q5 1012 0 0) + (1 : Int32)) + ((3 : Int32) * x2)) fun v6 =>
  chk (inb v6 2724) (
  lt (sI q5 1002 0 v6.toNatClampNeg x1) fun S8 =>
  bnd (f_X10_body N S8 x1 v6) fun q9 =>
 if q9.1 = (0 : Int32) then
  (chk (inb (gI q9.2 1012 0 0) 2724) (
  chk (inb (gI q9.2 1012 0 0) 2724) (
  lt (sI q9.2 1002 0 ((gI q9.2 1012 0 0).toNatClampNeg) ((gI q9.2 1002 0 (gI q9.2 1012 0 0).toNatClampNeg) + (1 : Int32))) fun S12 =>
  if (gI S12 1009 0 0) = (59 : Int32) then
  (bnd (f_X10_nextToken N S12 ) fun q13 =>
 some ((0 : Int32), q13))
  else
  (some ((1 : Int32), S12)))))
  else
  (some (q9.1, q9.2)))
set_option maxRecDepth 100000 in
set_option maxHeartbeats 4000000 in
theorem tb_X10_clause_65 {l : Launch} {G : v_G} {N : Nat}    {r : Int32 × St}   : ∀ (x1 : Int32) (x2 : Int32) (S : St),  f_X10_clause_b65 N x1 x2 S = some r → V l G yX10_clause cX10_clause 5 (some .int) (v_rm 9 0 0) (QI r.1 (lay G r.2)) 0 0 65 [(0, .ref (v_B G + 291)), (1, .int x1), (2, .int x2)] [] (lay G S) := by
  intro x1 x2 S  hh
  unfold f_X10_clause_b65 at hh
  refine v_aload_n 0 dX10_clause_65 rfl rfl ?_
  refine v_iload_n 1 dX10_clause_66 rfl rfl ?_
  refine w_Model_sort0 dX10_clause_67 fl_X10_162 ?_
  replace hh := lt_of hh
  refine v_aload_n 0 dX10_clause_70 rfl rfl ?_
  obtain ⟨q5, eq5, hh⟩ := bnd_some hh
  refine v_callVv (t_X10_nextToken eq5) dX10_clause_71 y_X10_nextToken ml_X10_156 (ci := 9) rfl rfl (e_Model) rfl rfl (Nat.le_of_ble_eq_true rfl) ⟨(Nat.le_of_ble_eq_true rfl), (Nat.le_of_ble_eq_true rfl)⟩ ⟨Nat.zero_le _, Nat.zero_le _⟩ ?_
  refine v_aload_n 0 dX10_clause_74 rfl rfl ?_
  refine r_Model_text0 dX10_clause_75 fl_X10_126 ?_
  refine v_iconst dX10_clause_78 (by decide : _ = (1 : Int32)) ?_
  refine v_iadd dX10_clause_79 ?_
  refine v_iconst dX10_clause_80 (by decide : _ = (3 : Int32)) ?_
  refine v_iload_n 2 dX10_clause_81 rfl rfl ?_
  refine v_imul dX10_clause_82 ?_
  refine v_iadd dX10_clause_83 ?_
  refine v_istore_n dX10_clause_84 rfl (by decide) rfl ?_
  replace hh := lt_of hh
  refine v_aload_n 1 dX10_clause_85 rfl rfl ?_
  refine r_Model_texts dX10_clause_86 fl_X10_16 ?_
  refine v_iload_n 0 dX10_clause_89 rfl rfl ?_
  refine v_iload_n 2 dX10_clause_90 rfl rfl ?_
  obtain ⟨g7, hh⟩ := chk_some hh
  replace g7 := inb_in g7
  refine st_mtexts dX10_clause_91 g7 ?_
  replace hh := lt_of hh
  refine v_aload_n 1 dX10_clause_92 rfl rfl ?_
  refine v_iload_n 2 dX10_clause_93 rfl rfl ?_
  refine v_iload_n 0 dX10_clause_94 rfl rfl ?_
  obtain ⟨q9, eq9, hh⟩ := bnd_some hh
  refine v_callVi (t_X10_body eq9) dX10_clause_95 y_X10_body ml_X10_227 (ci := 9) rfl rfl (e_Model) rfl rfl (Nat.le_of_ble_eq_true rfl) ⟨(Nat.le_of_ble_eq_true rfl), (Nat.le_of_ble_eq_true rfl)⟩ ⟨Nat.zero_le _, Nat.zero_le _⟩ ?_
  refine v_istore dX10_clause_98 (by decide) rfl ?_
  refine v_iload 0 dX10_clause_100 rfl ?_
  refine v_if_eq (tgt := 108) dX10_clause_102 (by decide) (fun c => ?_) (fun c => ?_)
  · replace hh := (if_pos c).symm.trans hh
    refine v_aload_n 2 dX10_clause_108 rfl rfl ?_
    refine r_Model_texts dX10_clause_109 fl_X10_16 ?_
    refine v_aload_n 2 dX10_clause_112 rfl rfl ?_
    refine r_Model_text0 dX10_clause_113 fl_X10_126 ?_
    refine v_dup2 dX10_clause_116 rfl rfl ?_
    obtain ⟨g10, hh⟩ := chk_some hh
    replace g10 := inb_in g10
    refine ld_mtexts dX10_clause_117 g10 ?_
    refine v_iconst dX10_clause_118 (by decide : _ = (1 : Int32)) ?_
    refine v_iadd dX10_clause_119 ?_
    obtain ⟨g11, hh⟩ := chk_some hh
    replace g11 := inb_in g11
    refine st_mtexts dX10_clause_120 g11 ?_
    replace hh := lt_of hh
    refine v_aload_n 2 dX10_clause_121 rfl rfl ?_
    refine r_Model_token dX10_clause_122 fl_X10_88 ?_
    refine v_bipush dX10_clause_125 (by decide : _ = (59 : Int32)) ?_
    refine v_icmp_eq (tgt := 132) dX10_clause_127 (by decide) (fun c => ?_) (fun c => ?_)
    · replace hh := (if_pos c).symm.trans hh
      refine v_aload_n 2 dX10_clause_132 rfl rfl ?_
      obtain ⟨q13, eq13, hh⟩ := bnd_some hh
      refine v_callVv (t_X10_nextToken eq13) dX10_clause_133 y_X10_nextToken ml_X10_156 (ci := 9) rfl rfl (e_Model) rfl rfl (Nat.le_of_ble_eq_true rfl) ⟨(Nat.le_of_ble_eq_true rfl), (Nat.le_of_ble_eq_true rfl)⟩ ⟨Nat.zero_le _, Nat.zero_le _⟩ ?_
      refine v_iconst dX10_clause_136 (by decide : _ = (0 : Int32)) ?_
      obtain rfl := Option.some.inj hh
      exact v_iret dX10_clause_137 rfl (Nat.zero_le _) (Nat.zero_le _) ⟨rfl, rfl⟩
    · replace hh := (if_neg c).symm.trans hh
      refine v_iconst dX10_clause_130 (by decide : _ = (1 : Int32)) ?_
      obtain rfl := Option.some.inj hh
      exact v_iret dX10_clause_131 rfl (Nat.zero_le _) (Nat.zero_le _) ⟨rfl, rfl⟩
  · replace hh := (if_neg c).symm.trans hh
    refine v_iload 0 dX10_clause_105 rfl ?_
    obtain rfl := Option.some.inj hh
    exact v_iret dX10_clause_107 rfl (Nat.zero_le _) (Nat.zero_le _) ⟨rfl, rfl⟩
def f_X10_clause_b29 (N : Nat) (x1 : Int32) (S : St) : Option (Int32 × St) :=
  chk (inb (gI S 1012 0 0) 2724) (
  lt (gI S 1002 0 (gI S 1012 0 0).toNatClampNeg) fun v3 =>
  if v3 = (24 : Int32) then
  (some ((6 : Int32), S))
  else
  (if (1 : Int32) < x1 then
  (f_X10_clause_b65 N x1 v3 S)
  else
  (lt (sI S 1019 0 0 ((gI S 1019 0 0) ||| ((1 : Int32) <<< (x1 &&& 31)))) fun S14 =>
  f_X10_clause_b65 N x1 v3 S14)))
set_option maxRecDepth 100000 in
set_option maxHeartbeats 4000000 in
theorem tb_X10_clause_29 {l : Launch} {G : v_G} {N : Nat}    {r : Int32 × St}   : ∀ (x1 : Int32) (S : St),  f_X10_clause_b29 N x1 S = some r → V l G yX10_clause cX10_clause 5 (some .int) (v_rm 9 0 0) (QI r.1 (lay G r.2)) 0 0 29 [(0, .ref (v_B G + 291)), (1, .int x1)] [] (lay G S) := by
  intro x1 S  hh
  unfold f_X10_clause_b29 at hh
  refine v_aload_n 0 dX10_clause_29 rfl rfl ?_
  refine r_Model_texts dX10_clause_30 fl_X10_16 ?_
  refine v_aload_n 0 dX10_clause_33 rfl rfl ?_
  refine r_Model_text0 dX10_clause_34 fl_X10_126 ?_
  obtain ⟨g2, hh⟩ := chk_some hh
  replace g2 := inb_in g2
  refine ld_mtexts dX10_clause_37 g2 ?_
  refine v_istore_n dX10_clause_38 rfl (by decide) rfl ?_
  replace hh := lt_of hh
  refine v_iload_n 0 dX10_clause_39 rfl rfl ?_
  refine v_bipush dX10_clause_40 (by decide : _ = (24 : Int32)) ?_
  refine v_icmp_ne (tgt := 48) dX10_clause_42 (by decide) (fun c => ?_) (fun c => ?_)
  · replace hh := (if_neg c).symm.trans hh
    refine v_iload_n 2 dX10_clause_48 rfl rfl ?_
    refine v_iconst dX10_clause_49 (by decide : _ = (1 : Int32)) ?_
    refine v_icmp_gt (tgt := 65) dX10_clause_50 (by decide) (fun c => ?_) (fun c => ?_)
    · replace hh := (if_pos c).symm.trans hh
      exact v_sub [1, 2, 0] rfl (tb_X10_clause_65 _ _ _ hh)
    · replace hh := (if_neg c).symm.trans hh
      refine v_aload_n 1 dX10_clause_53 rfl rfl ?_
      refine v_dup dX10_clause_54 rfl ?_
      refine r_Model_once dX10_clause_55 fl_X10_220 ?_
      refine v_iconst dX10_clause_58 (by decide : _ = (1 : Int32)) ?_
      refine v_iload_n 2 dX10_clause_59 rfl rfl ?_
      refine v_ishl dX10_clause_60 ?_
      refine v_ior dX10_clause_61 ?_
      refine w_Model_once dX10_clause_62 fl_X10_220 ?_
      replace hh := lt_of hh
      exact v_sub [1, 2, 0] rfl (tb_X10_clause_65 _ _ _ hh)
  · replace hh := (if_pos c).symm.trans hh
    refine v_bipush dX10_clause_45 (by decide : _ = (6 : Int32)) ?_
    obtain rfl := Option.some.inj hh
    exact v_iret dX10_clause_47 rfl (Nat.zero_le _) (Nat.zero_le _) ⟨rfl, rfl⟩
def f_X10_clause (N : Nat) (S : St)  : Option (Int32 × St) :=
  bnd (f_X10_sortOf S ) fun q1 =>
 if (0 : Int32) ≤ q1 then
  (if (1 : Int32) < q1 then
  (f_X10_clause_b29 N q1 S)
  else
  (bnd (f_X10_has S (gI S 1019 0 0) q1) fun q15 =>
 if q15 = (0 : Int32) then
  (f_X10_clause_b29 N q1 S)
  else
  (some ((4 : Int32), S))))
  else
  (some ((1 : Int32), S))
set_option maxRecDepth 100000 in
set_option maxHeartbeats 4000000 in
theorem t_X10_clause {l : Launch} {G : v_G} {N : Nat} {S : St}    {r : Int32 × St} (hh : f_X10_clause N S  = some r) : v_M l G yX10_clause cX10_clause 5 (some .int) 9 0 0 [.ref (v_B G + 291)] (lay G S) (QI r.1 (lay G r.2)) := by
  refine v_entry (by decide) (Nat.le_of_ble_eq_true rfl) ?_
  unfold f_X10_clause at hh
  show V l G yX10_clause cX10_clause 5 (some .int) (v_rm 9 0 0) (QI r.1 (lay G r.2)) 0 0 0 [(0, .ref (v_B G + 291))] [] (lay G S)
  refine v_aload_n 0 dX10_clause_0 rfl rfl ?_
  obtain ⟨q1, eq1, hh⟩ := bnd_some hh
  refine v_callVi (t_X10_sortOf eq1) dX10_clause_1 y_X10_sortOf ml_X10_217 (ci := 9) rfl rfl (e_Model) rfl rfl (Nat.le_of_ble_eq_true rfl) ⟨(Nat.le_of_ble_eq_true rfl), (Nat.le_of_ble_eq_true rfl)⟩ ⟨Nat.zero_le _, Nat.zero_le _⟩ ?_
  refine v_istore_n dX10_clause_4 rfl (by decide) rfl ?_
  refine v_iload_n 0 dX10_clause_5 rfl rfl ?_
  refine v_if_ge (tgt := 11) dX10_clause_6 (by decide) (fun c => ?_) (fun c => ?_)
  · replace hh := (if_pos c).symm.trans hh
    refine v_iload_n 0 dX10_clause_11 rfl rfl ?_
    refine v_iconst dX10_clause_12 (by decide : _ = (1 : Int32)) ?_
    refine v_icmp_gt (tgt := 29) dX10_clause_13 (by decide) (fun c => ?_) (fun c => ?_)
    · replace hh := (if_pos c).symm.trans hh
      exact v_sub [1, 0] rfl (tb_X10_clause_29 _ _ hh)
    · replace hh := (if_neg c).symm.trans hh
      refine v_aload_n 1 dX10_clause_16 rfl rfl ?_
      refine r_Model_once dX10_clause_17 fl_X10_220 ?_
      refine v_iload_n 0 dX10_clause_20 rfl rfl ?_
      obtain ⟨q15, eq15, hh⟩ := bnd_some hh
      refine v_callSi (t_X10_has eq15) dX10_clause_21 y_X10_has ml_X10_223 rfl rfl (Nat.le_of_ble_eq_true rfl) ⟨(Nat.le_of_ble_eq_true rfl), (Nat.le_of_ble_eq_true rfl)⟩ ⟨Nat.zero_le _, Nat.zero_le _⟩ ?_
      refine v_if_eq (tgt := 29) dX10_clause_24 (by decide) (fun c => ?_) (fun c => ?_)
      · replace hh := (if_pos c).symm.trans hh
        exact v_sub [1, 0] rfl (tb_X10_clause_29 _ _ hh)
      · replace hh := (if_neg c).symm.trans hh
        refine v_iconst dX10_clause_27 (by decide : _ = (4 : Int32)) ?_
        obtain rfl := Option.some.inj hh
        exact v_iret dX10_clause_28 rfl (Nat.zero_le _) (Nat.zero_le _) ⟨rfl, rfl⟩
  · replace hh := (if_neg c).symm.trans hh
    refine v_iconst dX10_clause_9 (by decide : _ = (1 : Int32)) ?_
    obtain rfl := Option.some.inj hh
    exact v_iret dX10_clause_10 rfl (Nat.zero_le _) (Nat.zero_le _) ⟨rfl, rfl⟩
def f_X10_readText_b43 (N : Nat) : Nat → St → Option (Int32 × St)
  | 0, _ => none
  | n + 1, S =>
  if (gI S 1009 0 0) = (0 : Int32) then
  (some ((0 : Int32), S))
  else
  (bnd (f_X10_clause N S ) fun q9 =>
 if q9.1 = (0 : Int32) then
  (f_X10_readText_b43 N n q9.2)
  else
  (some (q9.1, q9.2)))
set_option maxRecDepth 100000 in
set_option maxHeartbeats 4000000 in
theorem tb_X10_readText_43 {l : Launch} {G : v_G} {N : Nat}    {r : Int32 × St}   : ∀ (n : Nat)  (S : St),  f_X10_readText_b43 N n  S = some r → V l G yX10_readText cX10_readText 2 (some .int) (v_rm 10 0 0) (QI r.1 (lay G r.2)) 0 0 43 [(0, .ref (v_B G + 291))] [] (lay G S) := by
  intro n
  induction n with
  | zero =>
    intro  S  hh
    rw [f_X10_readText_b43] at hh
    cases hh
  | succ n ih =>
    intro  S  hh
    rw [f_X10_readText_b43] at hh
    refine v_aload_n 0 dX10_readText_43 rfl rfl ?_
    refine r_Model_token dX10_readText_44 fl_X10_88 ?_
    refine v_if_eq (tgt := 64) dX10_readText_47 (by decide) (fun c => ?_) (fun c => ?_)
    · replace hh := (if_pos c).symm.trans hh
      refine v_iconst dX10_readText_64 (by decide : _ = (0 : Int32)) ?_
      obtain rfl := Option.some.inj hh
      exact v_iret dX10_readText_65 rfl (Nat.zero_le _) (Nat.zero_le _) ⟨rfl, rfl⟩
    · replace hh := (if_neg c).symm.trans hh
      refine v_aload_n 0 dX10_readText_50 rfl rfl ?_
      obtain ⟨q9, eq9, hh⟩ := bnd_some hh
      refine v_callVi (t_X10_clause eq9) dX10_readText_51 y_X10_clause ml_X10_231 (ci := 9) rfl rfl (e_Model) rfl rfl (Nat.le_of_ble_eq_true rfl) ⟨(Nat.le_of_ble_eq_true rfl), (Nat.le_of_ble_eq_true rfl)⟩ ⟨Nat.zero_le _, Nat.zero_le _⟩ ?_
      refine v_istore_n dX10_readText_54 rfl (by decide) rfl ?_
      refine v_iload_n 0 dX10_readText_55 rfl rfl ?_
      refine v_if_eq (tgt := 61) dX10_readText_56 (by decide) (fun c => ?_) (fun c => ?_)
      · replace hh := (if_pos c).symm.trans hh
        refine v_goto (tgt := 43) dX10_readText_61 (by decide) ?_
        exact v_sub [1] rfl (ih _ hh)
      · replace hh := (if_neg c).symm.trans hh
        refine v_iload_n 0 dX10_readText_59 rfl rfl ?_
        obtain rfl := Option.some.inj hh
        exact v_iret dX10_readText_60 rfl (Nat.zero_le _) (Nat.zero_le _) ⟨rfl, rfl⟩
def f_X10_readText (N : Nat) (S : St)  : Option (Int32 × St) :=
  lt (sI S 1012 0 0 ((681 : Int32) * (gI S 1000 0 2))) fun S2 =>
  chk (inb (gI S2 1012 0 0) 2724) (
  lt (sI S2 1002 0 ((gI S2 1012 0 0).toNatClampNeg) (0 : Int32)) fun S4 =>
  lt (sI S4 1013 0 0 (0 : Int32)) fun S5 =>
  lt (sI S5 1019 0 0 (0 : Int32)) fun S6 =>
  lt (sI S6 1007 0 0 (0 : Int32)) fun S7 =>
  bnd (f_X10_nextToken N S7 ) fun q8 =>
 f_X10_readText_b43 N N q8)
set_option maxRecDepth 100000 in
set_option maxHeartbeats 4000000 in
theorem t_X10_readText {l : Launch} {G : v_G} {N : Nat} {S : St}    {r : Int32 × St} (hh : f_X10_readText N S  = some r) : v_M l G yX10_readText cX10_readText 2 (some .int) 10 0 0 [.ref (v_B G + 291)] (lay G S) (QI r.1 (lay G r.2)) := by
  refine v_entry (by decide) (Nat.le_of_ble_eq_true rfl) ?_
  unfold f_X10_readText at hh
  show V l G yX10_readText cX10_readText 2 (some .int) (v_rm 10 0 0) (QI r.1 (lay G r.2)) 0 0 0 [(0, .ref (v_B G + 291))] [] (lay G S)
  refine v_aload_n 0 dX10_readText_0 rfl rfl ?_
  refine v_sipush dX10_readText_1 (by decide : _ = (681 : Int32)) ?_
  refine v_aload_n 0 dX10_readText_4 rfl rfl ?_
  refine r_Model_a dX10_readText_5 fl_X10_7 ?_
  refine v_iconst dX10_readText_8 (by decide : _ = (2 : Int32)) ?_
  refine ld_ma dX10_readText_9 (inb_in (by decide)) ?_
  refine v_imul dX10_readText_10 ?_
  refine w_Model_text0 dX10_readText_11 fl_X10_126 ?_
  replace hh := lt_of hh
  refine v_aload_n 0 dX10_readText_14 rfl rfl ?_
  refine r_Model_texts dX10_readText_15 fl_X10_16 ?_
  refine v_aload_n 0 dX10_readText_18 rfl rfl ?_
  refine r_Model_text0 dX10_readText_19 fl_X10_126 ?_
  refine v_iconst dX10_readText_22 (by decide : _ = (0 : Int32)) ?_
  obtain ⟨g3, hh⟩ := chk_some hh
  replace g3 := inb_in g3
  refine st_mtexts dX10_readText_23 g3 ?_
  replace hh := lt_of hh
  refine v_aload_n 0 dX10_readText_24 rfl rfl ?_
  refine v_iconst dX10_readText_25 (by decide : _ = (0 : Int32)) ?_
  refine w_Model_written dX10_readText_26 fl_X10_129 ?_
  replace hh := lt_of hh
  refine v_aload_n 0 dX10_readText_29 rfl rfl ?_
  refine v_iconst dX10_readText_30 (by decide : _ = (0 : Int32)) ?_
  refine w_Model_once dX10_readText_31 fl_X10_220 ?_
  replace hh := lt_of hh
  refine v_aload_n 0 dX10_readText_34 rfl rfl ?_
  refine v_iconst dX10_readText_35 (by decide : _ = (0 : Int32)) ?_
  refine w_Model_at dX10_readText_36 fl_X10_78 ?_
  replace hh := lt_of hh
  refine v_aload_n 0 dX10_readText_39 rfl rfl ?_
  obtain ⟨q8, eq8, hh⟩ := bnd_some hh
  refine v_callVv (t_X10_nextToken eq8) dX10_readText_40 y_X10_nextToken ml_X10_156 (ci := 9) rfl rfl (e_Model) rfl rfl (Nat.le_of_ble_eq_true rfl) ⟨(Nat.le_of_ble_eq_true rfl), (Nat.le_of_ble_eq_true rfl)⟩ ⟨Nat.zero_le _, Nat.zero_le _⟩ ?_
  exact v_sub [0] rfl (tb_X10_readText_43 N _ hh)
def f_X10_text_b36 (N : Nat) (s0 : Int32) (S : St) : Option (Int32 × St) :=
  lt (sI S 1006 0 0 s0) fun S4 =>
  lt (sI S4 1004 0 0 (0 : Int32)) fun S5 =>
  if (gI S5 1005 0 0) = (0 : Int32) then
  (lt (sI S5 1000 0 2 ((gI S5 1000 0 2) + (1 : Int32))) fun S8 =>
  some ((gI S8 1000 0 2) - (1 : Int32), S8))
  else
  (some ((-1 : Int32), S5))
set_option maxRecDepth 100000 in
set_option maxHeartbeats 4000000 in
theorem tb_X10_text_36 {l : Launch} {G : v_G} {N : Nat}    {r : Int32 × St}   : ∀ (s0 : Int32) (S : St),  f_X10_text_b36 N s0 S = some r → V l G yX10_text cX10_text 1 (some .int) (v_rm 11 0 0) (QI r.1 (lay G r.2)) 0 0 36 [(0, .ref (v_B G + 291))] [.int s0, .ref (v_B G + 291)] (lay G S) := by
  intro s0 S  hh
  unfold f_X10_text_b36 at hh
  refine w_Model_faultPlace dX10_text_36 fl_X10_26 ?_
  replace hh := lt_of hh
  refine v_aload_n 0 dX10_text_39 rfl rfl ?_
  refine v_iconst dX10_text_40 (by decide : _ = (0 : Int32)) ?_
  refine w_Model_taped dX10_text_41 fl_X10_71 ?_
  replace hh := lt_of hh
  refine v_aload_n 0 dX10_text_44 rfl rfl ?_
  refine r_Model_fault dX10_text_45 fl_X10_22 ?_
  refine v_if_eq (tgt := 53) dX10_text_48 (by decide) (fun c => ?_) (fun c => ?_)
  · replace hh := (if_pos c).symm.trans hh
    refine v_aload_n 0 dX10_text_53 rfl rfl ?_
    refine r_Model_a dX10_text_54 fl_X10_7 ?_
    refine v_iconst dX10_text_57 (by decide : _ = (2 : Int32)) ?_
    refine v_dup2 dX10_text_58 rfl rfl ?_
    refine ld_ma dX10_text_59 (inb_in (by decide)) ?_
    refine v_iconst dX10_text_60 (by decide : _ = (1 : Int32)) ?_
    refine v_iadd dX10_text_61 ?_
    refine st_ma dX10_text_62 (inb_in (by decide)) ?_
    replace hh := lt_of hh
    refine v_aload_n 0 dX10_text_63 rfl rfl ?_
    refine r_Model_a dX10_text_64 fl_X10_7 ?_
    refine v_iconst dX10_text_67 (by decide : _ = (2 : Int32)) ?_
    refine ld_ma dX10_text_68 (inb_in (by decide)) ?_
    refine v_iconst dX10_text_69 (by decide : _ = (1 : Int32)) ?_
    refine v_isub dX10_text_70 ?_
    obtain rfl := Option.some.inj hh
    exact v_iret dX10_text_71 rfl (Nat.zero_le _) (Nat.zero_le _) ⟨rfl, rfl⟩
  · replace hh := (if_neg c).symm.trans hh
    refine v_iconst dX10_text_51 (by decide : _ = (-1 : Int32)) ?_
    obtain rfl := Option.some.inj hh
    exact v_iret dX10_text_52 rfl (Nat.zero_le _) (Nat.zero_le _) ⟨rfl, rfl⟩
def f_X10_text (N : Nat) (S : St)  : Option (Int32 × St) :=
  if (gI S 1000 0 2) = (4 : Int32) then
  (some ((-1 : Int32), S))
  else
  (bnd (f_X10_readText N S ) fun q2 =>
 lt (sI q2.2 1005 0 0 q2.1) fun S3 =>
  if (gI S3 1005 0 0) = (0 : Int32) then
  (f_X10_text_b36 N (-1 : Int32) S3)
  else
  (f_X10_text_b36 N (gI S3 1008 0 0) S3))
set_option maxRecDepth 100000 in
set_option maxHeartbeats 4000000 in
theorem t_X10_text {l : Launch} {G : v_G} {N : Nat} {S : St}    {r : Int32 × St} (hh : f_X10_text N S  = some r) : v_M l G yX10_text cX10_text 1 (some .int) 11 0 0 [.ref (v_B G + 291)] (lay G S) (QI r.1 (lay G r.2)) := by
  refine v_entry (by decide) (Nat.le_of_ble_eq_true rfl) ?_
  unfold f_X10_text at hh
  show V l G yX10_text cX10_text 1 (some .int) (v_rm 11 0 0) (QI r.1 (lay G r.2)) 0 0 0 [(0, .ref (v_B G + 291))] [] (lay G S)
  refine v_aload_n 0 dX10_text_0 rfl rfl ?_
  refine r_Model_a dX10_text_1 fl_X10_7 ?_
  refine v_iconst dX10_text_4 (by decide : _ = (2 : Int32)) ?_
  refine ld_ma dX10_text_5 (inb_in (by decide)) ?_
  refine v_iconst dX10_text_6 (by decide : _ = (4 : Int32)) ?_
  refine v_icmp_ne (tgt := 12) dX10_text_7 (by decide) (fun c => ?_) (fun c => ?_)
  · replace hh := (if_neg c).symm.trans hh
    refine v_aload_n 0 dX10_text_12 rfl rfl ?_
    refine v_aload_n 0 dX10_text_13 rfl rfl ?_
    obtain ⟨q2, eq2, hh⟩ := bnd_some hh
    refine v_callVi (t_X10_readText eq2) dX10_text_14 y_X10_readText ml_X10_234 (ci := 9) rfl rfl (e_Model) rfl rfl (Nat.le_of_ble_eq_true rfl) ⟨(Nat.le_of_ble_eq_true rfl), (Nat.le_of_ble_eq_true rfl)⟩ ⟨Nat.zero_le _, Nat.zero_le _⟩ ?_
    refine w_Model_fault dX10_text_17 fl_X10_22 ?_
    replace hh := lt_of hh
    refine v_aload_n 0 dX10_text_20 rfl rfl ?_
    refine v_aload_n 0 dX10_text_21 rfl rfl ?_
    refine r_Model_fault dX10_text_22 fl_X10_22 ?_
    refine v_if_ne (tgt := 32) dX10_text_25 (by decide) (fun c => ?_) (fun c => ?_)
    · replace hh := (if_neg c).symm.trans hh
      refine v_aload_n 0 dX10_text_32 rfl rfl ?_
      refine r_Model_place dX10_text_33 fl_X10_85 ?_
      exact v_sub [0] rfl (tb_X10_text_36 _ _ hh)
    · replace hh := (if_pos c).symm.trans hh
      refine v_iconst dX10_text_28 (by decide : _ = (-1 : Int32)) ?_
      refine v_goto (tgt := 36) dX10_text_29 (by decide) ?_
      exact v_sub [0] rfl (tb_X10_text_36 _ _ hh)
  · replace hh := (if_pos c).symm.trans hh
    refine v_iconst dX10_text_10 (by decide : _ = (-1 : Int32)) ?_
    obtain rfl := Option.some.inj hh
    exact v_iret dX10_text_11 rfl (Nat.zero_le _) (Nat.zero_le _) ⟨rfl, rfl⟩
def f_X10_fault  (S : St) (x1 : Int32) : Option (Int32) :=
  if x1 = (0 : Int32) then
  (some (gI S 1005 0 0))
  else
  (if x1 = (1 : Int32) then
  (some (gI S 1006 0 0))
  else
  (some (-1 : Int32)))
set_option maxRecDepth 100000 in
set_option maxHeartbeats 4000000 in
theorem t_X10_fault {l : Launch} {G : v_G} {S : St}   {x1 : Int32} {r : Int32} (hh : f_X10_fault  S x1 = some r) : v_M l G yX10_fault cX10_fault 2 (some .int) 0 0 0 [.ref (v_B G + 291), .int x1] (lay G S) (QI r (lay G S)) := by
  refine v_entry (by decide) (Nat.le_of_ble_eq_true rfl) ?_
  unfold f_X10_fault at hh
  show V l G yX10_fault cX10_fault 2 (some .int) (v_rm 0 0 0) (QI r (lay G S)) 0 0 0 [(0, .ref (v_B G + 291)), (1, .int x1)] [] (lay G S)
  refine v_iload_n 1 dX10_fault_0 rfl rfl ?_
  refine v_if_ne (tgt := 11) dX10_fault_1 (by decide) (fun c => ?_) (fun c => ?_)
  · replace hh := (if_neg c).symm.trans hh
    refine v_iload_n 1 dX10_fault_11 rfl rfl ?_
    refine v_iconst dX10_fault_12 (by decide : _ = (1 : Int32)) ?_
    refine v_icmp_ne (tgt := 23) dX10_fault_13 (by decide) (fun c => ?_) (fun c => ?_)
    · replace hh := (if_neg c).symm.trans hh
      refine v_iconst dX10_fault_23 (by decide : _ = (-1 : Int32)) ?_
      obtain rfl := Option.some.inj hh
      exact v_iret dX10_fault_24 rfl (Nat.zero_le _) (Nat.zero_le _) ⟨rfl, rfl⟩
    · replace hh := (if_pos c).symm.trans hh
      refine v_aload_n 0 dX10_fault_16 rfl rfl ?_
      refine r_Model_faultPlace dX10_fault_17 fl_X10_26 ?_
      refine v_goto (tgt := 24) dX10_fault_20 (by decide) ?_
      obtain rfl := Option.some.inj hh
      exact v_iret dX10_fault_24 rfl (Nat.zero_le _) (Nat.zero_le _) ⟨rfl, rfl⟩
  · replace hh := (if_pos c).symm.trans hh
    refine v_aload_n 0 dX10_fault_4 rfl rfl ?_
    refine r_Model_fault dX10_fault_5 fl_X10_22 ?_
    refine v_goto (tgt := 24) dX10_fault_8 (by decide) ?_
    obtain rfl := Option.some.inj hh
    exact v_iret dX10_fault_24 rfl (Nat.zero_le _) (Nat.zero_le _) ⟨rfl, rfl⟩
def f_X10_by  (S : St) (x1 : Int32) : Option (Int32 × St) :=
  bnd (f_X10_isIn S x1 (-1 : Int32) ((gI S 1000 0 2) - (1 : Int32))) fun q2 =>
 if q2 = (0 : Int32) then
  (some ((0 : Int32), S))
  else
  (lt (sI S 1000 0 3 x1) fun S4 =>
  some ((1 : Int32), S4))
set_option maxRecDepth 100000 in
set_option maxHeartbeats 4000000 in
theorem t_X10_by {l : Launch} {G : v_G} {S : St}   {x1 : Int32} {r : Int32 × St} (hh : f_X10_by  S x1 = some r) : v_M l G yX10_by cX10_by 2 (some .boolean) 1 0 0 [.ref (v_B G + 291), .int x1] (lay G S) (QI r.1 (lay G r.2)) := by
  refine v_entry (by decide) (Nat.le_of_ble_eq_true rfl) ?_
  unfold f_X10_by at hh
  show V l G yX10_by cX10_by 2 (some .boolean) (v_rm 1 0 0) (QI r.1 (lay G r.2)) 0 0 0 [(0, .ref (v_B G + 291)), (1, .int x1)] [] (lay G S)
  refine v_iload_n 1 dX10_by_0 rfl rfl ?_
  refine v_iconst dX10_by_1 (by decide : _ = (-1 : Int32)) ?_
  refine v_aload_n 0 dX10_by_2 rfl rfl ?_
  refine r_Model_a dX10_by_3 fl_X10_7 ?_
  refine v_iconst dX10_by_6 (by decide : _ = (2 : Int32)) ?_
  refine ld_ma dX10_by_7 (inb_in (by decide)) ?_
  refine v_iconst dX10_by_8 (by decide : _ = (1 : Int32)) ?_
  refine v_isub dX10_by_9 ?_
  obtain ⟨q2, eq2, hh⟩ := bnd_some hh
  refine v_callSi (t_X10_isIn eq2) dX10_by_10 y_X10_isIn ml_X10_63 rfl rfl (Nat.le_of_ble_eq_true rfl) ⟨(Nat.le_of_ble_eq_true rfl), (Nat.le_of_ble_eq_true rfl)⟩ ⟨Nat.zero_le _, Nat.zero_le _⟩ ?_
  refine v_if_ne (tgt := 18) dX10_by_13 (by decide) (fun c => ?_) (fun c => ?_)
  · replace hh := (if_neg c).symm.trans hh
    refine v_aload_n 0 dX10_by_18 rfl rfl ?_
    refine r_Model_a dX10_by_19 fl_X10_7 ?_
    refine v_iconst dX10_by_22 (by decide : _ = (3 : Int32)) ?_
    refine v_iload_n 1 dX10_by_23 rfl rfl ?_
    refine st_ma dX10_by_24 (inb_in (by decide)) ?_
    replace hh := lt_of hh
    refine v_iconst dX10_by_25 (by decide : _ = (1 : Int32)) ?_
    obtain rfl := Option.some.inj hh
    exact v_zret dX10_by_26 rfl (zb (by decide)).1 (Nat.zero_le _) (Nat.zero_le _) ⟨rfl, rfl⟩
  · replace hh := (if_pos c).symm.trans hh
    refine v_iconst dX10_by_16 (by decide : _ = (0 : Int32)) ?_
    obtain rfl := Option.some.inj hh
    exact v_zret dX10_by_17 rfl (zb (by decide)).1 (Nat.zero_le _) (Nat.zero_le _) ⟨rfl, rfl⟩
def f_X10_clip  (S : St) (x0 : Int64) : Option (Int64) :=
  if (lg_cmp x0 (1000000 : Int64)) ≤ (0 : Int32) then
  (if (0 : Int32) ≤ (lg_cmp x0 (-1000000 : Int64)) then
  (some x0)
  else
  (some (-1000000 : Int64)))
  else
  (some (1000000 : Int64))
set_option maxRecDepth 100000 in
set_option maxHeartbeats 4000000 in
theorem t_X10_clip {l : Launch} {G : v_G} {S : St}   {x0 : Int64} {r : Int64} (hh : f_X10_clip  S x0 = some r) : v_M l G yX10_clip cX10_clip 2 (some .long) 0 0 0 [.long x0] (lay G S) (QL r (lay G S)) := by
  refine v_entry (by decide) (Nat.le_of_ble_eq_true rfl) ?_
  unfold f_X10_clip at hh
  show V l G yX10_clip cX10_clip 2 (some .long) (v_rm 0 0 0) (QL r (lay G S)) 0 0 0 [(0, .long x0)] [] (lay G S)
  refine v_lload_n 0 dX10_clip_0 rfl rfl ?_
  refine v_ldc2 dX10_clip_1 col_X10_237 ?_
  refine v_lcmp dX10_clip_4 ?_
  refine v_if_le (tgt := 14) dX10_clip_5 (by decide) (fun c => ?_) (fun c => ?_)
  · replace hh := (if_pos c).symm.trans hh
    refine v_lload_n 0 dX10_clip_14 rfl rfl ?_
    refine v_ldc2 dX10_clip_15 col_X10_239 ?_
    refine v_lcmp dX10_clip_18 ?_
    refine v_if_ge (tgt := 28) dX10_clip_19 (by decide) (fun c => ?_) (fun c => ?_)
    · replace hh := (if_pos c).symm.trans hh
      refine v_lload_n 0 dX10_clip_28 rfl rfl ?_
      obtain rfl := Option.some.inj hh
      exact v_lret dX10_clip_29 rfl (Nat.zero_le _) (Nat.zero_le _) ⟨rfl, rfl⟩
    · replace hh := (if_neg c).symm.trans hh
      refine v_ldc2 dX10_clip_22 col_X10_239 ?_
      refine v_goto (tgt := 29) dX10_clip_25 (by decide) ?_
      obtain rfl := Option.some.inj hh
      exact v_lret dX10_clip_29 rfl (Nat.zero_le _) (Nat.zero_le _) ⟨rfl, rfl⟩
  · replace hh := (if_neg c).symm.trans hh
    refine v_ldc2 dX10_clip_8 col_X10_237 ?_
    refine v_goto (tgt := 29) dX10_clip_11 (by decide) ?_
    obtain rfl := Option.some.inj hh
    exact v_lret dX10_clip_29 rfl (Nat.zero_le _) (Nat.zero_le _) ⟨rfl, rfl⟩
def f_X10_two  (S : St) (x0 : Int32) (x1 : Int64) (x3 : Int64) : Option (Int64) :=
  if x0 = (6 : Int32) then
  (bnd (f_X10_clip S (x1 + x3)) fun q1 =>
 some q1)
  else if x0 = (7 : Int32) then
  (bnd (f_X10_clip S (x1 - x3)) fun q2 =>
 some q2)
  else if x0 = (8 : Int32) then
  (bnd (f_X10_clip S (x1 * x3)) fun q3 =>
 some q3)
  else (if (lg_cmp x3 (0 : Int64)) = (0 : Int32) then
  (some (0 : Int64))
  else
  (chk (nzL x3) (
  bnd (f_X10_clip S (x1 / x3)) fun q4 =>
 some q4)))
set_option maxRecDepth 100000 in
set_option maxHeartbeats 4000000 in
theorem t_X10_two {l : Launch} {G : v_G} {S : St}   {x0 : Int32} {x1 : Int64} {x3 : Int64} {r : Int64} (hh : f_X10_two  S x0 x1 x3 = some r) : v_M l G yX10_two cX10_two 5 (some .long) 1 0 0 [.int x0, .long x1, .long x3] (lay G S) (QL r (lay G S)) := by
  refine v_entry (by decide) (Nat.le_of_ble_eq_true rfl) ?_
  unfold f_X10_two at hh
  show V l G yX10_two cX10_two 5 (some .long) (v_rm 1 0 0) (QL r (lay G S)) 0 0 0 [(0, .int x0), (1, .long x1), (3, .long x3)] [] (lay G S)
  refine v_iload_n 0 dX10_two_0 rfl rfl ?_
  refine sw_if hh (fun c0 hh => ?_) (fun c0 hh => ?_)
  · skip
    refine v_tableIn (tgt := 28) dX10_two_1 (by rw [c0]; decide) (by rw [c0]; decide) (by rw [c0] <;> rfl) (by decide) ?_
    refine v_lload_n 1 dX10_two_28 rfl rfl ?_
    refine v_lload_n 2 dX10_two_29 rfl rfl ?_
    refine v_ladd dX10_two_30 ?_
    obtain ⟨q1, eq1, hh⟩ := bnd_some hh
    refine v_callSl (t_X10_clip eq1) dX10_two_31 y_X10_clip ml_X10_241 rfl rfl (Nat.le_of_ble_eq_true rfl) ⟨(Nat.le_of_ble_eq_true rfl), (Nat.le_of_ble_eq_true rfl)⟩ ⟨Nat.zero_le _, Nat.zero_le _⟩ ?_
    obtain rfl := Option.some.inj hh
    exact v_lret dX10_two_34 rfl (Nat.zero_le _) (Nat.zero_le _) ⟨rfl, rfl⟩
  · skip
    refine sw_if hh (fun c1 hh => ?_) (fun c1 hh => ?_)
    · skip
      refine v_tableIn (tgt := 35) dX10_two_1 (by rw [c1]; decide) (by rw [c1]; decide) (by rw [c1] <;> rfl) (by decide) ?_
      refine v_lload_n 1 dX10_two_35 rfl rfl ?_
      refine v_lload_n 2 dX10_two_36 rfl rfl ?_
      refine v_lsub dX10_two_37 ?_
      obtain ⟨q2, eq2, hh⟩ := bnd_some hh
      refine v_callSl (t_X10_clip eq2) dX10_two_38 y_X10_clip ml_X10_241 rfl rfl (Nat.le_of_ble_eq_true rfl) ⟨(Nat.le_of_ble_eq_true rfl), (Nat.le_of_ble_eq_true rfl)⟩ ⟨Nat.zero_le _, Nat.zero_le _⟩ ?_
      obtain rfl := Option.some.inj hh
      exact v_lret dX10_two_41 rfl (Nat.zero_le _) (Nat.zero_le _) ⟨rfl, rfl⟩
    · skip
      refine sw_if hh (fun c2 hh => ?_) (fun c2 hh => ?_)
      · skip
        refine v_tableIn (tgt := 42) dX10_two_1 (by rw [c2]; decide) (by rw [c2]; decide) (by rw [c2] <;> rfl) (by decide) ?_
        refine v_lload_n 1 dX10_two_42 rfl rfl ?_
        refine v_lload_n 2 dX10_two_43 rfl rfl ?_
        refine v_lmul dX10_two_44 ?_
        obtain ⟨q3, eq3, hh⟩ := bnd_some hh
        refine v_callSl (t_X10_clip eq3) dX10_two_45 y_X10_clip ml_X10_241 rfl rfl (Nat.le_of_ble_eq_true rfl) ⟨(Nat.le_of_ble_eq_true rfl), (Nat.le_of_ble_eq_true rfl)⟩ ⟨Nat.zero_le _, Nat.zero_le _⟩ ?_
        obtain rfl := Option.some.inj hh
        exact v_lret dX10_two_48 rfl (Nat.zero_le _) (Nat.zero_le _) ⟨rfl, rfl⟩
      · skip
        refine v_tableOut (tgt := 49) dX10_two_1 (sw_out 3 (by decide) (fun k hk => match k, hk with | 0, _ => fun h => c0 (h.trans (by decide)) | 1, _ => fun h => c1 (h.trans (by decide)) | 2, _ => fun h => c2 (h.trans (by decide)) | k + 3, hk => absurd hk (by omega))) (by decide) ?_
        refine v_lload_n 2 dX10_two_49 rfl rfl ?_
        refine v_lconst dX10_two_50 (by decide : _ = (0 : Int64)) ?_
        refine v_lcmp dX10_two_51 ?_
        refine v_if_ne (tgt := 59) dX10_two_52 (by decide) (fun c => ?_) (fun c => ?_)
        · replace hh := (if_neg c).symm.trans hh
          refine v_lload_n 1 dX10_two_59 rfl rfl ?_
          refine v_lload_n 2 dX10_two_60 rfl rfl ?_
          obtain ⟨g, hh⟩ := chk_some hh
          refine v_ldiv dX10_two_61 (nzL_ne g) ?_
          obtain ⟨q4, eq4, hh⟩ := bnd_some hh
          refine v_callSl (t_X10_clip eq4) dX10_two_62 y_X10_clip ml_X10_241 rfl rfl (Nat.le_of_ble_eq_true rfl) ⟨(Nat.le_of_ble_eq_true rfl), (Nat.le_of_ble_eq_true rfl)⟩ ⟨Nat.zero_le _, Nat.zero_le _⟩ ?_
          obtain rfl := Option.some.inj hh
          exact v_lret dX10_two_65 rfl (Nat.zero_le _) (Nat.zero_le _) ⟨rfl, rfl⟩
        · replace hh := (if_pos c).symm.trans hh
          refine v_lconst dX10_two_55 (by decide : _ = (0 : Int64)) ?_
          refine v_goto (tgt := 65) dX10_two_56 (by decide) ?_
          obtain rfl := Option.some.inj hh
          exact v_lret dX10_two_65 rfl (Nat.zero_le _) (Nat.zero_le _) ⟨rfl, rfl⟩
def f_X10_isAsked  (S : St) (x0 : Int32) (x1 : Int64) (x3 : Int64) : Option (Int32) :=
  if x0 = (10 : Int32) then
  (if (0 : Int32) ≤ (lg_cmp x1 x3) then
  (some (0 : Int32))
  else
  (some (1 : Int32)))
  else
  (if x0 = (11 : Int32) then
  (if (0 : Int32) < (lg_cmp x1 x3) then
  (some (0 : Int32))
  else
  (some (1 : Int32)))
  else
  (if x0 = (12 : Int32) then
  (if (lg_cmp x1 x3) ≤ (0 : Int32) then
  (some (0 : Int32))
  else
  (some (1 : Int32)))
  else
  (if x0 = (13 : Int32) then
  (if (lg_cmp x1 x3) < (0 : Int32) then
  (some (0 : Int32))
  else
  (some (1 : Int32)))
  else
  (if x0 = (14 : Int32) then
  (if (lg_cmp x1 x3) = (0 : Int32) then
  (some (1 : Int32))
  else
  (some (0 : Int32)))
  else
  (if (lg_cmp x1 x3) = (0 : Int32) then
  (some (0 : Int32))
  else
  (some (1 : Int32)))))))
set_option maxRecDepth 100000 in
set_option maxHeartbeats 4000000 in
theorem t_X10_isAsked {l : Launch} {G : v_G} {S : St}   {x0 : Int32} {x1 : Int64} {x3 : Int64} {r : Int32} (hh : f_X10_isAsked  S x0 x1 x3 = some r) : v_M l G yX10_isAsked cX10_isAsked 5 (some .boolean) 0 0 0 [.int x0, .long x1, .long x3] (lay G S) (QI r (lay G S)) := by
  refine v_entry (by decide) (Nat.le_of_ble_eq_true rfl) ?_
  unfold f_X10_isAsked at hh
  show V l G yX10_isAsked cX10_isAsked 5 (some .boolean) (v_rm 0 0 0) (QI r (lay G S)) 0 0 0 [(0, .int x0), (1, .long x1), (3, .long x3)] [] (lay G S)
  refine v_iload_n 0 dX10_isAsked_0 rfl rfl ?_
  refine v_bipush dX10_isAsked_1 (by decide : _ = (10 : Int32)) ?_
  refine v_icmp_ne (tgt := 20) dX10_isAsked_3 (by decide) (fun c => ?_) (fun c => ?_)
  · replace hh := (if_neg c).symm.trans hh
    refine v_iload_n 0 dX10_isAsked_20 rfl rfl ?_
    refine v_bipush dX10_isAsked_21 (by decide : _ = (11 : Int32)) ?_
    refine v_icmp_ne (tgt := 40) dX10_isAsked_23 (by decide) (fun c => ?_) (fun c => ?_)
    · replace hh := (if_neg c).symm.trans hh
      refine v_iload_n 0 dX10_isAsked_40 rfl rfl ?_
      refine v_bipush dX10_isAsked_41 (by decide : _ = (12 : Int32)) ?_
      refine v_icmp_ne (tgt := 60) dX10_isAsked_43 (by decide) (fun c => ?_) (fun c => ?_)
      · replace hh := (if_neg c).symm.trans hh
        refine v_iload_n 0 dX10_isAsked_60 rfl rfl ?_
        refine v_bipush dX10_isAsked_61 (by decide : _ = (13 : Int32)) ?_
        refine v_icmp_ne (tgt := 80) dX10_isAsked_63 (by decide) (fun c => ?_) (fun c => ?_)
        · replace hh := (if_neg c).symm.trans hh
          refine v_iload_n 0 dX10_isAsked_80 rfl rfl ?_
          refine v_bipush dX10_isAsked_81 (by decide : _ = (14 : Int32)) ?_
          refine v_icmp_ne (tgt := 100) dX10_isAsked_83 (by decide) (fun c => ?_) (fun c => ?_)
          · replace hh := (if_neg c).symm.trans hh
            refine v_lload_n 1 dX10_isAsked_100 rfl rfl ?_
            refine v_lload_n 2 dX10_isAsked_101 rfl rfl ?_
            refine v_lcmp dX10_isAsked_102 ?_
            refine v_if_eq (tgt := 110) dX10_isAsked_103 (by decide) (fun c => ?_) (fun c => ?_)
            · replace hh := (if_pos c).symm.trans hh
              refine v_iconst dX10_isAsked_110 (by decide : _ = (0 : Int32)) ?_
              obtain rfl := Option.some.inj hh
              exact v_zret dX10_isAsked_111 rfl (zb (by decide)).1 (Nat.zero_le _) (Nat.zero_le _) ⟨rfl, rfl⟩
            · replace hh := (if_neg c).symm.trans hh
              refine v_iconst dX10_isAsked_106 (by decide : _ = (1 : Int32)) ?_
              refine v_goto (tgt := 111) dX10_isAsked_107 (by decide) ?_
              obtain rfl := Option.some.inj hh
              exact v_zret dX10_isAsked_111 rfl (zb (by decide)).1 (Nat.zero_le _) (Nat.zero_le _) ⟨rfl, rfl⟩
          · replace hh := (if_pos c).symm.trans hh
            refine v_lload_n 1 dX10_isAsked_86 rfl rfl ?_
            refine v_lload_n 2 dX10_isAsked_87 rfl rfl ?_
            refine v_lcmp dX10_isAsked_88 ?_
            refine v_if_ne (tgt := 96) dX10_isAsked_89 (by decide) (fun c => ?_) (fun c => ?_)
            · replace hh := (if_neg c).symm.trans hh
              refine v_iconst dX10_isAsked_96 (by decide : _ = (0 : Int32)) ?_
              refine v_goto (tgt := 111) dX10_isAsked_97 (by decide) ?_
              obtain rfl := Option.some.inj hh
              exact v_zret dX10_isAsked_111 rfl (zb (by decide)).1 (Nat.zero_le _) (Nat.zero_le _) ⟨rfl, rfl⟩
            · replace hh := (if_pos c).symm.trans hh
              refine v_iconst dX10_isAsked_92 (by decide : _ = (1 : Int32)) ?_
              refine v_goto (tgt := 111) dX10_isAsked_93 (by decide) ?_
              obtain rfl := Option.some.inj hh
              exact v_zret dX10_isAsked_111 rfl (zb (by decide)).1 (Nat.zero_le _) (Nat.zero_le _) ⟨rfl, rfl⟩
        · replace hh := (if_pos c).symm.trans hh
          refine v_lload_n 1 dX10_isAsked_66 rfl rfl ?_
          refine v_lload_n 2 dX10_isAsked_67 rfl rfl ?_
          refine v_lcmp dX10_isAsked_68 ?_
          refine v_if_lt (tgt := 76) dX10_isAsked_69 (by decide) (fun c => ?_) (fun c => ?_)
          · replace hh := (if_pos c).symm.trans hh
            refine v_iconst dX10_isAsked_76 (by decide : _ = (0 : Int32)) ?_
            refine v_goto (tgt := 111) dX10_isAsked_77 (by decide) ?_
            obtain rfl := Option.some.inj hh
            exact v_zret dX10_isAsked_111 rfl (zb (by decide)).1 (Nat.zero_le _) (Nat.zero_le _) ⟨rfl, rfl⟩
          · replace hh := (if_neg c).symm.trans hh
            refine v_iconst dX10_isAsked_72 (by decide : _ = (1 : Int32)) ?_
            refine v_goto (tgt := 111) dX10_isAsked_73 (by decide) ?_
            obtain rfl := Option.some.inj hh
            exact v_zret dX10_isAsked_111 rfl (zb (by decide)).1 (Nat.zero_le _) (Nat.zero_le _) ⟨rfl, rfl⟩
      · replace hh := (if_pos c).symm.trans hh
        refine v_lload_n 1 dX10_isAsked_46 rfl rfl ?_
        refine v_lload_n 2 dX10_isAsked_47 rfl rfl ?_
        refine v_lcmp dX10_isAsked_48 ?_
        refine v_if_le (tgt := 56) dX10_isAsked_49 (by decide) (fun c => ?_) (fun c => ?_)
        · replace hh := (if_pos c).symm.trans hh
          refine v_iconst dX10_isAsked_56 (by decide : _ = (0 : Int32)) ?_
          refine v_goto (tgt := 111) dX10_isAsked_57 (by decide) ?_
          obtain rfl := Option.some.inj hh
          exact v_zret dX10_isAsked_111 rfl (zb (by decide)).1 (Nat.zero_le _) (Nat.zero_le _) ⟨rfl, rfl⟩
        · replace hh := (if_neg c).symm.trans hh
          refine v_iconst dX10_isAsked_52 (by decide : _ = (1 : Int32)) ?_
          refine v_goto (tgt := 111) dX10_isAsked_53 (by decide) ?_
          obtain rfl := Option.some.inj hh
          exact v_zret dX10_isAsked_111 rfl (zb (by decide)).1 (Nat.zero_le _) (Nat.zero_le _) ⟨rfl, rfl⟩
    · replace hh := (if_pos c).symm.trans hh
      refine v_lload_n 1 dX10_isAsked_26 rfl rfl ?_
      refine v_lload_n 2 dX10_isAsked_27 rfl rfl ?_
      refine v_lcmp dX10_isAsked_28 ?_
      refine v_if_gt (tgt := 36) dX10_isAsked_29 (by decide) (fun c => ?_) (fun c => ?_)
      · replace hh := (if_pos c).symm.trans hh
        refine v_iconst dX10_isAsked_36 (by decide : _ = (0 : Int32)) ?_
        refine v_goto (tgt := 111) dX10_isAsked_37 (by decide) ?_
        obtain rfl := Option.some.inj hh
        exact v_zret dX10_isAsked_111 rfl (zb (by decide)).1 (Nat.zero_le _) (Nat.zero_le _) ⟨rfl, rfl⟩
      · replace hh := (if_neg c).symm.trans hh
        refine v_iconst dX10_isAsked_32 (by decide : _ = (1 : Int32)) ?_
        refine v_goto (tgt := 111) dX10_isAsked_33 (by decide) ?_
        obtain rfl := Option.some.inj hh
        exact v_zret dX10_isAsked_111 rfl (zb (by decide)).1 (Nat.zero_le _) (Nat.zero_le _) ⟨rfl, rfl⟩
  · replace hh := (if_pos c).symm.trans hh
    refine v_lload_n 1 dX10_isAsked_6 rfl rfl ?_
    refine v_lload_n 2 dX10_isAsked_7 rfl rfl ?_
    refine v_lcmp dX10_isAsked_8 ?_
    refine v_if_ge (tgt := 16) dX10_isAsked_9 (by decide) (fun c => ?_) (fun c => ?_)
    · replace hh := (if_pos c).symm.trans hh
      refine v_iconst dX10_isAsked_16 (by decide : _ = (0 : Int32)) ?_
      refine v_goto (tgt := 111) dX10_isAsked_17 (by decide) ?_
      obtain rfl := Option.some.inj hh
      exact v_zret dX10_isAsked_111 rfl (zb (by decide)).1 (Nat.zero_le _) (Nat.zero_le _) ⟨rfl, rfl⟩
    · replace hh := (if_neg c).symm.trans hh
      refine v_iconst dX10_isAsked_12 (by decide : _ = (1 : Int32)) ?_
      refine v_goto (tgt := 111) dX10_isAsked_13 (by decide) ?_
      obtain rfl := Option.some.inj hh
      exact v_zret dX10_isAsked_111 rfl (zb (by decide)).1 (Nat.zero_le _) (Nat.zero_le _) ⟨rfl, rfl⟩
def f_X10_sheetOf  (S : St) (x1 : Int64) : Option (Int64) :=
  if (lg_cmp x1 (0 : Int64)) < (0 : Int32) then
  (some (0 : Int64))
  else
  (if (0 : Int32) ≤ (lg_cmp x1 (12 : Int64)) then
  (some (0 : Int64))
  else
  (chk (inb ((11 : Int32) + x1.toInt32) 3015) (
  some ((gI S 1000 0 ((11 : Int32) + x1.toInt32).toNatClampNeg).toInt64))))
set_option maxRecDepth 100000 in
set_option maxHeartbeats 4000000 in
theorem t_X10_sheetOf {l : Launch} {G : v_G} {S : St}   {x1 : Int64} {r : Int64} (hh : f_X10_sheetOf  S x1 = some r) : v_M l G yX10_sheetOf cX10_sheetOf 3 (some .long) 0 0 0 [.ref (v_B G + 291), .long x1] (lay G S) (QL r (lay G S)) := by
  refine v_entry (by decide) (Nat.le_of_ble_eq_true rfl) ?_
  unfold f_X10_sheetOf at hh
  show V l G yX10_sheetOf cX10_sheetOf 3 (some .long) (v_rm 0 0 0) (QL r (lay G S)) 0 0 0 [(0, .ref (v_B G + 291)), (1, .long x1)] [] (lay G S)
  refine v_lload_n 1 dX10_sheetOf_0 rfl rfl ?_
  refine v_lconst dX10_sheetOf_1 (by decide : _ = (0 : Int64)) ?_
  refine v_lcmp dX10_sheetOf_2 ?_
  refine v_if_lt (tgt := 28) dX10_sheetOf_3 (by decide) (fun c => ?_) (fun c => ?_)
  · replace hh := (if_pos c).symm.trans hh
    refine v_lconst dX10_sheetOf_28 (by decide : _ = (0 : Int64)) ?_
    obtain rfl := Option.some.inj hh
    exact v_lret dX10_sheetOf_29 rfl (Nat.zero_le _) (Nat.zero_le _) ⟨rfl, rfl⟩
  · replace hh := (if_neg c).symm.trans hh
    refine v_lload_n 1 dX10_sheetOf_6 rfl rfl ?_
    refine v_ldc2 dX10_sheetOf_7 col_X10_245 ?_
    refine v_lcmp dX10_sheetOf_10 ?_
    refine v_if_ge (tgt := 28) dX10_sheetOf_11 (by decide) (fun c => ?_) (fun c => ?_)
    · replace hh := (if_pos c).symm.trans hh
      refine v_lconst dX10_sheetOf_28 (by decide : _ = (0 : Int64)) ?_
      obtain rfl := Option.some.inj hh
      exact v_lret dX10_sheetOf_29 rfl (Nat.zero_le _) (Nat.zero_le _) ⟨rfl, rfl⟩
    · replace hh := (if_neg c).symm.trans hh
      refine v_aload_n 0 dX10_sheetOf_14 rfl rfl ?_
      refine r_Model_a dX10_sheetOf_15 fl_X10_7 ?_
      refine v_bipush dX10_sheetOf_18 (by decide : _ = (11 : Int32)) ?_
      refine v_lload_n 1 dX10_sheetOf_20 rfl rfl ?_
      refine v_l2i dX10_sheetOf_21 ?_
      refine v_iadd dX10_sheetOf_22 ?_
      obtain ⟨g1, hh⟩ := chk_some hh
      replace g1 := inb_in g1
      refine ld_ma dX10_sheetOf_23 g1 ?_
      refine v_i2l dX10_sheetOf_24 ?_
      refine v_goto (tgt := 29) dX10_sheetOf_25 (by decide) ?_
      obtain rfl := Option.some.inj hh
      exact v_lret dX10_sheetOf_29 rfl (Nat.zero_le _) (Nat.zero_le _) ⟨rfl, rfl⟩
def f_X10_ofOne  (S : St) (x1 : Int32) (x2 : Int64) : Option (Int64) :=
  if x1 = (5 : Int32) then
  (some (-x2))
  else
  (if x1 = (4 : Int32) then
  (bnd (f_X10_two S (8 : Int32) x2 x2) fun q2 =>
 some q2)
  else
  (bnd (f_X10_sheetOf S x2) fun q1 =>
 some q1))
set_option maxRecDepth 100000 in
set_option maxHeartbeats 4000000 in
theorem t_X10_ofOne {l : Launch} {G : v_G} {S : St}   {x1 : Int32} {x2 : Int64} {r : Int64} (hh : f_X10_ofOne  S x1 x2 = some r) : v_M l G yX10_ofOne cX10_ofOne 4 (some .long) 2 0 0 [.ref (v_B G + 291), .int x1, .long x2] (lay G S) (QL r (lay G S)) := by
  refine v_entry (by decide) (Nat.le_of_ble_eq_true rfl) ?_
  unfold f_X10_ofOne at hh
  show V l G yX10_ofOne cX10_ofOne 4 (some .long) (v_rm 2 0 0) (QL r (lay G S)) 0 0 0 [(0, .ref (v_B G + 291)), (1, .int x1), (2, .long x2)] [] (lay G S)
  refine v_iload_n 1 dX10_ofOne_0 rfl rfl ?_
  refine v_iconst dX10_ofOne_1 (by decide : _ = (5 : Int32)) ?_
  refine v_icmp_ne (tgt := 10) dX10_ofOne_2 (by decide) (fun c => ?_) (fun c => ?_)
  · replace hh := (if_neg c).symm.trans hh
    refine v_iload_n 1 dX10_ofOne_10 rfl rfl ?_
    refine v_iconst dX10_ofOne_11 (by decide : _ = (4 : Int32)) ?_
    refine v_icmp_ne (tgt := 25) dX10_ofOne_12 (by decide) (fun c => ?_) (fun c => ?_)
    · replace hh := (if_neg c).symm.trans hh
      refine v_aload_n 0 dX10_ofOne_25 rfl rfl ?_
      refine v_lload_n 2 dX10_ofOne_26 rfl rfl ?_
      obtain ⟨q1, eq1, hh⟩ := bnd_some hh
      refine v_callVl (t_X10_sheetOf eq1) dX10_ofOne_27 y_X10_sheetOf ml_X10_251 (ci := 9) rfl rfl (e_Model) rfl rfl (Nat.le_of_ble_eq_true rfl) ⟨(Nat.le_of_ble_eq_true rfl), (Nat.le_of_ble_eq_true rfl)⟩ ⟨Nat.zero_le _, Nat.zero_le _⟩ ?_
      obtain rfl := Option.some.inj hh
      exact v_lret dX10_ofOne_30 rfl (Nat.zero_le _) (Nat.zero_le _) ⟨rfl, rfl⟩
    · replace hh := (if_pos c).symm.trans hh
      refine v_bipush dX10_ofOne_15 (by decide : _ = (8 : Int32)) ?_
      refine v_lload_n 2 dX10_ofOne_17 rfl rfl ?_
      refine v_lload_n 2 dX10_ofOne_18 rfl rfl ?_
      obtain ⟨q2, eq2, hh⟩ := bnd_some hh
      refine v_callSl (t_X10_two eq2) dX10_ofOne_19 y_X10_two ml_X10_247 rfl rfl (Nat.le_of_ble_eq_true rfl) ⟨(Nat.le_of_ble_eq_true rfl), (Nat.le_of_ble_eq_true rfl)⟩ ⟨Nat.zero_le _, Nat.zero_le _⟩ ?_
      refine v_goto (tgt := 30) dX10_ofOne_22 (by decide) ?_
      obtain rfl := Option.some.inj hh
      exact v_lret dX10_ofOne_30 rfl (Nat.zero_le _) (Nat.zero_le _) ⟨rfl, rfl⟩
  · replace hh := (if_pos c).symm.trans hh
    refine v_lload_n 2 dX10_ofOne_5 rfl rfl ?_
    refine v_lneg dX10_ofOne_6 ?_
    refine v_goto (tgt := 30) dX10_ofOne_7 (by decide) ?_
    obtain rfl := Option.some.inj hh
    exact v_lret dX10_ofOne_30 rfl (Nat.zero_le _) (Nat.zero_le _) ⟨rfl, rfl⟩
def f_X10_joined  (S : St) (x0 : Int32) (x1 : Int32) (x2 : Int32) : Option (Int32) :=
  if x0 = (21 : Int32) then
  (if x1 = (0 : Int32) then
  (some (0 : Int32))
  else
  (if x2 = (0 : Int32) then
  (some (0 : Int32))
  else
  (some (1 : Int32))))
  else
  (if x1 = (0 : Int32) then
  (if x2 = (0 : Int32) then
  (some (0 : Int32))
  else
  (some (1 : Int32)))
  else
  (some (1 : Int32)))
set_option maxRecDepth 100000 in
set_option maxHeartbeats 4000000 in
theorem t_X10_joined {l : Launch} {G : v_G} {S : St}   {x0 : Int32} {x1 : Int32} {x2 : Int32} {r : Int32} (hh : f_X10_joined  S x0 x1 x2 = some r) : v_M l G yX10_joined cX10_joined 3 (some .boolean) 0 0 0 [.int x0, .int x1, .int x2] (lay G S) (QI r (lay G S)) := by
  refine v_entry (by decide) (Nat.le_of_ble_eq_true rfl) ?_
  unfold f_X10_joined at hh
  show V l G yX10_joined cX10_joined 3 (some .boolean) (v_rm 0 0 0) (QI r (lay G S)) 0 0 0 [(0, .int x0), (1, .int x1), (2, .int x2)] [] (lay G S)
  refine v_iload_n 0 dX10_joined_0 rfl rfl ?_
  refine v_bipush dX10_joined_1 (by decide : _ = (21 : Int32)) ?_
  refine v_icmp_ne (tgt := 22) dX10_joined_3 (by decide) (fun c => ?_) (fun c => ?_)
  · replace hh := (if_neg c).symm.trans hh
    refine v_iload_n 1 dX10_joined_22 rfl rfl ?_
    refine v_if_ne (tgt := 30) dX10_joined_23 (by decide) (fun c => ?_) (fun c => ?_)
    · replace hh := (if_neg c).symm.trans hh
      refine v_iconst dX10_joined_30 (by decide : _ = (1 : Int32)) ?_
      refine v_goto (tgt := 35) dX10_joined_31 (by decide) ?_
      obtain rfl := Option.some.inj hh
      exact v_zret dX10_joined_35 rfl (zb (by decide)).1 (Nat.zero_le _) (Nat.zero_le _) ⟨rfl, rfl⟩
    · replace hh := (if_pos c).symm.trans hh
      refine v_iload_n 2 dX10_joined_26 rfl rfl ?_
      refine v_if_eq (tgt := 34) dX10_joined_27 (by decide) (fun c => ?_) (fun c => ?_)
      · replace hh := (if_pos c).symm.trans hh
        refine v_iconst dX10_joined_34 (by decide : _ = (0 : Int32)) ?_
        obtain rfl := Option.some.inj hh
        exact v_zret dX10_joined_35 rfl (zb (by decide)).1 (Nat.zero_le _) (Nat.zero_le _) ⟨rfl, rfl⟩
      · replace hh := (if_neg c).symm.trans hh
        refine v_iconst dX10_joined_30 (by decide : _ = (1 : Int32)) ?_
        refine v_goto (tgt := 35) dX10_joined_31 (by decide) ?_
        obtain rfl := Option.some.inj hh
        exact v_zret dX10_joined_35 rfl (zb (by decide)).1 (Nat.zero_le _) (Nat.zero_le _) ⟨rfl, rfl⟩
  · replace hh := (if_pos c).symm.trans hh
    refine v_iload_n 1 dX10_joined_6 rfl rfl ?_
    refine v_if_eq (tgt := 18) dX10_joined_7 (by decide) (fun c => ?_) (fun c => ?_)
    · replace hh := (if_pos c).symm.trans hh
      refine v_iconst dX10_joined_18 (by decide : _ = (0 : Int32)) ?_
      refine v_goto (tgt := 35) dX10_joined_19 (by decide) ?_
      obtain rfl := Option.some.inj hh
      exact v_zret dX10_joined_35 rfl (zb (by decide)).1 (Nat.zero_le _) (Nat.zero_le _) ⟨rfl, rfl⟩
    · replace hh := (if_neg c).symm.trans hh
      refine v_iload_n 2 dX10_joined_10 rfl rfl ?_
      refine v_if_eq (tgt := 18) dX10_joined_11 (by decide) (fun c => ?_) (fun c => ?_)
      · replace hh := (if_pos c).symm.trans hh
        refine v_iconst dX10_joined_18 (by decide : _ = (0 : Int32)) ?_
        refine v_goto (tgt := 35) dX10_joined_19 (by decide) ?_
        obtain rfl := Option.some.inj hh
        exact v_zret dX10_joined_35 rfl (zb (by decide)).1 (Nat.zero_le _) (Nat.zero_le _) ⟨rfl, rfl⟩
      · replace hh := (if_neg c).symm.trans hh
        refine v_iconst dX10_joined_14 (by decide : _ = (1 : Int32)) ?_
        refine v_goto (tgt := 35) dX10_joined_15 (by decide) ?_
        obtain rfl := Option.some.inj hh
        exact v_zret dX10_joined_35 rfl (zb (by decide)).1 (Nat.zero_le _) (Nat.zero_le _) ⟨rfl, rfl⟩
def f_X10_summedUp_b38 (N : Nat) : Nat → Int32 → Int32 → Int32 → Int32 → Int32 → St → Option (Int64 × St)
  | 0, _, _, _, _, _, _ => none
  | n + 1, x3, x4, x5, x6, x7, S =>
  chk (inb (x3 + (2 : Int32)) 2724) (
  if (gI S 1002 0 (x3 + (2 : Int32)).toNatClampNeg) ≤ x7 then
  (some (gL S 1021 0 0, S))
  else
  (chk (inb (x4 + ((2 : Int32) * x7)) 2724) (
  lt (gI S 1002 0 (x4 + ((2 : Int32) * x7)).toNatClampNeg) fun v8 =>
  chk (inb ((x4 + ((2 : Int32) * x7)) + (1 : Int32)) 2724) (
  lt (gI S 1002 0 ((x4 + ((2 : Int32) * x7)) + (1 : Int32)).toNatClampNeg) fun v10 =>
  if (1 : Int32) < v8 then
  (if v8 = (3 : Int32) then
  (lt (x5 + (-1 : Int32)) fun v47 =>
  lt (x6 + (-1 : Int32)) fun v48 =>
  chk (inb v48 330) (
  if (gI S 1022 0 v48.toNatClampNeg) = (0 : Int32) then
  (chk (inb v47 330) (
  chk (inb (v47 - (1 : Int32)) 330) (
  lt (sL S 1021 0 ((v47 - (1 : Int32)).toNatClampNeg) (gL S 1021 0 v47.toNatClampNeg)) fun S53 =>
  lt (x7 + (1 : Int32)) fun v54 =>
  f_X10_summedUp_b38 N n x3 x4 v47 v48 v54 S53)))
  else
  (lt (x7 + (1 : Int32)) fun v50 =>
  f_X10_summedUp_b38 N n x3 x4 v47 v48 v50 S)))
  else
  (if (5 : Int32) < v8 then
  (if (10 : Int32) ≤ v8 then
  (if (20 : Int32) ≤ v8 then
  (if v8 = (20 : Int32) then
  (chk (inb (x6 - (1 : Int32)) 330) (
  if (gI S 1022 0 (x6 - (1 : Int32)).toNatClampNeg) = (0 : Int32) then
  (chk (inb (x6 - (1 : Int32)) 330) (
  lt (sI S 1022 0 ((x6 - (1 : Int32)).toNatClampNeg) (1 : Int32)) fun S24 =>
  lt (x7 + (1 : Int32)) fun v25 =>
  f_X10_summedUp_b38 N n x3 x4 x5 x6 v25 S24))
  else
  (chk (inb (x6 - (1 : Int32)) 330) (
  lt (sI S 1022 0 ((x6 - (1 : Int32)).toNatClampNeg) (0 : Int32)) fun S21 =>
  lt (x7 + (1 : Int32)) fun v22 =>
  f_X10_summedUp_b38 N n x3 x4 x5 x6 v22 S21))))
  else
  (lt (x6 + (-1 : Int32)) fun v11 =>
  chk (inb (v11 - (1 : Int32)) 330) (
  chk (inb v11 330) (
  bnd (f_X10_joined S v8 (gI S 1022 0 (v11 - (1 : Int32)).toNatClampNeg) (gI S 1022 0 v11.toNatClampNeg)) fun q14 =>
 chk (inb (v11 - (1 : Int32)) 330) (
  chk (isz q14) (
  lt (sI S 1022 0 ((v11 - (1 : Int32)).toNatClampNeg) q14) fun S16 =>
  lt (x7 + (1 : Int32)) fun v18 =>
  f_X10_summedUp_b38 N n x3 x4 x5 v11 v18 S16))))))
  else
  (lt (x5 + (-2 : Int32)) fun v26 =>
  chk (inb v26 330) (
  chk (inb (v26 + (1 : Int32)) 330) (
  bnd (f_X10_isAsked S v8 (gL S 1021 0 v26.toNatClampNeg) (gL S 1021 0 (v26 + (1 : Int32)).toNatClampNeg)) fun q29 =>
 chk (inb x6 330) (
  chk (isz q29) (
  lt (sI S 1022 0 x6.toNatClampNeg q29) fun S31 =>
  lt (x6 + (1 : Int32)) fun v33 =>
  lt (x7 + (1 : Int32)) fun v34 =>
  f_X10_summedUp_b38 N n x3 x4 v26 v33 v34 S31))))))
  else
  (lt (x5 + (-1 : Int32)) fun v35 =>
  chk (inb (v35 - (1 : Int32)) 330) (
  chk (inb v35 330) (
  bnd (f_X10_two S v8 (gL S 1021 0 (v35 - (1 : Int32)).toNatClampNeg) (gL S 1021 0 v35.toNatClampNeg)) fun q38 =>
 chk (inb (v35 - (1 : Int32)) 330) (
  lt (sL S 1021 0 ((v35 - (1 : Int32)).toNatClampNeg) q38) fun S40 =>
  lt (x7 + (1 : Int32)) fun v41 =>
  f_X10_summedUp_b38 N n x3 x4 v35 x6 v41 S40)))))
  else
  (chk (inb (x5 - (1 : Int32)) 330) (
  bnd (f_X10_ofOne S v8 (gL S 1021 0 (x5 - (1 : Int32)).toNatClampNeg)) fun q43 =>
 chk (inb (x5 - (1 : Int32)) 330) (
  lt (sL S 1021 0 ((x5 - (1 : Int32)).toNatClampNeg) q43) fun S45 =>
  lt (x7 + (1 : Int32)) fun v46 =>
  f_X10_summedUp_b38 N n x3 x4 x5 x6 v46 S45)))))
  else
  (if v8 = (0 : Int32) then
  (chk (inb x5 330) (
  lt (sL S 1021 0 x5.toNatClampNeg v10.toInt64) fun S61 =>
  lt (x5 + (1 : Int32)) fun v62 =>
  lt (x7 + (1 : Int32)) fun v63 =>
  f_X10_summedUp_b38 N n x3 x4 v62 x6 v63 S61))
  else
  (chk (inb v10 8) (
  chk (inb x5 330) (
  lt (sL S 1021 0 x5.toNatClampNeg ((gI S 1020 0 v10.toNatClampNeg).toInt64)) fun S57 =>
  lt (x5 + (1 : Int32)) fun v58 =>
  lt (x7 + (1 : Int32)) fun v59 =>
  f_X10_summedUp_b38 N n x3 x4 v58 x6 v59 S57))))))))
set_option maxRecDepth 100000 in
set_option maxHeartbeats 4000000 in
theorem tb_X10_summedUp_38 {l : Launch} {G : v_G} {N : Nat}    {r : Int64 × St}   : ∀ (n : Nat) (x3 : Int32) (x4 : Int32) (x5 : Int32) (x6 : Int32) (x7 : Int32) (S : St),  f_X10_summedUp_b38 N n x3 x4 x5 x6 x7 S = some r → V l G yX10_summedUp cX10_summedUp 10 (some .long) (v_rm 3 0 0) (QL r.1 (lay G r.2)) 0 0 38 [(0, .ref (v_B G + 291)), (3, .int x3), (4, .int x4), (5, .int x5), (6, .int x6), (7, .int x7)] [] (lay G S) := by
  intro n
  induction n with
  | zero =>
    intro x3 x4 x5 x6 x7 S  hh
    rw [f_X10_summedUp_b38] at hh
    cases hh
  | succ n ih =>
    intro x3 x4 x5 x6 x7 S  hh
    rw [f_X10_summedUp_b38] at hh
    refine v_iload 5 dX10_summedUp_38 rfl ?_
    refine v_aload_n 0 dX10_summedUp_40 rfl rfl ?_
    refine r_Model_texts dX10_summedUp_41 fl_X10_16 ?_
    refine v_iload_n 1 dX10_summedUp_44 rfl rfl ?_
    refine v_iconst dX10_summedUp_45 (by decide : _ = (2 : Int32)) ?_
    refine v_iadd dX10_summedUp_46 ?_
    obtain ⟨g5, hh⟩ := chk_some hh
    replace g5 := inb_in g5
    refine ld_mtexts dX10_summedUp_47 g5 ?_
    refine v_icmp_ge (tgt := 355) dX10_summedUp_48 (by decide) (fun c => ?_) (fun c => ?_)
    · replace hh := (if_pos c).symm.trans hh
      refine v_aload_n 0 dX10_summedUp_355 rfl rfl ?_
      refine r_Model_values dX10_summedUp_356 fl_X10_35 ?_
      refine v_iconst dX10_summedUp_359 (by decide : _ = (0 : Int32)) ?_
      refine ld_values dX10_summedUp_360 (inb_in (by decide)) ?_
      obtain rfl := Option.some.inj hh
      exact v_lret dX10_summedUp_361 rfl (Nat.zero_le _) (Nat.zero_le _) ⟨rfl, rfl⟩
    · replace hh := (if_neg c).symm.trans hh
      refine v_aload_n 0 dX10_summedUp_51 rfl rfl ?_
      refine r_Model_texts dX10_summedUp_52 fl_X10_16 ?_
      refine v_iload 2 dX10_summedUp_55 rfl ?_
      refine v_iconst dX10_summedUp_57 (by decide : _ = (2 : Int32)) ?_
      refine v_iload 5 dX10_summedUp_58 rfl ?_
      refine v_imul dX10_summedUp_60 ?_
      refine v_iadd dX10_summedUp_61 ?_
      obtain ⟨g7, hh⟩ := chk_some hh
      replace g7 := inb_in g7
      refine ld_mtexts dX10_summedUp_62 g7 ?_
      refine v_istore dX10_summedUp_63 (by decide) rfl ?_
      replace hh := lt_of hh
      refine v_aload_n 1 dX10_summedUp_65 rfl rfl ?_
      refine r_Model_texts dX10_summedUp_66 fl_X10_16 ?_
      refine v_iload 3 dX10_summedUp_69 rfl ?_
      refine v_iconst dX10_summedUp_71 (by decide : _ = (2 : Int32)) ?_
      refine v_iload 6 dX10_summedUp_72 rfl ?_
      refine v_imul dX10_summedUp_74 ?_
      refine v_iadd dX10_summedUp_75 ?_
      refine v_iconst dX10_summedUp_76 (by decide : _ = (1 : Int32)) ?_
      refine v_iadd dX10_summedUp_77 ?_
      obtain ⟨g9, hh⟩ := chk_some hh
      replace g9 := inb_in g9
      refine ld_mtexts dX10_summedUp_78 g9 ?_
      refine v_istore dX10_summedUp_79 (by decide) rfl ?_
      replace hh := lt_of hh
      refine v_iload 1 dX10_summedUp_81 rfl ?_
      refine v_iconst dX10_summedUp_83 (by decide : _ = (1 : Int32)) ?_
      refine v_icmp_gt (tgt := 119) dX10_summedUp_84 (by decide) (fun c => ?_) (fun c => ?_)
      · replace hh := (if_pos c).symm.trans hh
        refine v_iload 1 dX10_summedUp_119 rfl ?_
        refine v_iconst dX10_summedUp_121 (by decide : _ = (3 : Int32)) ?_
        refine v_icmp_ne (tgt := 160) dX10_summedUp_122 (by decide) (fun c => ?_) (fun c => ?_)
        · replace hh := (if_neg c).symm.trans hh
          refine v_iload 1 dX10_summedUp_160 rfl ?_
          refine v_iconst dX10_summedUp_162 (by decide : _ = (5 : Int32)) ?_
          refine v_icmp_gt (tgt := 193) dX10_summedUp_163 (by decide) (fun c => ?_) (fun c => ?_)
          · replace hh := (if_pos c).symm.trans hh
            refine v_iload 1 dX10_summedUp_193 rfl ?_
            refine v_bipush dX10_summedUp_195 (by decide : _ = (10 : Int32)) ?_
            refine v_icmp_ge (tgt := 236) dX10_summedUp_197 (by decide) (fun c => ?_) (fun c => ?_)
            · replace hh := (if_pos c).symm.trans hh
              refine v_iload 1 dX10_summedUp_236 rfl ?_
              refine v_bipush dX10_summedUp_238 (by decide : _ = (20 : Int32)) ?_
              refine v_icmp_ge (tgt := 280) dX10_summedUp_240 (by decide) (fun c => ?_) (fun c => ?_)
              · replace hh := (if_pos c).symm.trans hh
                refine v_iload 1 dX10_summedUp_280 rfl ?_
                refine v_bipush dX10_summedUp_282 (by decide : _ = (20 : Int32)) ?_
                refine v_icmp_ne (tgt := 316) dX10_summedUp_284 (by decide) (fun c => ?_) (fun c => ?_)
                · replace hh := (if_neg c).symm.trans hh
                  refine v_iinc (v := _ + (-1 : Int32)) 6 dX10_summedUp_316 rfl rfl (by decide) rfl ?_
                  replace hh := lt_of hh
                  refine v_aload_n 3 dX10_summedUp_319 rfl rfl ?_
                  refine r_Model_truth dX10_summedUp_320 fl_X10_39 ?_
                  refine v_iload 0 dX10_summedUp_323 rfl ?_
                  refine v_iconst dX10_summedUp_325 (by decide : _ = (1 : Int32)) ?_
                  refine v_isub dX10_summedUp_326 ?_
                  refine v_iload 2 dX10_summedUp_327 rfl ?_
                  refine v_aload_n 3 dX10_summedUp_329 rfl rfl ?_
                  refine r_Model_truth dX10_summedUp_330 fl_X10_39 ?_
                  refine v_iload 0 dX10_summedUp_333 rfl ?_
                  refine v_iconst dX10_summedUp_335 (by decide : _ = (1 : Int32)) ?_
                  refine v_isub dX10_summedUp_336 ?_
                  obtain ⟨g12, hh⟩ := chk_some hh
                  replace g12 := inb_in g12
                  refine ld_truth dX10_summedUp_337 g12 ?_
                  refine v_aload_n 3 dX10_summedUp_338 rfl rfl ?_
                  refine r_Model_truth dX10_summedUp_339 fl_X10_39 ?_
                  refine v_iload 0 dX10_summedUp_342 rfl ?_
                  obtain ⟨g13, hh⟩ := chk_some hh
                  replace g13 := inb_in g13
                  refine ld_truth dX10_summedUp_344 g13 ?_
                  obtain ⟨q14, eq14, hh⟩ := bnd_some hh
                  refine v_callSi (t_X10_joined eq14) dX10_summedUp_345 y_X10_joined ml_X10_262 rfl rfl (Nat.le_of_ble_eq_true rfl) ⟨(Nat.le_of_ble_eq_true rfl), (Nat.le_of_ble_eq_true rfl)⟩ ⟨Nat.zero_le _, Nat.zero_le _⟩ ?_
                  obtain ⟨g15, hh⟩ := chk_some hh
                  replace g15 := inb_in g15
                  obtain ⟨g17, hh⟩ := chk_some hh
                  refine st_truth dX10_summedUp_348 g15 (isz_or g17) ?_
                  replace hh := lt_of hh
                  refine v_iinc (v := _ + (1 : Int32)) 7 dX10_summedUp_349 rfl rfl (by decide) rfl ?_
                  replace hh := lt_of hh
                  refine v_goto (tgt := 38) dX10_summedUp_352 (by decide) ?_
                  exact v_sub [4, 5, 6, 7, 1, 0] rfl (ih _ _ _ _ _ _ hh)
                · replace hh := (if_pos c).symm.trans hh
                  refine v_aload_n 2 dX10_summedUp_287 rfl rfl ?_
                  refine r_Model_truth dX10_summedUp_288 fl_X10_39 ?_
                  refine v_iload 6 dX10_summedUp_291 rfl ?_
                  refine v_iconst dX10_summedUp_293 (by decide : _ = (1 : Int32)) ?_
                  refine v_isub dX10_summedUp_294 ?_
                  refine v_aload_n 2 dX10_summedUp_295 rfl rfl ?_
                  refine r_Model_truth dX10_summedUp_296 fl_X10_39 ?_
                  refine v_iload 6 dX10_summedUp_299 rfl ?_
                  refine v_iconst dX10_summedUp_301 (by decide : _ = (1 : Int32)) ?_
                  refine v_isub dX10_summedUp_302 ?_
                  obtain ⟨g19, hh⟩ := chk_some hh
                  replace g19 := inb_in g19
                  refine ld_truth dX10_summedUp_303 g19 ?_
                  refine v_if_ne (tgt := 311) dX10_summedUp_304 (by decide) (fun c => ?_) (fun c => ?_)
                  · replace hh := (if_neg c).symm.trans hh
                    refine v_iconst dX10_summedUp_311 (by decide : _ = (0 : Int32)) ?_
                    obtain ⟨g20, hh⟩ := chk_some hh
                    replace g20 := inb_in g20
                    refine st_truth dX10_summedUp_312 g20 (by decide) ?_
                    replace hh := lt_of hh
                    refine v_goto (tgt := 349) dX10_summedUp_313 (by decide) ?_
                    refine v_iinc (v := _ + (1 : Int32)) 7 dX10_summedUp_349 rfl rfl (by decide) rfl ?_
                    replace hh := lt_of hh
                    refine v_goto (tgt := 38) dX10_summedUp_352 (by decide) ?_
                    exact v_sub [3, 4, 5, 6, 7, 0] rfl (ih _ _ _ _ _ _ hh)
                  · replace hh := (if_pos c).symm.trans hh
                    refine v_iconst dX10_summedUp_307 (by decide : _ = (1 : Int32)) ?_
                    refine v_goto (tgt := 312) dX10_summedUp_308 (by decide) ?_
                    obtain ⟨g23, hh⟩ := chk_some hh
                    replace g23 := inb_in g23
                    refine st_truth dX10_summedUp_312 g23 (by decide) ?_
                    replace hh := lt_of hh
                    refine v_goto (tgt := 349) dX10_summedUp_313 (by decide) ?_
                    refine v_iinc (v := _ + (1 : Int32)) 7 dX10_summedUp_349 rfl rfl (by decide) rfl ?_
                    replace hh := lt_of hh
                    refine v_goto (tgt := 38) dX10_summedUp_352 (by decide) ?_
                    exact v_sub [3, 4, 5, 6, 7, 0] rfl (ih _ _ _ _ _ _ hh)
              · replace hh := (if_neg c).symm.trans hh
                refine v_iinc (v := _ + (-2 : Int32)) 5 dX10_summedUp_243 rfl rfl (by decide) rfl ?_
                replace hh := lt_of hh
                refine v_aload_n 3 dX10_summedUp_246 rfl rfl ?_
                refine r_Model_truth dX10_summedUp_247 fl_X10_39 ?_
                refine v_iload 6 dX10_summedUp_250 rfl ?_
                refine v_iload 2 dX10_summedUp_252 rfl ?_
                refine v_aload_n 3 dX10_summedUp_254 rfl rfl ?_
                refine r_Model_values dX10_summedUp_255 fl_X10_35 ?_
                refine v_iload 0 dX10_summedUp_258 rfl ?_
                obtain ⟨g27, hh⟩ := chk_some hh
                replace g27 := inb_in g27
                refine ld_values dX10_summedUp_260 g27 ?_
                refine v_aload_n 3 dX10_summedUp_261 rfl rfl ?_
                refine r_Model_values dX10_summedUp_262 fl_X10_35 ?_
                refine v_iload 0 dX10_summedUp_265 rfl ?_
                refine v_iconst dX10_summedUp_267 (by decide : _ = (1 : Int32)) ?_
                refine v_iadd dX10_summedUp_268 ?_
                obtain ⟨g28, hh⟩ := chk_some hh
                replace g28 := inb_in g28
                refine ld_values dX10_summedUp_269 g28 ?_
                obtain ⟨q29, eq29, hh⟩ := bnd_some hh
                refine v_callSi (t_X10_isAsked eq29) dX10_summedUp_270 y_X10_isAsked ml_X10_258 rfl rfl (Nat.le_of_ble_eq_true rfl) ⟨(Nat.le_of_ble_eq_true rfl), (Nat.le_of_ble_eq_true rfl)⟩ ⟨Nat.zero_le _, Nat.zero_le _⟩ ?_
                obtain ⟨g30, hh⟩ := chk_some hh
                replace g30 := inb_in g30
                obtain ⟨g32, hh⟩ := chk_some hh
                refine st_truth dX10_summedUp_273 g30 (isz_or g32) ?_
                replace hh := lt_of hh
                refine v_iinc (v := _ + (1 : Int32)) 6 dX10_summedUp_274 rfl rfl (by decide) rfl ?_
                replace hh := lt_of hh
                refine v_goto (tgt := 349) dX10_summedUp_277 (by decide) ?_
                refine v_iinc (v := _ + (1 : Int32)) 7 dX10_summedUp_349 rfl rfl (by decide) rfl ?_
                replace hh := lt_of hh
                refine v_goto (tgt := 38) dX10_summedUp_352 (by decide) ?_
                exact v_sub [5, 6, 7, 2, 1, 0] rfl (ih _ _ _ _ _ _ hh)
            · replace hh := (if_neg c).symm.trans hh
              refine v_iinc (v := _ + (-1 : Int32)) 5 dX10_summedUp_200 rfl rfl (by decide) rfl ?_
              replace hh := lt_of hh
              refine v_aload_n 3 dX10_summedUp_203 rfl rfl ?_
              refine r_Model_values dX10_summedUp_204 fl_X10_35 ?_
              refine v_iload 0 dX10_summedUp_207 rfl ?_
              refine v_iconst dX10_summedUp_209 (by decide : _ = (1 : Int32)) ?_
              refine v_isub dX10_summedUp_210 ?_
              refine v_iload 2 dX10_summedUp_211 rfl ?_
              refine v_aload_n 3 dX10_summedUp_213 rfl rfl ?_
              refine r_Model_values dX10_summedUp_214 fl_X10_35 ?_
              refine v_iload 0 dX10_summedUp_217 rfl ?_
              refine v_iconst dX10_summedUp_219 (by decide : _ = (1 : Int32)) ?_
              refine v_isub dX10_summedUp_220 ?_
              obtain ⟨g36, hh⟩ := chk_some hh
              replace g36 := inb_in g36
              refine ld_values dX10_summedUp_221 g36 ?_
              refine v_aload_n 3 dX10_summedUp_222 rfl rfl ?_
              refine r_Model_values dX10_summedUp_223 fl_X10_35 ?_
              refine v_iload 0 dX10_summedUp_226 rfl ?_
              obtain ⟨g37, hh⟩ := chk_some hh
              replace g37 := inb_in g37
              refine ld_values dX10_summedUp_228 g37 ?_
              obtain ⟨q38, eq38, hh⟩ := bnd_some hh
              refine v_callSl (t_X10_two eq38) dX10_summedUp_229 y_X10_two ml_X10_247 rfl rfl (Nat.le_of_ble_eq_true rfl) ⟨(Nat.le_of_ble_eq_true rfl), (Nat.le_of_ble_eq_true rfl)⟩ ⟨Nat.zero_le _, Nat.zero_le _⟩ ?_
              obtain ⟨g39, hh⟩ := chk_some hh
              replace g39 := inb_in g39
              refine st_values dX10_summedUp_232 g39 ?_
              replace hh := lt_of hh
              refine v_goto (tgt := 349) dX10_summedUp_233 (by decide) ?_
              refine v_iinc (v := _ + (1 : Int32)) 7 dX10_summedUp_349 rfl rfl (by decide) rfl ?_
              replace hh := lt_of hh
              refine v_goto (tgt := 38) dX10_summedUp_352 (by decide) ?_
              exact v_sub [4, 5, 6, 1, 7, 0] rfl (ih _ _ _ _ _ _ hh)
          · replace hh := (if_neg c).symm.trans hh
            refine v_aload_n 2 dX10_summedUp_166 rfl rfl ?_
            refine r_Model_values dX10_summedUp_167 fl_X10_35 ?_
            refine v_iload 5 dX10_summedUp_170 rfl ?_
            refine v_iconst dX10_summedUp_172 (by decide : _ = (1 : Int32)) ?_
            refine v_isub dX10_summedUp_173 ?_
            refine v_aload_n 2 dX10_summedUp_174 rfl rfl ?_
            refine v_iload 1 dX10_summedUp_175 rfl ?_
            refine v_aload_n 2 dX10_summedUp_177 rfl rfl ?_
            refine r_Model_values dX10_summedUp_178 fl_X10_35 ?_
            refine v_iload 5 dX10_summedUp_181 rfl ?_
            refine v_iconst dX10_summedUp_183 (by decide : _ = (1 : Int32)) ?_
            refine v_isub dX10_summedUp_184 ?_
            obtain ⟨g42, hh⟩ := chk_some hh
            replace g42 := inb_in g42
            refine ld_values dX10_summedUp_185 g42 ?_
            obtain ⟨q43, eq43, hh⟩ := bnd_some hh
            refine v_callVl (t_X10_ofOne eq43) dX10_summedUp_186 y_X10_ofOne ml_X10_254 (ci := 9) rfl rfl (e_Model) rfl rfl (Nat.le_of_ble_eq_true rfl) ⟨(Nat.le_of_ble_eq_true rfl), (Nat.le_of_ble_eq_true rfl)⟩ ⟨Nat.zero_le _, Nat.zero_le _⟩ ?_
            obtain ⟨g44, hh⟩ := chk_some hh
            replace g44 := inb_in g44
            refine st_values dX10_summedUp_189 g44 ?_
            replace hh := lt_of hh
            refine v_goto (tgt := 349) dX10_summedUp_190 (by decide) ?_
            refine v_iinc (v := _ + (1 : Int32)) 7 dX10_summedUp_349 rfl rfl (by decide) rfl ?_
            replace hh := lt_of hh
            refine v_goto (tgt := 38) dX10_summedUp_352 (by decide) ?_
            exact v_sub [3, 4, 5, 6, 7, 0] rfl (ih _ _ _ _ _ _ hh)
        · replace hh := (if_pos c).symm.trans hh
          refine v_iinc (v := _ + (-1 : Int32)) 5 dX10_summedUp_125 rfl rfl (by decide) rfl ?_
          replace hh := lt_of hh
          refine v_iinc (v := _ + (-1 : Int32)) 6 dX10_summedUp_128 rfl rfl (by decide) rfl ?_
          replace hh := lt_of hh
          refine v_aload_n 4 dX10_summedUp_131 rfl rfl ?_
          refine r_Model_truth dX10_summedUp_132 fl_X10_39 ?_
          refine v_iload 0 dX10_summedUp_135 rfl ?_
          obtain ⟨g49, hh⟩ := chk_some hh
          replace g49 := inb_in g49
          refine ld_truth dX10_summedUp_137 g49 ?_
          refine v_if_ne (tgt := 349) dX10_summedUp_138 (by decide) (fun c => ?_) (fun c => ?_)
          · replace hh := (if_neg c).symm.trans hh
            refine v_iinc (v := _ + (1 : Int32)) 7 dX10_summedUp_349 rfl rfl (by decide) rfl ?_
            replace hh := lt_of hh
            refine v_goto (tgt := 38) dX10_summedUp_352 (by decide) ?_
            exact v_sub [5, 6, 7, 2, 1, 0] rfl (ih _ _ _ _ _ _ hh)
          · replace hh := (if_pos c).symm.trans hh
            refine v_aload_n 4 dX10_summedUp_141 rfl rfl ?_
            refine r_Model_values dX10_summedUp_142 fl_X10_35 ?_
            refine v_iload 1 dX10_summedUp_145 rfl ?_
            refine v_iconst dX10_summedUp_147 (by decide : _ = (1 : Int32)) ?_
            refine v_isub dX10_summedUp_148 ?_
            refine v_aload_n 4 dX10_summedUp_149 rfl rfl ?_
            refine r_Model_values dX10_summedUp_150 fl_X10_35 ?_
            refine v_iload 1 dX10_summedUp_153 rfl ?_
            obtain ⟨g51, hh⟩ := chk_some hh
            replace g51 := inb_in g51
            refine ld_values dX10_summedUp_155 g51 ?_
            obtain ⟨g52, hh⟩ := chk_some hh
            replace g52 := inb_in g52
            refine st_values dX10_summedUp_156 g52 ?_
            replace hh := lt_of hh
            refine v_goto (tgt := 349) dX10_summedUp_157 (by decide) ?_
            refine v_iinc (v := _ + (1 : Int32)) 7 dX10_summedUp_349 rfl rfl (by decide) rfl ?_
            replace hh := lt_of hh
            refine v_goto (tgt := 38) dX10_summedUp_352 (by decide) ?_
            exact v_sub [5, 6, 7, 2, 1, 0] rfl (ih _ _ _ _ _ _ hh)
      · replace hh := (if_neg c).symm.trans hh
        refine v_aload_n 2 dX10_summedUp_87 rfl rfl ?_
        refine r_Model_values dX10_summedUp_88 fl_X10_35 ?_
        refine v_iload 5 dX10_summedUp_91 rfl ?_
        refine v_iload 1 dX10_summedUp_93 rfl ?_
        refine v_if_ne (tgt := 104) dX10_summedUp_95 (by decide) (fun c => ?_) (fun c => ?_)
        · replace hh := (if_neg c).symm.trans hh
          refine v_aload_n 2 dX10_summedUp_104 rfl rfl ?_
          refine r_Model_named dX10_summedUp_105 fl_X10_32 ?_
          refine v_iload 0 dX10_summedUp_108 rfl ?_
          obtain ⟨g55, hh⟩ := chk_some hh
          replace g55 := inb_in g55
          refine ld_named dX10_summedUp_110 g55 ?_
          refine v_i2l dX10_summedUp_111 ?_
          obtain ⟨g56, hh⟩ := chk_some hh
          replace g56 := inb_in g56
          refine st_values dX10_summedUp_112 g56 ?_
          replace hh := lt_of hh
          refine v_iinc (v := _ + (1 : Int32)) 5 dX10_summedUp_113 rfl rfl (by decide) rfl ?_
          replace hh := lt_of hh
          refine v_goto (tgt := 349) dX10_summedUp_116 (by decide) ?_
          refine v_iinc (v := _ + (1 : Int32)) 7 dX10_summedUp_349 rfl rfl (by decide) rfl ?_
          replace hh := lt_of hh
          refine v_goto (tgt := 38) dX10_summedUp_352 (by decide) ?_
          exact v_sub [4, 5, 6, 1, 7, 0] rfl (ih _ _ _ _ _ _ hh)
        · replace hh := (if_pos c).symm.trans hh
          refine v_iload 0 dX10_summedUp_98 rfl ?_
          refine v_i2l dX10_summedUp_100 ?_
          refine v_goto (tgt := 112) dX10_summedUp_101 (by decide) ?_
          obtain ⟨g60, hh⟩ := chk_some hh
          replace g60 := inb_in g60
          refine st_values dX10_summedUp_112 g60 ?_
          replace hh := lt_of hh
          refine v_iinc (v := _ + (1 : Int32)) 5 dX10_summedUp_113 rfl rfl (by decide) rfl ?_
          replace hh := lt_of hh
          refine v_goto (tgt := 349) dX10_summedUp_116 (by decide) ?_
          refine v_iinc (v := _ + (1 : Int32)) 7 dX10_summedUp_349 rfl rfl (by decide) rfl ?_
          replace hh := lt_of hh
          refine v_goto (tgt := 38) dX10_summedUp_352 (by decide) ?_
          exact v_sub [4, 5, 6, 1, 7, 0] rfl (ih _ _ _ _ _ _ hh)
def f_X10_summedUp (N : Nat) (S : St) (x1 : Int32) (x2 : Int32) : Option (Int64 × St) :=
  lt ((((681 : Int32) * x1) + (1 : Int32)) + ((3 : Int32) * x2)) fun v1 =>
  lt (((681 : Int32) * x1) + (73 : Int32)) fun v2 =>
  chk (inb (v1 + (1 : Int32)) 2724) (
  lt (gI S 1002 0 (v1 + (1 : Int32)).toNatClampNeg) fun v4 =>
  f_X10_summedUp_b38 N N v1 v2 (0 : Int32) (0 : Int32) v4 S)
set_option maxRecDepth 100000 in
set_option maxHeartbeats 4000000 in
theorem t_X10_summedUp {l : Launch} {G : v_G} {N : Nat} {S : St}   {x1 : Int32} {x2 : Int32} {r : Int64 × St} (hh : f_X10_summedUp N S x1 x2 = some r) : v_M l G yX10_summedUp cX10_summedUp 10 (some .long) 3 0 0 [.ref (v_B G + 291), .int x1, .int x2] (lay G S) (QL r.1 (lay G r.2)) := by
  refine v_entry (by decide) (Nat.le_of_ble_eq_true rfl) ?_
  unfold f_X10_summedUp at hh
  show V l G yX10_summedUp cX10_summedUp 10 (some .long) (v_rm 3 0 0) (QL r.1 (lay G r.2)) 0 0 0 [(0, .ref (v_B G + 291)), (1, .int x1), (2, .int x2)] [] (lay G S)
  refine v_sipush dX10_summedUp_0 (by decide : _ = (681 : Int32)) ?_
  refine v_iload_n 1 dX10_summedUp_3 rfl rfl ?_
  refine v_imul dX10_summedUp_4 ?_
  refine v_iconst dX10_summedUp_5 (by decide : _ = (1 : Int32)) ?_
  refine v_iadd dX10_summedUp_6 ?_
  refine v_iconst dX10_summedUp_7 (by decide : _ = (3 : Int32)) ?_
  refine v_iload_n 2 dX10_summedUp_8 rfl rfl ?_
  refine v_imul dX10_summedUp_9 ?_
  refine v_iadd dX10_summedUp_10 ?_
  refine v_istore_n dX10_summedUp_11 rfl (by decide) rfl ?_
  replace hh := lt_of hh
  refine v_sipush dX10_summedUp_12 (by decide : _ = (681 : Int32)) ?_
  refine v_iload_n 2 dX10_summedUp_15 rfl rfl ?_
  refine v_imul dX10_summedUp_16 ?_
  refine v_bipush dX10_summedUp_17 (by decide : _ = (73 : Int32)) ?_
  refine v_iadd dX10_summedUp_19 ?_
  refine v_istore dX10_summedUp_20 (by decide) rfl ?_
  replace hh := lt_of hh
  refine v_iconst dX10_summedUp_22 (by decide : _ = (0 : Int32)) ?_
  refine v_istore dX10_summedUp_23 (by decide) rfl ?_
  refine v_iconst dX10_summedUp_25 (by decide : _ = (0 : Int32)) ?_
  refine v_istore dX10_summedUp_26 (by decide) rfl ?_
  refine v_aload_n 4 dX10_summedUp_28 rfl rfl ?_
  refine r_Model_texts dX10_summedUp_29 fl_X10_16 ?_
  refine v_iload_n 3 dX10_summedUp_32 rfl rfl ?_
  refine v_iconst dX10_summedUp_33 (by decide : _ = (1 : Int32)) ?_
  refine v_iadd dX10_summedUp_34 ?_
  obtain ⟨g3, hh⟩ := chk_some hh
  replace g3 := inb_in g3
  refine ld_mtexts dX10_summedUp_35 g3 ?_
  refine v_istore dX10_summedUp_36 (by decide) rfl ?_
  replace hh := lt_of hh
  exact v_sub [5, 4, 3, 2, 1, 0] rfl (tb_X10_summedUp_38 N _ _ _ _ _ _ hh)
def f_X10_says_b63 (N : Nat) (x3 : Int32) (x4 : Int32) (S : St) : Option (Int32 × St) :=
  bnd (f_X10_cut S x3.toInt64 (0 : Int32) x4) fun q1 =>
 some (q1, S)
set_option maxRecDepth 100000 in
set_option maxHeartbeats 4000000 in
theorem tb_X10_says_63 {l : Launch} {G : v_G} {N : Nat}    {r : Int32 × St}   : ∀ (x3 : Int32) (x4 : Int32) (S : St),  f_X10_says_b63 N x3 x4 S = some r → V l G yX10_says cX10_says 6 (some .int) (v_rm 4 0 0) (QI r.1 (lay G r.2)) 0 0 63 [(3, .int x3), (4, .int x4)] [] (lay G S) := by
  intro x3 x4 S  hh
  unfold f_X10_says_b63 at hh
  refine v_iload_n 0 dX10_says_63 rfl rfl ?_
  refine v_i2l dX10_says_64 ?_
  refine v_iconst dX10_says_65 (by decide : _ = (0 : Int32)) ?_
  refine v_iload 1 dX10_says_66 rfl ?_
  obtain ⟨q1, eq1, hh⟩ := bnd_some hh
  refine v_callSi (t_X10_cut eq1) dX10_says_68 y_X10_cut ml_X10_269 rfl rfl (Nat.le_of_ble_eq_true rfl) ⟨(Nat.le_of_ble_eq_true rfl), (Nat.le_of_ble_eq_true rfl)⟩ ⟨Nat.zero_le _, Nat.zero_le _⟩ ?_
  obtain rfl := Option.some.inj hh
  exact v_iret dX10_says_71 rfl (Nat.zero_le _) (Nat.zero_le _) ⟨rfl, rfl⟩
def f_X10_says_b3 (N : Nat) : Nat → Int32 → Int32 → Int32 → Int32 → Int32 → St → Option (Int32 × St)
  | 0, _, _, _, _, _, _ => none
  | n + 1, x1, x2, x3, x4, x5, S =>
  if x1 < (0 : Int32) then
  (f_X10_says_b63 N x3 x4 S)
  else
  (chk (inb ((681 : Int32) * x1) 2724) (
  if (gI S 1002 0 ((681 : Int32) * x1).toNatClampNeg) ≤ x5 then
  (f_X10_says_b63 N x3 x4 S)
  else
  (chk (inb ((((681 : Int32) * x1) + (1 : Int32)) + ((3 : Int32) * x5)) 2724) (
  if (gI S 1002 0 ((((681 : Int32) * x1) + (1 : Int32)) + ((3 : Int32) * x5)).toNatClampNeg) = x2 then
  (bnd (f_X10_summedUp N S x1 x5) fun q5 =>
 bnd (f_X10_cut q5.2 q5.1 (0 : Int32) x4) fun q6 =>
 some (q6, q5.2))
  else
  (lt (x5 + (1 : Int32)) fun v4 =>
  f_X10_says_b3 N n x1 x2 x3 x4 v4 S)))))
set_option maxRecDepth 100000 in
set_option maxHeartbeats 4000000 in
theorem tb_X10_says_3 {l : Launch} {G : v_G} {N : Nat}    {r : Int32 × St}   : ∀ (n : Nat) (x1 : Int32) (x2 : Int32) (x3 : Int32) (x4 : Int32) (x5 : Int32) (S : St),  f_X10_says_b3 N n x1 x2 x3 x4 x5 S = some r → V l G yX10_says cX10_says 6 (some .int) (v_rm 4 0 0) (QI r.1 (lay G r.2)) 0 0 3 [(0, .ref (v_B G + 291)), (1, .int x1), (2, .int x2), (3, .int x3), (4, .int x4), (5, .int x5)] [] (lay G S) := by
  intro n
  induction n with
  | zero =>
    intro x1 x2 x3 x4 x5 S  hh
    rw [f_X10_says_b3] at hh
    cases hh
  | succ n ih =>
    intro x1 x2 x3 x4 x5 S  hh
    rw [f_X10_says_b3] at hh
    refine v_iload_n 1 dX10_says_3 rfl rfl ?_
    refine v_if_lt (tgt := 63) dX10_says_4 (by decide) (fun c => ?_) (fun c => ?_)
    · replace hh := (if_pos c).symm.trans hh
      exact v_sub [3, 4] rfl (tb_X10_says_63 _ _ _ hh)
    · replace hh := (if_neg c).symm.trans hh
      refine v_iload 5 dX10_says_7 rfl ?_
      refine v_aload_n 0 dX10_says_9 rfl rfl ?_
      refine r_Model_texts dX10_says_10 fl_X10_16 ?_
      refine v_sipush dX10_says_13 (by decide : _ = (681 : Int32)) ?_
      refine v_iload_n 1 dX10_says_16 rfl rfl ?_
      refine v_imul dX10_says_17 ?_
      obtain ⟨g2, hh⟩ := chk_some hh
      replace g2 := inb_in g2
      refine ld_mtexts dX10_says_18 g2 ?_
      refine v_icmp_ge (tgt := 63) dX10_says_19 (by decide) (fun c => ?_) (fun c => ?_)
      · replace hh := (if_pos c).symm.trans hh
        exact v_sub [3, 4] rfl (tb_X10_says_63 _ _ _ hh)
      · replace hh := (if_neg c).symm.trans hh
        refine v_aload_n 0 dX10_says_22 rfl rfl ?_
        refine r_Model_texts dX10_says_23 fl_X10_16 ?_
        refine v_sipush dX10_says_26 (by decide : _ = (681 : Int32)) ?_
        refine v_iload_n 1 dX10_says_29 rfl rfl ?_
        refine v_imul dX10_says_30 ?_
        refine v_iconst dX10_says_31 (by decide : _ = (1 : Int32)) ?_
        refine v_iadd dX10_says_32 ?_
        refine v_iconst dX10_says_33 (by decide : _ = (3 : Int32)) ?_
        refine v_iload 5 dX10_says_34 rfl ?_
        refine v_imul dX10_says_36 ?_
        refine v_iadd dX10_says_37 ?_
        obtain ⟨g3, hh⟩ := chk_some hh
        replace g3 := inb_in g3
        refine ld_mtexts dX10_says_38 g3 ?_
        refine v_iload_n 2 dX10_says_39 rfl rfl ?_
        refine v_icmp_ne (tgt := 57) dX10_says_40 (by decide) (fun c => ?_) (fun c => ?_)
        · replace hh := (if_neg c).symm.trans hh
          refine v_iinc (v := _ + (1 : Int32)) 5 dX10_says_57 rfl rfl (by decide) rfl ?_
          replace hh := lt_of hh
          refine v_goto (tgt := 3) dX10_says_60 (by decide) ?_
          exact v_sub [1, 2, 3, 4, 5, 0] rfl (ih _ _ _ _ _ _ hh)
        · replace hh := (if_pos c).symm.trans hh
          refine v_aload_n 0 dX10_says_43 rfl rfl ?_
          refine v_iload_n 1 dX10_says_44 rfl rfl ?_
          refine v_iload 5 dX10_says_45 rfl ?_
          obtain ⟨q5, eq5, hh⟩ := bnd_some hh
          refine v_callVl (t_X10_summedUp eq5) dX10_says_47 y_X10_summedUp ml_X10_266 (ci := 9) rfl rfl (e_Model) rfl rfl (Nat.le_of_ble_eq_true rfl) ⟨(Nat.le_of_ble_eq_true rfl), (Nat.le_of_ble_eq_true rfl)⟩ ⟨Nat.zero_le _, Nat.zero_le _⟩ ?_
          refine v_iconst dX10_says_50 (by decide : _ = (0 : Int32)) ?_
          refine v_iload 4 dX10_says_51 rfl ?_
          obtain ⟨q6, eq6, hh⟩ := bnd_some hh
          refine v_callSi (t_X10_cut eq6) dX10_says_53 y_X10_cut ml_X10_269 rfl rfl (Nat.le_of_ble_eq_true rfl) ⟨(Nat.le_of_ble_eq_true rfl), (Nat.le_of_ble_eq_true rfl)⟩ ⟨Nat.zero_le _, Nat.zero_le _⟩ ?_
          obtain rfl := Option.some.inj hh
          exact v_iret dX10_says_56 rfl (Nat.zero_le _) (Nat.zero_le _) ⟨rfl, rfl⟩
def f_X10_says (N : Nat) (S : St) (x1 : Int32) (x2 : Int32) (x3 : Int32) (x4 : Int32) : Option (Int32 × St) :=
  f_X10_says_b3 N N x1 x2 x3 x4 (0 : Int32) S
set_option maxRecDepth 100000 in
set_option maxHeartbeats 4000000 in
theorem t_X10_says {l : Launch} {G : v_G} {N : Nat} {S : St}   {x1 : Int32} {x2 : Int32} {x3 : Int32} {x4 : Int32} {r : Int32 × St} (hh : f_X10_says N S x1 x2 x3 x4 = some r) : v_M l G yX10_says cX10_says 6 (some .int) 4 0 0 [.ref (v_B G + 291), .int x1, .int x2, .int x3, .int x4] (lay G S) (QI r.1 (lay G r.2)) := by
  refine v_entry (by decide) (Nat.le_of_ble_eq_true rfl) ?_
  unfold f_X10_says at hh
  show V l G yX10_says cX10_says 6 (some .int) (v_rm 4 0 0) (QI r.1 (lay G r.2)) 0 0 0 [(0, .ref (v_B G + 291)), (1, .int x1), (2, .int x2), (3, .int x3), (4, .int x4)] [] (lay G S)
  refine v_iconst dX10_says_0 (by decide : _ = (0 : Int32)) ?_
  refine v_istore dX10_says_1 (by decide) rfl ?_
  exact v_sub [1, 2, 3, 4, 5, 0] rfl (tb_X10_says_3 N _ _ _ _ _ _ hh)
def f_X10_name  (S : St) (x1 : Int32) : Option (St) :=
  lt (sI S 1020 0 0 (gI S 1000 0 6)) fun S3 =>
  lt (sI S3 1020 0 1 x1) fun S5 =>
  chk (inb ((11 : Int32) + x1) 3015) (
  lt (sI S5 1020 0 2 (gI S5 1000 0 ((11 : Int32) + x1).toNatClampNeg)) fun S8 =>
  chk (inb ((23 : Int32) + x1) 3015) (
  lt (sI S8 1020 0 3 (gI S8 1000 0 ((23 : Int32) + x1).toNatClampNeg)) fun S11 =>
  some S11))
set_option maxRecDepth 100000 in
set_option maxHeartbeats 4000000 in
theorem t_X10_name {l : Launch} {G : v_G} {S : St}   {x1 : Int32} {r : St} (hh : f_X10_name  S x1 = some r) : v_M l G yX10_name cX10_name 2 (none) 0 0 0 [.ref (v_B G + 291), .int x1] (lay G S) (QV (lay G r)) := by
  refine v_entry (by decide) (Nat.le_of_ble_eq_true rfl) ?_
  unfold f_X10_name at hh
  show V l G yX10_name cX10_name 2 (none) (v_rm 0 0 0) (QV (lay G r)) 0 0 0 [(0, .ref (v_B G + 291)), (1, .int x1)] [] (lay G S)
  refine v_aload_n 0 dX10_name_0 rfl rfl ?_
  refine r_Model_named dX10_name_1 fl_X10_32 ?_
  refine v_iconst dX10_name_4 (by decide : _ = (0 : Int32)) ?_
  refine v_aload_n 0 dX10_name_5 rfl rfl ?_
  refine r_Model_a dX10_name_6 fl_X10_7 ?_
  refine v_bipush dX10_name_9 (by decide : _ = (6 : Int32)) ?_
  refine ld_ma dX10_name_11 (inb_in (by decide)) ?_
  refine st_named dX10_name_12 (inb_in (by decide)) ?_
  replace hh := lt_of hh
  refine v_aload_n 0 dX10_name_13 rfl rfl ?_
  refine r_Model_named dX10_name_14 fl_X10_32 ?_
  refine v_iconst dX10_name_17 (by decide : _ = (1 : Int32)) ?_
  refine v_iload_n 1 dX10_name_18 rfl rfl ?_
  refine st_named dX10_name_19 (inb_in (by decide)) ?_
  replace hh := lt_of hh
  refine v_aload_n 0 dX10_name_20 rfl rfl ?_
  refine r_Model_named dX10_name_21 fl_X10_32 ?_
  refine v_iconst dX10_name_24 (by decide : _ = (2 : Int32)) ?_
  refine v_aload_n 0 dX10_name_25 rfl rfl ?_
  refine r_Model_a dX10_name_26 fl_X10_7 ?_
  refine v_bipush dX10_name_29 (by decide : _ = (11 : Int32)) ?_
  refine v_iload_n 1 dX10_name_31 rfl rfl ?_
  refine v_iadd dX10_name_32 ?_
  obtain ⟨g6, hh⟩ := chk_some hh
  replace g6 := inb_in g6
  refine ld_ma dX10_name_33 g6 ?_
  refine st_named dX10_name_34 (inb_in (by decide)) ?_
  replace hh := lt_of hh
  refine v_aload_n 0 dX10_name_35 rfl rfl ?_
  refine r_Model_named dX10_name_36 fl_X10_32 ?_
  refine v_iconst dX10_name_39 (by decide : _ = (3 : Int32)) ?_
  refine v_aload_n 0 dX10_name_40 rfl rfl ?_
  refine r_Model_a dX10_name_41 fl_X10_7 ?_
  refine v_bipush dX10_name_44 (by decide : _ = (23 : Int32)) ?_
  refine v_iload_n 1 dX10_name_46 rfl rfl ?_
  refine v_iadd dX10_name_47 ?_
  obtain ⟨g9, hh⟩ := chk_some hh
  replace g9 := inb_in g9
  refine ld_ma dX10_name_48 g9 ?_
  refine st_named dX10_name_49 (inb_in (by decide)) ?_
  replace hh := lt_of hh
  obtain rfl := Option.some.inj hh
  exact v_vret dX10_name_50 rfl (Nat.zero_le _) (Nat.zero_le _) ⟨rfl, rfl⟩
def f_X10_besideOf  (S : St) (x0 : Int32) (x1 : Int32) : Option (Int32) :=
  if x1 = (0 : Int32) then
  (some (x0 - (1 : Int32)))
  else
  (if (12 : Int32) ≤ (x0 + (1 : Int32)) then
  (some (-1 : Int32))
  else
  (some (x0 + (1 : Int32))))
set_option maxRecDepth 100000 in
set_option maxHeartbeats 4000000 in
theorem t_X10_besideOf {l : Launch} {G : v_G} {S : St}   {x0 : Int32} {x1 : Int32} {r : Int32} (hh : f_X10_besideOf  S x0 x1 = some r) : v_M l G yX10_besideOf cX10_besideOf 2 (some .int) 0 0 0 [.int x0, .int x1] (lay G S) (QI r (lay G S)) := by
  refine v_entry (by decide) (Nat.le_of_ble_eq_true rfl) ?_
  unfold f_X10_besideOf at hh
  show V l G yX10_besideOf cX10_besideOf 2 (some .int) (v_rm 0 0 0) (QI r (lay G S)) 0 0 0 [(0, .int x0), (1, .int x1)] [] (lay G S)
  refine v_iload_n 1 dX10_besideOf_0 rfl rfl ?_
  refine v_if_eq (tgt := 22) dX10_besideOf_1 (by decide) (fun c => ?_) (fun c => ?_)
  · replace hh := (if_pos c).symm.trans hh
    refine v_iload_n 0 dX10_besideOf_22 rfl rfl ?_
    refine v_iconst dX10_besideOf_23 (by decide : _ = (1 : Int32)) ?_
    refine v_isub dX10_besideOf_24 ?_
    obtain rfl := Option.some.inj hh
    exact v_iret dX10_besideOf_25 rfl (Nat.zero_le _) (Nat.zero_le _) ⟨rfl, rfl⟩
  · replace hh := (if_neg c).symm.trans hh
    refine v_iload_n 0 dX10_besideOf_4 rfl rfl ?_
    refine v_iconst dX10_besideOf_5 (by decide : _ = (1 : Int32)) ?_
    refine v_iadd dX10_besideOf_6 ?_
    refine v_bipush dX10_besideOf_7 (by decide : _ = (12 : Int32)) ?_
    refine v_icmp_ge (tgt := 18) dX10_besideOf_9 (by decide) (fun c => ?_) (fun c => ?_)
    · replace hh := (if_pos c).symm.trans hh
      refine v_iconst dX10_besideOf_18 (by decide : _ = (-1 : Int32)) ?_
      refine v_goto (tgt := 25) dX10_besideOf_19 (by decide) ?_
      obtain rfl := Option.some.inj hh
      exact v_iret dX10_besideOf_25 rfl (Nat.zero_le _) (Nat.zero_le _) ⟨rfl, rfl⟩
    · replace hh := (if_neg c).symm.trans hh
      refine v_iload_n 0 dX10_besideOf_12 rfl rfl ?_
      refine v_iconst dX10_besideOf_13 (by decide : _ = (1 : Int32)) ?_
      refine v_iadd dX10_besideOf_14 ?_
      refine v_goto (tgt := 25) dX10_besideOf_15 (by decide) ?_
      obtain rfl := Option.some.inj hh
      exact v_iret dX10_besideOf_25 rfl (Nat.zero_le _) (Nat.zero_le _) ⟨rfl, rfl⟩
def f_X10_movesOf_b84 (N : Nat) (x1 : Int32) (s0 : Int32) (s1 : Int32) (S : St) : Option (Int32 × St) :=
  chk (inb s1 8) (
  lt (sI S 1020 0 s1.toNatClampNeg s0) fun S12 =>
  bnd (f_X10_says N S12 x1 (0 : Int32) ((gI S12 1020 0 2) / (2 : Int32)) (gI S12 1020 0 2)) fun q15 =>
 some (q15.1, q15.2))
set_option maxRecDepth 100000 in
set_option maxHeartbeats 4000000 in
theorem tb_X10_movesOf_84 {l : Launch} {G : v_G} {N : Nat}    {r : Int32 × St}   : ∀ (x1 : Int32) (s0 : Int32) (s1 : Int32) (S : St),  f_X10_movesOf_b84 N x1 s0 s1 S = some r → V l G yX10_movesOf cX10_movesOf 6 (some .int) (v_rm 5 0 0) (QI r.1 (lay G r.2)) 0 0 84 [(0, .ref (v_B G + 291)), (1, .int x1)] [.int s0, .int s1, .ref (v_B G + 297)] (lay G S) := by
  intro x1 s0 s1 S  hh
  unfold f_X10_movesOf_b84 at hh
  obtain ⟨g11, hh⟩ := chk_some hh
  replace g11 := inb_in g11
  refine st_named dX10_movesOf_84 g11 ?_
  replace hh := lt_of hh
  refine v_aload_n 0 dX10_movesOf_85 rfl rfl ?_
  refine v_iload_n 1 dX10_movesOf_86 rfl rfl ?_
  refine v_iconst dX10_movesOf_87 (by decide : _ = (0 : Int32)) ?_
  refine v_aload_n 0 dX10_movesOf_88 rfl rfl ?_
  refine r_Model_named dX10_movesOf_89 fl_X10_32 ?_
  refine v_iconst dX10_movesOf_92 (by decide : _ = (2 : Int32)) ?_
  refine ld_named dX10_movesOf_93 (inb_in (by decide)) ?_
  refine v_iconst dX10_movesOf_94 (by decide : _ = (2 : Int32)) ?_
  refine v_idiv dX10_movesOf_95 (by decide) ?_
  refine v_aload_n 0 dX10_movesOf_96 rfl rfl ?_
  refine r_Model_named dX10_movesOf_97 fl_X10_32 ?_
  refine v_iconst dX10_movesOf_100 (by decide : _ = (2 : Int32)) ?_
  refine ld_named dX10_movesOf_101 (inb_in (by decide)) ?_
  obtain ⟨q15, eq15, hh⟩ := bnd_some hh
  refine v_callVi (t_X10_says eq15) dX10_movesOf_102 y_X10_says ml_X10_280 (ci := 9) rfl rfl (e_Model) rfl rfl (Nat.le_of_ble_eq_true rfl) ⟨(Nat.le_of_ble_eq_true rfl), (Nat.le_of_ble_eq_true rfl)⟩ ⟨Nat.zero_le _, Nat.zero_le _⟩ ?_
  obtain rfl := Option.some.inj hh
  exact v_iret dX10_movesOf_105 rfl (Nat.zero_le _) (Nat.zero_le _) ⟨rfl, rfl⟩
def f_X10_movesOf_b67 (N : Nat) (x1 : Int32) (x4 : Int32) (s0 : Int32) (s1 : Int32) (S : St) : Option (Int32 × St) :=
  chk (inb s1 8) (
  lt (sI S 1020 0 s1.toNatClampNeg s0) fun S10 =>
  if x4 = (0 : Int32) then
  (f_X10_movesOf_b84 N x1 (0 : Int32) (7 : Int32) S10)
  else
  (f_X10_movesOf_b84 N x1 (1 : Int32) (7 : Int32) S10))
set_option maxRecDepth 100000 in
set_option maxHeartbeats 4000000 in
theorem tb_X10_movesOf_67 {l : Launch} {G : v_G} {N : Nat}    {r : Int32 × St}   : ∀ (x1 : Int32) (x4 : Int32) (s0 : Int32) (s1 : Int32) (S : St),  f_X10_movesOf_b67 N x1 x4 s0 s1 S = some r → V l G yX10_movesOf cX10_movesOf 6 (some .int) (v_rm 5 0 0) (QI r.1 (lay G r.2)) 0 0 67 [(0, .ref (v_B G + 291)), (1, .int x1), (4, .int x4)] [.int s0, .int s1, .ref (v_B G + 297)] (lay G S) := by
  intro x1 x4 s0 s1 S  hh
  unfold f_X10_movesOf_b67 at hh
  obtain ⟨g9, hh⟩ := chk_some hh
  replace g9 := inb_in g9
  refine st_named dX10_movesOf_67 g9 ?_
  replace hh := lt_of hh
  refine v_aload_n 0 dX10_movesOf_68 rfl rfl ?_
  refine r_Model_named dX10_movesOf_69 fl_X10_32 ?_
  refine v_bipush dX10_movesOf_72 (by decide : _ = (7 : Int32)) ?_
  refine v_iload 2 dX10_movesOf_74 rfl ?_
  refine v_if_eq (tgt := 83) dX10_movesOf_76 (by decide) (fun c => ?_) (fun c => ?_)
  · replace hh := (if_pos c).symm.trans hh
    refine v_iconst dX10_movesOf_83 (by decide : _ = (0 : Int32)) ?_
    exact v_sub [0, 1] rfl (tb_X10_movesOf_84 _ _ _ _ hh)
  · replace hh := (if_neg c).symm.trans hh
    refine v_iconst dX10_movesOf_79 (by decide : _ = (1 : Int32)) ?_
    refine v_goto (tgt := 84) dX10_movesOf_80 (by decide) ?_
    exact v_sub [0, 1] rfl (tb_X10_movesOf_84 _ _ _ _ hh)
def f_X10_movesOf (N : Nat) (S : St) (x1 : Int32) (x2 : Int32) (x3 : Int32) (x4 : Int32) : Option (Int32 × St) :=
  bnd (f_X10_besideOf S x3 x4) fun q1 =>
 bnd (f_X10_name S x3) fun q2 =>
 chk (inb ((47 : Int32) + x2) 3015) (
  lt (sI q2 1020 0 4 (gI q2 1000 0 ((47 : Int32) + x2).toNatClampNeg)) fun S5 =>
  lt (sI S5 1020 0 5 x2) fun S7 =>
  if q1 = (-1 : Int32) then
  (f_X10_movesOf_b67 N x1 x4 (gI S7 1000 0 9) (6 : Int32) S7)
  else
  (chk (inb ((11 : Int32) + q1) 3015) (
  f_X10_movesOf_b67 N x1 x4 (gI S7 1000 0 ((11 : Int32) + q1).toNatClampNeg) (6 : Int32) S7)))
set_option maxRecDepth 100000 in
set_option maxHeartbeats 4000000 in
theorem t_X10_movesOf {l : Launch} {G : v_G} {N : Nat} {S : St}   {x1 : Int32} {x2 : Int32} {x3 : Int32} {x4 : Int32} {r : Int32 × St} (hh : f_X10_movesOf N S x1 x2 x3 x4 = some r) : v_M l G yX10_movesOf cX10_movesOf 6 (some .int) 5 0 0 [.ref (v_B G + 291), .int x1, .int x2, .int x3, .int x4] (lay G S) (QI r.1 (lay G r.2)) := by
  refine v_entry (by decide) (Nat.le_of_ble_eq_true rfl) ?_
  unfold f_X10_movesOf at hh
  show V l G yX10_movesOf cX10_movesOf 6 (some .int) (v_rm 5 0 0) (QI r.1 (lay G r.2)) 0 0 0 [(0, .ref (v_B G + 291)), (1, .int x1), (2, .int x2), (3, .int x3), (4, .int x4)] [] (lay G S)
  refine v_iload_n 3 dX10_movesOf_0 rfl rfl ?_
  refine v_iload 4 dX10_movesOf_1 rfl ?_
  obtain ⟨q1, eq1, hh⟩ := bnd_some hh
  refine v_callSi (t_X10_besideOf eq1) dX10_movesOf_3 y_X10_besideOf ml_X10_273 rfl rfl (Nat.le_of_ble_eq_true rfl) ⟨(Nat.le_of_ble_eq_true rfl), (Nat.le_of_ble_eq_true rfl)⟩ ⟨Nat.zero_le _, Nat.zero_le _⟩ ?_
  refine v_istore dX10_movesOf_6 (by decide) rfl ?_
  refine v_aload_n 1 dX10_movesOf_8 rfl rfl ?_
  refine v_iload_n 4 dX10_movesOf_9 rfl rfl ?_
  obtain ⟨q2, eq2, hh⟩ := bnd_some hh
  refine v_callVv (t_X10_name eq2) dX10_movesOf_10 y_X10_name ml_X10_277 (ci := 9) rfl rfl (e_Model) rfl rfl (Nat.le_of_ble_eq_true rfl) ⟨(Nat.le_of_ble_eq_true rfl), (Nat.le_of_ble_eq_true rfl)⟩ ⟨Nat.zero_le _, Nat.zero_le _⟩ ?_
  refine v_aload_n 1 dX10_movesOf_13 rfl rfl ?_
  refine r_Model_named dX10_movesOf_14 fl_X10_32 ?_
  refine v_iconst dX10_movesOf_17 (by decide : _ = (4 : Int32)) ?_
  refine v_aload_n 1 dX10_movesOf_18 rfl rfl ?_
  refine r_Model_a dX10_movesOf_19 fl_X10_7 ?_
  refine v_bipush dX10_movesOf_22 (by decide : _ = (47 : Int32)) ?_
  refine v_iload_n 3 dX10_movesOf_24 rfl rfl ?_
  refine v_iadd dX10_movesOf_25 ?_
  obtain ⟨g3, hh⟩ := chk_some hh
  replace g3 := inb_in g3
  refine ld_ma dX10_movesOf_26 g3 ?_
  refine st_named dX10_movesOf_27 (inb_in (by decide)) ?_
  replace hh := lt_of hh
  refine v_aload_n 1 dX10_movesOf_28 rfl rfl ?_
  refine r_Model_named dX10_movesOf_29 fl_X10_32 ?_
  refine v_iconst dX10_movesOf_32 (by decide : _ = (5 : Int32)) ?_
  refine v_iload_n 3 dX10_movesOf_33 rfl rfl ?_
  refine st_named dX10_movesOf_34 (inb_in (by decide)) ?_
  replace hh := lt_of hh
  refine v_aload_n 1 dX10_movesOf_35 rfl rfl ?_
  refine r_Model_named dX10_movesOf_36 fl_X10_32 ?_
  refine v_bipush dX10_movesOf_39 (by decide : _ = (6 : Int32)) ?_
  refine v_iload 0 dX10_movesOf_41 rfl ?_
  refine v_iconst dX10_movesOf_43 (by decide : _ = (-1 : Int32)) ?_
  refine v_icmp_ne (tgt := 57) dX10_movesOf_44 (by decide) (fun c => ?_) (fun c => ?_)
  · replace hh := (if_neg c).symm.trans hh
    refine v_aload_n 1 dX10_movesOf_57 rfl rfl ?_
    refine r_Model_a dX10_movesOf_58 fl_X10_7 ?_
    refine v_bipush dX10_movesOf_61 (by decide : _ = (11 : Int32)) ?_
    refine v_iload 0 dX10_movesOf_63 rfl ?_
    refine v_iadd dX10_movesOf_65 ?_
    obtain ⟨g8, hh⟩ := chk_some hh
    replace g8 := inb_in g8
    refine ld_ma dX10_movesOf_66 g8 ?_
    exact v_sub [1, 2, 5] rfl (tb_X10_movesOf_67 _ _ _ _ _ hh)
  · replace hh := (if_pos c).symm.trans hh
    refine v_aload_n 1 dX10_movesOf_47 rfl rfl ?_
    refine r_Model_a dX10_movesOf_48 fl_X10_7 ?_
    refine v_bipush dX10_movesOf_51 (by decide : _ = (9 : Int32)) ?_
    refine ld_ma dX10_movesOf_53 (inb_in (by decide)) ?_
    refine v_goto (tgt := 67) dX10_movesOf_54 (by decide) ?_
    exact v_sub [1, 2, 5] rfl (tb_X10_movesOf_67 _ _ _ _ _ hh)
def f_X10_tearsOf (N : Nat) (S : St) (x1 : Int32) : Option (Int32 × St) :=
  bnd (f_X10_name S x1) fun q1 =>
 bnd (f_X10_says N q1 (gI q1 1000 0 3) (1 : Int32) (3 : Int32) (99 : Int32)) fun q3 =>
 some (q3.1, q3.2)
set_option maxRecDepth 100000 in
set_option maxHeartbeats 4000000 in
theorem t_X10_tearsOf {l : Launch} {G : v_G} {N : Nat} {S : St}   {x1 : Int32} {r : Int32 × St} (hh : f_X10_tearsOf N S x1 = some r) : v_M l G yX10_tearsOf cX10_tearsOf 2 (some .int) 5 0 0 [.ref (v_B G + 291), .int x1] (lay G S) (QI r.1 (lay G r.2)) := by
  refine v_entry (by decide) (Nat.le_of_ble_eq_true rfl) ?_
  unfold f_X10_tearsOf at hh
  show V l G yX10_tearsOf cX10_tearsOf 2 (some .int) (v_rm 5 0 0) (QI r.1 (lay G r.2)) 0 0 0 [(0, .ref (v_B G + 291)), (1, .int x1)] [] (lay G S)
  refine v_aload_n 0 dX10_tearsOf_0 rfl rfl ?_
  refine v_iload_n 1 dX10_tearsOf_1 rfl rfl ?_
  obtain ⟨q1, eq1, hh⟩ := bnd_some hh
  refine v_callVv (t_X10_name eq1) dX10_tearsOf_2 y_X10_name ml_X10_277 (ci := 9) rfl rfl (e_Model) rfl rfl (Nat.le_of_ble_eq_true rfl) ⟨(Nat.le_of_ble_eq_true rfl), (Nat.le_of_ble_eq_true rfl)⟩ ⟨Nat.zero_le _, Nat.zero_le _⟩ ?_
  refine v_aload_n 0 dX10_tearsOf_5 rfl rfl ?_
  refine v_aload_n 0 dX10_tearsOf_6 rfl rfl ?_
  refine r_Model_a dX10_tearsOf_7 fl_X10_7 ?_
  refine v_iconst dX10_tearsOf_10 (by decide : _ = (3 : Int32)) ?_
  refine ld_ma dX10_tearsOf_11 (inb_in (by decide)) ?_
  refine v_iconst dX10_tearsOf_12 (by decide : _ = (1 : Int32)) ?_
  refine v_iconst dX10_tearsOf_13 (by decide : _ = (3 : Int32)) ?_
  refine v_bipush dX10_tearsOf_14 (by decide : _ = (99 : Int32)) ?_
  obtain ⟨q3, eq3, hh⟩ := bnd_some hh
  refine v_callVi (t_X10_says eq3) dX10_tearsOf_16 y_X10_says ml_X10_280 (ci := 9) rfl rfl (e_Model) rfl rfl (Nat.le_of_ble_eq_true rfl) ⟨(Nat.le_of_ble_eq_true rfl), (Nat.le_of_ble_eq_true rfl)⟩ ⟨Nat.zero_le _, Nat.zero_le _⟩ ?_
  obtain rfl := Option.some.inj hh
  exact v_iret dX10_tearsOf_19 rfl (Nat.zero_le _) (Nat.zero_le _) ⟨rfl, rfl⟩
def f_X10_write_b71 (N : Nat) (x1 : Int32) (x2 : Int32) (x3 : Int32) (S : St) : Option (St) :=
  chk (inb ((2955 : Int32) + ((2 : Int32) * (gI S 1000 0 10))) 3015) (
  lt (sI S 1000 0 (((2955 : Int32) + ((2 : Int32) * (gI S 1000 0 10))).toNatClampNeg) (((((gI S 1000 0 6) * (4 : Int32)) + x1) * (24 : Int32)) + x2)) fun S5 =>
  chk (inb (((2955 : Int32) + ((2 : Int32) * (gI S5 1000 0 10))) + (1 : Int32)) 3015) (
  lt (sI S5 1000 0 ((((2955 : Int32) + ((2 : Int32) * (gI S5 1000 0 10))) + (1 : Int32)).toNatClampNeg) x3) fun S8 =>
  lt (sI S8 1000 0 10 ((gI S8 1000 0 10) + (1 : Int32))) fun S11 =>
  some S11))
set_option maxRecDepth 100000 in
set_option maxHeartbeats 4000000 in
theorem tb_X10_write_71 {l : Launch} {G : v_G} {N : Nat}    {r : St}   : ∀ (x1 : Int32) (x2 : Int32) (x3 : Int32) (S : St),  f_X10_write_b71 N x1 x2 x3 S = some r → V l G yX10_write cX10_write 5 (none) (v_rm 0 0 0) (QV (lay G r)) 0 0 71 [(0, .ref (v_B G + 291)), (1, .int x1), (2, .int x2), (3, .int x3)] [] (lay G S) := by
  intro x1 x2 x3 S  hh
  unfold f_X10_write_b71 at hh
  refine v_aload_n 0 dX10_write_71 rfl rfl ?_
  refine r_Model_a dX10_write_72 fl_X10_7 ?_
  refine v_sipush dX10_write_75 (by decide : _ = (2955 : Int32)) ?_
  refine v_iconst dX10_write_78 (by decide : _ = (2 : Int32)) ?_
  refine v_aload_n 0 dX10_write_79 rfl rfl ?_
  refine r_Model_a dX10_write_80 fl_X10_7 ?_
  refine v_bipush dX10_write_83 (by decide : _ = (10 : Int32)) ?_
  refine ld_ma dX10_write_85 (inb_in (by decide)) ?_
  refine v_imul dX10_write_86 ?_
  refine v_iadd dX10_write_87 ?_
  refine v_aload_n 0 dX10_write_88 rfl rfl ?_
  refine r_Model_a dX10_write_89 fl_X10_7 ?_
  refine v_bipush dX10_write_92 (by decide : _ = (6 : Int32)) ?_
  refine ld_ma dX10_write_94 (inb_in (by decide)) ?_
  refine v_iconst dX10_write_95 (by decide : _ = (4 : Int32)) ?_
  refine v_imul dX10_write_96 ?_
  refine v_iload_n 1 dX10_write_97 rfl rfl ?_
  refine v_iadd dX10_write_98 ?_
  refine v_bipush dX10_write_99 (by decide : _ = (24 : Int32)) ?_
  refine v_imul dX10_write_101 ?_
  refine v_iload_n 2 dX10_write_102 rfl rfl ?_
  refine v_iadd dX10_write_103 ?_
  obtain ⟨g4, hh⟩ := chk_some hh
  replace g4 := inb_in g4
  refine st_ma dX10_write_104 g4 ?_
  replace hh := lt_of hh
  refine v_aload_n 0 dX10_write_105 rfl rfl ?_
  refine r_Model_a dX10_write_106 fl_X10_7 ?_
  refine v_sipush dX10_write_109 (by decide : _ = (2955 : Int32)) ?_
  refine v_iconst dX10_write_112 (by decide : _ = (2 : Int32)) ?_
  refine v_aload_n 0 dX10_write_113 rfl rfl ?_
  refine r_Model_a dX10_write_114 fl_X10_7 ?_
  refine v_bipush dX10_write_117 (by decide : _ = (10 : Int32)) ?_
  refine ld_ma dX10_write_119 (inb_in (by decide)) ?_
  refine v_imul dX10_write_120 ?_
  refine v_iadd dX10_write_121 ?_
  refine v_iconst dX10_write_122 (by decide : _ = (1 : Int32)) ?_
  refine v_iadd dX10_write_123 ?_
  refine v_iload_n 3 dX10_write_124 rfl rfl ?_
  obtain ⟨g7, hh⟩ := chk_some hh
  replace g7 := inb_in g7
  refine st_ma dX10_write_125 g7 ?_
  replace hh := lt_of hh
  refine v_aload_n 0 dX10_write_126 rfl rfl ?_
  refine r_Model_a dX10_write_127 fl_X10_7 ?_
  refine v_bipush dX10_write_130 (by decide : _ = (10 : Int32)) ?_
  refine v_dup2 dX10_write_132 rfl rfl ?_
  refine ld_ma dX10_write_133 (inb_in (by decide)) ?_
  refine v_iconst dX10_write_134 (by decide : _ = (1 : Int32)) ?_
  refine v_iadd dX10_write_135 ?_
  refine st_ma dX10_write_136 (inb_in (by decide)) ?_
  replace hh := lt_of hh
  obtain rfl := Option.some.inj hh
  exact v_vret dX10_write_137 rfl (Nat.zero_le _) (Nat.zero_le _) ⟨rfl, rfl⟩
def f_X10_write_b23 (N : Nat) : Nat → Int32 → Int32 → Int32 → Int32 → St → Option (St)
  | 0, _, _, _, _, _ => none
  | n + 1, x1, x2, x3, x4, S =>
  if (60 : Int32) ≤ x4 then
  (lt (sI S 1000 0 10 ((gI S 1000 0 10) - (1 : Int32))) fun S14 =>
  f_X10_write_b71 N x1 x2 x3 S14)
  else
  (chk (inb ((2955 : Int32) + x4) 3015) (
  chk (inb (((2955 : Int32) + x4) - (2 : Int32)) 3015) (
  lt (sI S 1000 0 ((((2955 : Int32) + x4) - (2 : Int32)).toNatClampNeg) (gI S 1000 0 ((2955 : Int32) + x4).toNatClampNeg)) fun S17 =>
  lt (x4 + (1 : Int32)) fun v18 =>
  f_X10_write_b23 N n x1 x2 x3 v18 S17)))
set_option maxRecDepth 100000 in
set_option maxHeartbeats 4000000 in
theorem tb_X10_write_23 {l : Launch} {G : v_G} {N : Nat}    {r : St}   : ∀ (n : Nat) (x1 : Int32) (x2 : Int32) (x3 : Int32) (x4 : Int32) (S : St),  f_X10_write_b23 N n x1 x2 x3 x4 S = some r → V l G yX10_write cX10_write 5 (none) (v_rm 0 0 0) (QV (lay G r)) 0 0 23 [(0, .ref (v_B G + 291)), (1, .int x1), (2, .int x2), (3, .int x3), (4, .int x4)] [] (lay G S) := by
  intro n
  induction n with
  | zero =>
    intro x1 x2 x3 x4 S  hh
    rw [f_X10_write_b23] at hh
    cases hh
  | succ n ih =>
    intro x1 x2 x3 x4 S  hh
    rw [f_X10_write_b23] at hh
    refine v_iload 4 dX10_write_23 rfl ?_
    refine v_bipush dX10_write_25 (by decide : _ = (60 : Int32)) ?_
    refine v_icmp_ge (tgt := 60) dX10_write_27 (by decide) (fun c => ?_) (fun c => ?_)
    · replace hh := (if_pos c).symm.trans hh
      refine v_aload_n 0 dX10_write_60 rfl rfl ?_
      refine r_Model_a dX10_write_61 fl_X10_7 ?_
      refine v_bipush dX10_write_64 (by decide : _ = (10 : Int32)) ?_
      refine v_dup2 dX10_write_66 rfl rfl ?_
      refine ld_ma dX10_write_67 (inb_in (by decide)) ?_
      refine v_iconst dX10_write_68 (by decide : _ = (1 : Int32)) ?_
      refine v_isub dX10_write_69 ?_
      refine st_ma dX10_write_70 (inb_in (by decide)) ?_
      replace hh := lt_of hh
      exact v_sub [0, 1, 2, 3] rfl (tb_X10_write_71 _ _ _ _ hh)
    · replace hh := (if_neg c).symm.trans hh
      refine v_aload_n 0 dX10_write_30 rfl rfl ?_
      refine r_Model_a dX10_write_31 fl_X10_7 ?_
      refine v_sipush dX10_write_34 (by decide : _ = (2955 : Int32)) ?_
      refine v_iload 4 dX10_write_37 rfl ?_
      refine v_iadd dX10_write_39 ?_
      refine v_iconst dX10_write_40 (by decide : _ = (2 : Int32)) ?_
      refine v_isub dX10_write_41 ?_
      refine v_aload_n 0 dX10_write_42 rfl rfl ?_
      refine r_Model_a dX10_write_43 fl_X10_7 ?_
      refine v_sipush dX10_write_46 (by decide : _ = (2955 : Int32)) ?_
      refine v_iload 4 dX10_write_49 rfl ?_
      refine v_iadd dX10_write_51 ?_
      obtain ⟨g15, hh⟩ := chk_some hh
      replace g15 := inb_in g15
      refine ld_ma dX10_write_52 g15 ?_
      obtain ⟨g16, hh⟩ := chk_some hh
      replace g16 := inb_in g16
      refine st_ma dX10_write_53 g16 ?_
      replace hh := lt_of hh
      refine v_iinc (v := _ + (1 : Int32)) 4 dX10_write_54 rfl rfl (by decide) rfl ?_
      replace hh := lt_of hh
      refine v_goto (tgt := 23) dX10_write_57 (by decide) ?_
      exact v_sub [1, 2, 3, 4, 0] rfl (ih _ _ _ _ _ hh)
def f_X10_write (N : Nat) (S : St) (x1 : Int32) (x2 : Int32) (x3 : Int32) : Option (St) :=
  if (gI S 1023 0 0) = (0 : Int32) then
  (some S)
  else
  (if (gI S 1000 0 10) = (30 : Int32) then
  (f_X10_write_b23 N N x1 x2 x3 (2 : Int32) S)
  else
  (f_X10_write_b71 N x1 x2 x3 S))
set_option maxRecDepth 100000 in
set_option maxHeartbeats 4000000 in
theorem t_X10_write {l : Launch} {G : v_G} {N : Nat} {S : St}   {x1 : Int32} {x2 : Int32} {x3 : Int32} {r : St} (hh : f_X10_write N S x1 x2 x3 = some r) : v_M l G yX10_write cX10_write 5 (none) 0 0 0 [.ref (v_B G + 291), .int x1, .int x2, .int x3] (lay G S) (QV (lay G r)) := by
  refine v_entry (by decide) (Nat.le_of_ble_eq_true rfl) ?_
  unfold f_X10_write at hh
  show V l G yX10_write cX10_write 5 (none) (v_rm 0 0 0) (QV (lay G r)) 0 0 0 [(0, .ref (v_B G + 291)), (1, .int x1), (2, .int x2), (3, .int x3)] [] (lay G S)
  refine v_aload_n 0 dX10_write_0 rfl rfl ?_
  refine r_Model_isWritten dX10_write_1 fl_X10_43 ?_
  refine v_if_ne (tgt := 8) dX10_write_4 (by decide) (fun c => ?_) (fun c => ?_)
  · replace hh := (if_neg c).symm.trans hh
    refine v_aload_n 0 dX10_write_8 rfl rfl ?_
    refine r_Model_a dX10_write_9 fl_X10_7 ?_
    refine v_bipush dX10_write_12 (by decide : _ = (10 : Int32)) ?_
    refine ld_ma dX10_write_14 (inb_in (by decide)) ?_
    refine v_bipush dX10_write_15 (by decide : _ = (30 : Int32)) ?_
    refine v_icmp_ne (tgt := 71) dX10_write_17 (by decide) (fun c => ?_) (fun c => ?_)
    · replace hh := (if_neg c).symm.trans hh
      exact v_sub [0, 1, 2, 3] rfl (tb_X10_write_71 _ _ _ _ hh)
    · replace hh := (if_pos c).symm.trans hh
      refine v_iconst dX10_write_20 (by decide : _ = (2 : Int32)) ?_
      refine v_istore dX10_write_21 (by decide) rfl ?_
      exact v_sub [1, 2, 3, 4, 0] rfl (tb_X10_write_23 N _ _ _ _ _ hh)
  · replace hh := (if_pos c).symm.trans hh
    obtain rfl := Option.some.inj hh
    exact v_vret dX10_write_7 rfl (Nat.zero_le _) (Nat.zero_le _) ⟨rfl, rfl⟩
def f_X10_drawnBy  (S : St) (x1 : Int32) : Option (Int32 × St) :=
  chk (nz x1) (
  lt ((gI S 1000 0 7) - (gI S 1000 0 7) / x1 * x1) fun v2 =>
  lt (sI S 1000 0 7 ((((((gI S 1000 0 7).toInt64) * (541 : Int64)) + (419 : Int64)) - ((((gI S 1000 0 7).toInt64) * (541 : Int64)) + (419 : Int64)) / (30713 : Int64) * (30713 : Int64)).toInt32)) fun S5 =>
  some (v2, S5))
set_option maxRecDepth 100000 in
set_option maxHeartbeats 4000000 in
theorem t_X10_drawnBy {l : Launch} {G : v_G} {S : St}   {x1 : Int32} {r : Int32 × St} (hh : f_X10_drawnBy  S x1 = some r) : v_M l G yX10_drawnBy cX10_drawnBy 3 (some .int) 0 0 0 [.ref (v_B G + 291), .int x1] (lay G S) (QI r.1 (lay G r.2)) := by
  refine v_entry (by decide) (Nat.le_of_ble_eq_true rfl) ?_
  unfold f_X10_drawnBy at hh
  show V l G yX10_drawnBy cX10_drawnBy 3 (some .int) (v_rm 0 0 0) (QI r.1 (lay G r.2)) 0 0 0 [(0, .ref (v_B G + 291)), (1, .int x1)] [] (lay G S)
  refine v_aload_n 0 dX10_drawnBy_0 rfl rfl ?_
  refine r_Model_a dX10_drawnBy_1 fl_X10_7 ?_
  refine v_bipush dX10_drawnBy_4 (by decide : _ = (7 : Int32)) ?_
  refine ld_ma dX10_drawnBy_6 (inb_in (by decide)) ?_
  refine v_iload_n 1 dX10_drawnBy_7 rfl rfl ?_
  obtain ⟨g, hh⟩ := chk_some hh
  refine v_irem dX10_drawnBy_8 (nz_ne g) ?_
  refine v_istore_n dX10_drawnBy_9 rfl (by decide) rfl ?_
  replace hh := lt_of hh
  refine v_aload_n 1 dX10_drawnBy_10 rfl rfl ?_
  refine r_Model_a dX10_drawnBy_11 fl_X10_7 ?_
  refine v_bipush dX10_drawnBy_14 (by decide : _ = (7 : Int32)) ?_
  refine v_aload_n 1 dX10_drawnBy_16 rfl rfl ?_
  refine r_Model_a dX10_drawnBy_17 fl_X10_7 ?_
  refine v_bipush dX10_drawnBy_20 (by decide : _ = (7 : Int32)) ?_
  refine ld_ma dX10_drawnBy_22 (inb_in (by decide)) ?_
  refine v_i2l dX10_drawnBy_23 ?_
  refine v_ldc2 dX10_drawnBy_24 col_X10_284 ?_
  refine v_lmul dX10_drawnBy_27 ?_
  refine v_ldc2 dX10_drawnBy_28 col_X10_286 ?_
  refine v_ladd dX10_drawnBy_31 ?_
  refine v_ldc2 dX10_drawnBy_32 col_X10_288 ?_
  refine v_lrem dX10_drawnBy_35 (by decide) ?_
  refine v_l2i dX10_drawnBy_36 ?_
  refine st_ma dX10_drawnBy_37 (inb_in (by decide)) ?_
  replace hh := lt_of hh
  refine v_iload_n 0 dX10_drawnBy_38 rfl rfl ?_
  obtain rfl := Option.some.inj hh
  exact v_iret dX10_drawnBy_39 rfl (Nat.zero_le _) (Nat.zero_le _) ⟨rfl, rfl⟩
def f_X10_strokeNow_b199 (N : Nat) (x4 : Int32) (s0 : Int32) (s1 : Int32) (s2 : Int32) (S : St) : Option (Int32 × St) :=
  bnd (f_X10_write N S s2 (s1 + s0) x4) fun q13 =>
 some (x4, q13)
set_option maxRecDepth 100000 in
set_option maxHeartbeats 4000000 in
theorem tb_X10_strokeNow_199 {l : Launch} {G : v_G} {N : Nat}    {r : Int32 × St}   : ∀ (x4 : Int32) (s0 : Int32) (s1 : Int32) (s2 : Int32) (S : St),  f_X10_strokeNow_b199 N x4 s0 s1 s2 S = some r → V l G yX10_strokeNow cX10_strokeNow 8 (some .int) (v_rm 6 0 0) (QI r.1 (lay G r.2)) 0 0 199 [(4, .int x4)] [.int s0, .int s1, .int s2, .ref (v_B G + 291)] (lay G S) := by
  intro x4 s0 s1 s2 S  hh
  unfold f_X10_strokeNow_b199 at hh
  refine v_iadd dX10_strokeNow_199 ?_
  refine v_iload 0 dX10_strokeNow_200 rfl ?_
  obtain ⟨q13, eq13, hh⟩ := bnd_some hh
  refine v_callVv (t_X10_write eq13) dX10_strokeNow_202 y_X10_write ml_X10_300 (ci := 9) rfl rfl (e_Model) rfl rfl (Nat.le_of_ble_eq_true rfl) ⟨(Nat.le_of_ble_eq_true rfl), (Nat.le_of_ble_eq_true rfl)⟩ ⟨Nat.zero_le _, Nat.zero_le _⟩ ?_
  refine v_iload 0 dX10_strokeNow_205 rfl ?_
  obtain rfl := Option.some.inj hh
  exact v_iret dX10_strokeNow_207 rfl (Nat.zero_le _) (Nat.zero_le _) ⟨rfl, rfl⟩
def f_X10_strokeNow_b185 (N : Nat) (x1 : Int32) (x2 : Int32) (x3 : Int32) (x4 : Int32) (S : St) : Option (Int32 × St) :=
  if x3 = (0 : Int32) then
  (f_X10_strokeNow_b199 N x4 (0 : Int32) ((2 : Int32) * x2) x1 S)
  else
  (f_X10_strokeNow_b199 N x4 (1 : Int32) ((2 : Int32) * x2) x1 S)
set_option maxRecDepth 100000 in
set_option maxHeartbeats 4000000 in
theorem tb_X10_strokeNow_185 {l : Launch} {G : v_G} {N : Nat}    {r : Int32 × St}   : ∀ (x1 : Int32) (x2 : Int32) (x3 : Int32) (x4 : Int32) (S : St),  f_X10_strokeNow_b185 N x1 x2 x3 x4 S = some r → V l G yX10_strokeNow cX10_strokeNow 8 (some .int) (v_rm 6 0 0) (QI r.1 (lay G r.2)) 0 0 185 [(0, .ref (v_B G + 291)), (1, .int x1), (2, .int x2), (3, .int x3), (4, .int x4)] [] (lay G S) := by
  intro x1 x2 x3 x4 S  hh
  unfold f_X10_strokeNow_b185 at hh
  refine v_aload_n 0 dX10_strokeNow_185 rfl rfl ?_
  refine v_iload_n 1 dX10_strokeNow_186 rfl rfl ?_
  refine v_iconst dX10_strokeNow_187 (by decide : _ = (2 : Int32)) ?_
  refine v_iload_n 2 dX10_strokeNow_188 rfl rfl ?_
  refine v_imul dX10_strokeNow_189 ?_
  refine v_iload_n 3 dX10_strokeNow_190 rfl rfl ?_
  refine v_if_eq (tgt := 198) dX10_strokeNow_191 (by decide) (fun c => ?_) (fun c => ?_)
  · replace hh := (if_pos c).symm.trans hh
    refine v_iconst dX10_strokeNow_198 (by decide : _ = (0 : Int32)) ?_
    exact v_sub [4] rfl (tb_X10_strokeNow_199 _ _ _ _ _ hh)
  · replace hh := (if_neg c).symm.trans hh
    refine v_iconst dX10_strokeNow_194 (by decide : _ = (1 : Int32)) ?_
    refine v_goto (tgt := 199) dX10_strokeNow_195 (by decide) ?_
    exact v_sub [4] rfl (tb_X10_strokeNow_199 _ _ _ _ _ hh)
def f_X10_strokeNow_b130 (N : Nat) (x1 : Int32) (x2 : Int32) (x3 : Int32) (x4 : Int32) (s0 : Int32) (S : St) : Option (Int32 × St) :=
  chk (inb s0 3015) (
  chk (inb s0 3015) (
  lt (sI S 1000 0 s0.toNatClampNeg ((gI S 1000 0 s0.toNatClampNeg) + x4)) fun S11 =>
  chk (inb ((23 : Int32) + x2) 3015) (
  if (gI S11 1000 0 ((23 : Int32) + x2).toNatClampNeg) = (0 : Int32) then
  (chk (inb ((11 : Int32) + x2) 3015) (
  bnd (f_X10_tearsOf N S11 x2) fun q15 =>
 if q15.1 ≤ (gI S11 1000 0 ((11 : Int32) + x2).toNatClampNeg) then
  (f_X10_strokeNow_b185 N x1 x2 x3 x4 q15.2)
  else
  (chk (inb ((23 : Int32) + x2) 3015) (
  lt (sI q15.2 1000 0 (((23 : Int32) + x2).toNatClampNeg) (1 : Int32)) fun S17 =>
  lt (sI S17 1024 0 0 ((gI S17 1024 0 0) + (1 : Int32))) fun S18 =>
  f_X10_strokeNow_b185 N x1 x2 x3 x4 S18))))
  else
  (f_X10_strokeNow_b185 N x1 x2 x3 x4 S11))))
set_option maxRecDepth 100000 in
set_option maxHeartbeats 4000000 in
theorem tb_X10_strokeNow_130 {l : Launch} {G : v_G} {N : Nat}    {r : Int32 × St}   : ∀ (x1 : Int32) (x2 : Int32) (x3 : Int32) (x4 : Int32) (s0 : Int32) (S : St),  f_X10_strokeNow_b130 N x1 x2 x3 x4 s0 S = some r → V l G yX10_strokeNow cX10_strokeNow 8 (some .int) (v_rm 6 0 0) (QI r.1 (lay G r.2)) 0 0 130 [(0, .ref (v_B G + 291)), (1, .int x1), (2, .int x2), (3, .int x3), (4, .int x4)] [.int s0, .ref (v_B G + 292)] (lay G S) := by
  intro x1 x2 x3 x4 s0 S  hh
  unfold f_X10_strokeNow_b130 at hh
  refine v_dup2 dX10_strokeNow_130 rfl rfl ?_
  obtain ⟨g9, hh⟩ := chk_some hh
  replace g9 := inb_in g9
  refine ld_ma dX10_strokeNow_131 g9 ?_
  refine v_iload 4 dX10_strokeNow_132 rfl ?_
  refine v_iadd dX10_strokeNow_134 ?_
  obtain ⟨g10, hh⟩ := chk_some hh
  replace g10 := inb_in g10
  refine st_ma dX10_strokeNow_135 g10 ?_
  replace hh := lt_of hh
  refine v_aload_n 0 dX10_strokeNow_136 rfl rfl ?_
  refine r_Model_a dX10_strokeNow_137 fl_X10_7 ?_
  refine v_bipush dX10_strokeNow_140 (by decide : _ = (23 : Int32)) ?_
  refine v_iload_n 2 dX10_strokeNow_142 rfl rfl ?_
  refine v_iadd dX10_strokeNow_143 ?_
  obtain ⟨g12, hh⟩ := chk_some hh
  replace g12 := inb_in g12
  refine ld_ma dX10_strokeNow_144 g12 ?_
  refine v_if_ne (tgt := 185) dX10_strokeNow_145 (by decide) (fun c => ?_) (fun c => ?_)
  · replace hh := (if_neg c).symm.trans hh
    exact v_sub [0, 1, 2, 3, 4] rfl (tb_X10_strokeNow_185 _ _ _ _ _ hh)
  · replace hh := (if_pos c).symm.trans hh
    refine v_aload_n 0 dX10_strokeNow_148 rfl rfl ?_
    refine r_Model_a dX10_strokeNow_149 fl_X10_7 ?_
    refine v_bipush dX10_strokeNow_152 (by decide : _ = (11 : Int32)) ?_
    refine v_iload_n 2 dX10_strokeNow_154 rfl rfl ?_
    refine v_iadd dX10_strokeNow_155 ?_
    obtain ⟨g14, hh⟩ := chk_some hh
    replace g14 := inb_in g14
    refine ld_ma dX10_strokeNow_156 g14 ?_
    refine v_aload_n 0 dX10_strokeNow_157 rfl rfl ?_
    refine v_iload_n 2 dX10_strokeNow_158 rfl rfl ?_
    obtain ⟨q15, eq15, hh⟩ := bnd_some hh
    refine v_callVi (t_X10_tearsOf eq15) dX10_strokeNow_159 y_X10_tearsOf ml_X10_294 (ci := 9) rfl rfl (e_Model) rfl rfl (Nat.le_of_ble_eq_true rfl) ⟨(Nat.le_of_ble_eq_true rfl), (Nat.le_of_ble_eq_true rfl)⟩ ⟨Nat.zero_le _, Nat.zero_le _⟩ ?_
    refine v_icmp_ge (tgt := 185) dX10_strokeNow_162 (by decide) (fun c => ?_) (fun c => ?_)
    · replace hh := (if_pos c).symm.trans hh
      exact v_sub [0, 1, 2, 3, 4] rfl (tb_X10_strokeNow_185 _ _ _ _ _ hh)
    · replace hh := (if_neg c).symm.trans hh
      refine v_aload_n 0 dX10_strokeNow_165 rfl rfl ?_
      refine r_Model_a dX10_strokeNow_166 fl_X10_7 ?_
      refine v_bipush dX10_strokeNow_169 (by decide : _ = (23 : Int32)) ?_
      refine v_iload_n 2 dX10_strokeNow_171 rfl rfl ?_
      refine v_iadd dX10_strokeNow_172 ?_
      refine v_iconst dX10_strokeNow_173 (by decide : _ = (1 : Int32)) ?_
      obtain ⟨g16, hh⟩ := chk_some hh
      replace g16 := inb_in g16
      refine st_ma dX10_strokeNow_174 g16 ?_
      replace hh := lt_of hh
      refine v_aload_n 0 dX10_strokeNow_175 rfl rfl ?_
      refine v_dup dX10_strokeNow_176 rfl ?_
      refine r_Model_torn dX10_strokeNow_177 fl_X10_297 ?_
      refine v_iconst dX10_strokeNow_180 (by decide : _ = (1 : Int32)) ?_
      refine v_iadd dX10_strokeNow_181 ?_
      refine w_Model_torn dX10_strokeNow_182 fl_X10_297 ?_
      replace hh := lt_of hh
      exact v_sub [0, 1, 2, 3, 4] rfl (tb_X10_strokeNow_185 _ _ _ _ _ hh)
def f_X10_strokeNow_b96 (N : Nat) (x1 : Int32) (x2 : Int32) (x3 : Int32) (x4 : Int32) (x5 : Int32) (S : St) : Option (Int32 × St) :=
  chk (inb ((11 : Int32) + x2) 3015) (
  chk (inb ((11 : Int32) + x2) 3015) (
  lt (sI S 1000 0 (((11 : Int32) + x2).toNatClampNeg) ((gI S 1000 0 ((11 : Int32) + x2).toNatClampNeg) - x4)) fun S8 =>
  if x5 = (-1 : Int32) then
  (f_X10_strokeNow_b130 N x1 x2 x3 x4 (9 : Int32) S8)
  else
  (f_X10_strokeNow_b130 N x1 x2 x3 x4 ((11 : Int32) + x5) S8)))
set_option maxRecDepth 100000 in
set_option maxHeartbeats 4000000 in
theorem tb_X10_strokeNow_96 {l : Launch} {G : v_G} {N : Nat}    {r : Int32 × St}   : ∀ (x1 : Int32) (x2 : Int32) (x3 : Int32) (x4 : Int32) (x5 : Int32) (S : St),  f_X10_strokeNow_b96 N x1 x2 x3 x4 x5 S = some r → V l G yX10_strokeNow cX10_strokeNow 8 (some .int) (v_rm 6 0 0) (QI r.1 (lay G r.2)) 0 0 96 [(0, .ref (v_B G + 291)), (1, .int x1), (2, .int x2), (3, .int x3), (4, .int x4), (5, .int x5)] [] (lay G S) := by
  intro x1 x2 x3 x4 x5 S  hh
  unfold f_X10_strokeNow_b96 at hh
  refine v_aload_n 0 dX10_strokeNow_96 rfl rfl ?_
  refine r_Model_a dX10_strokeNow_97 fl_X10_7 ?_
  refine v_bipush dX10_strokeNow_100 (by decide : _ = (11 : Int32)) ?_
  refine v_iload_n 2 dX10_strokeNow_102 rfl rfl ?_
  refine v_iadd dX10_strokeNow_103 ?_
  refine v_dup2 dX10_strokeNow_104 rfl rfl ?_
  obtain ⟨g6, hh⟩ := chk_some hh
  replace g6 := inb_in g6
  refine ld_ma dX10_strokeNow_105 g6 ?_
  refine v_iload 4 dX10_strokeNow_106 rfl ?_
  refine v_isub dX10_strokeNow_108 ?_
  obtain ⟨g7, hh⟩ := chk_some hh
  replace g7 := inb_in g7
  refine st_ma dX10_strokeNow_109 g7 ?_
  replace hh := lt_of hh
  refine v_aload_n 0 dX10_strokeNow_110 rfl rfl ?_
  refine r_Model_a dX10_strokeNow_111 fl_X10_7 ?_
  refine v_iload 5 dX10_strokeNow_114 rfl ?_
  refine v_iconst dX10_strokeNow_116 (by decide : _ = (-1 : Int32)) ?_
  refine v_icmp_ne (tgt := 125) dX10_strokeNow_117 (by decide) (fun c => ?_) (fun c => ?_)
  · replace hh := (if_neg c).symm.trans hh
    refine v_bipush dX10_strokeNow_125 (by decide : _ = (11 : Int32)) ?_
    refine v_iload 5 dX10_strokeNow_127 rfl ?_
    refine v_iadd dX10_strokeNow_129 ?_
    exact v_sub [0, 1, 2, 3, 4] rfl (tb_X10_strokeNow_130 _ _ _ _ _ _ hh)
  · replace hh := (if_pos c).symm.trans hh
    refine v_bipush dX10_strokeNow_120 (by decide : _ = (9 : Int32)) ?_
    refine v_goto (tgt := 130) dX10_strokeNow_122 (by decide) ?_
    exact v_sub [0, 1, 2, 3, 4] rfl (tb_X10_strokeNow_130 _ _ _ _ _ _ hh)
def f_X10_strokeNow_b48 (N : Nat) : Nat → Int32 → Int32 → Int32 → Int32 → Int32 → Int32 → Int32 → St → Option (Int32 × St)
  | 0, _, _, _, _, _, _, _, _ => none
  | n + 1, x1, x2, x3, x4, x5, x6, x7, S =>
  if (gI S 1000 0 1) ≤ x7 then
  (f_X10_strokeNow_b96 N x1 x2 x3 x4 x5 S)
  else
  (if x6 = (0 : Int32) then
  (f_X10_strokeNow_b96 N x1 x2 x3 x4 x5 S)
  else
  (chk (inb ((35 : Int32) + x7) 3015) (
  if (gI S 1000 0 ((35 : Int32) + x7).toNatClampNeg) = x2 then
  (chk (inb ((35 : Int32) + x7) 3015) (
  lt (sI S 1000 0 (((35 : Int32) + x7).toNatClampNeg) x5) fun S22 =>
  lt (x7 + (1 : Int32)) fun v23 =>
  f_X10_strokeNow_b48 N n x1 x2 x3 x4 x5 x6 v23 S22))
  else
  (lt (x7 + (1 : Int32)) fun v20 =>
  f_X10_strokeNow_b48 N n x1 x2 x3 x4 x5 x6 v20 S))))
set_option maxRecDepth 100000 in
set_option maxHeartbeats 4000000 in
theorem tb_X10_strokeNow_48 {l : Launch} {G : v_G} {N : Nat}    {r : Int32 × St}   : ∀ (n : Nat) (x1 : Int32) (x2 : Int32) (x3 : Int32) (x4 : Int32) (x5 : Int32) (x6 : Int32) (x7 : Int32) (S : St),  f_X10_strokeNow_b48 N n x1 x2 x3 x4 x5 x6 x7 S = some r → V l G yX10_strokeNow cX10_strokeNow 8 (some .int) (v_rm 6 0 0) (QI r.1 (lay G r.2)) 0 0 48 [(0, .ref (v_B G + 291)), (1, .int x1), (2, .int x2), (3, .int x3), (4, .int x4), (5, .int x5), (6, .int x6), (7, .int x7)] [] (lay G S) := by
  intro n
  induction n with
  | zero =>
    intro x1 x2 x3 x4 x5 x6 x7 S  hh
    rw [f_X10_strokeNow_b48] at hh
    cases hh
  | succ n ih =>
    intro x1 x2 x3 x4 x5 x6 x7 S  hh
    rw [f_X10_strokeNow_b48] at hh
    refine v_iload 7 dX10_strokeNow_48 rfl ?_
    refine v_aload_n 0 dX10_strokeNow_50 rfl rfl ?_
    refine r_Model_a dX10_strokeNow_51 fl_X10_7 ?_
    refine v_iconst dX10_strokeNow_54 (by decide : _ = (1 : Int32)) ?_
    refine ld_ma dX10_strokeNow_55 (inb_in (by decide)) ?_
    refine v_icmp_ge (tgt := 96) dX10_strokeNow_56 (by decide) (fun c => ?_) (fun c => ?_)
    · replace hh := (if_pos c).symm.trans hh
      exact v_sub [0, 1, 2, 3, 4, 5] rfl (tb_X10_strokeNow_96 _ _ _ _ _ _ hh)
    · replace hh := (if_neg c).symm.trans hh
      refine v_iload 6 dX10_strokeNow_59 rfl ?_
      refine v_if_eq (tgt := 96) dX10_strokeNow_61 (by decide) (fun c => ?_) (fun c => ?_)
      · replace hh := (if_pos c).symm.trans hh
        exact v_sub [0, 1, 2, 3, 4, 5] rfl (tb_X10_strokeNow_96 _ _ _ _ _ _ hh)
      · replace hh := (if_neg c).symm.trans hh
        refine v_aload_n 0 dX10_strokeNow_64 rfl rfl ?_
        refine r_Model_a dX10_strokeNow_65 fl_X10_7 ?_
        refine v_bipush dX10_strokeNow_68 (by decide : _ = (35 : Int32)) ?_
        refine v_iload 7 dX10_strokeNow_70 rfl ?_
        refine v_iadd dX10_strokeNow_72 ?_
        obtain ⟨g19, hh⟩ := chk_some hh
        replace g19 := inb_in g19
        refine ld_ma dX10_strokeNow_73 g19 ?_
        refine v_iload_n 2 dX10_strokeNow_74 rfl rfl ?_
        refine v_icmp_ne (tgt := 90) dX10_strokeNow_75 (by decide) (fun c => ?_) (fun c => ?_)
        · replace hh := (if_neg c).symm.trans hh
          refine v_iinc (v := _ + (1 : Int32)) 7 dX10_strokeNow_90 rfl rfl (by decide) rfl ?_
          replace hh := lt_of hh
          refine v_goto (tgt := 48) dX10_strokeNow_93 (by decide) ?_
          exact v_sub [1, 2, 3, 4, 5, 6, 7, 0] rfl (ih _ _ _ _ _ _ _ _ hh)
        · replace hh := (if_pos c).symm.trans hh
          refine v_aload_n 0 dX10_strokeNow_78 rfl rfl ?_
          refine r_Model_a dX10_strokeNow_79 fl_X10_7 ?_
          refine v_bipush dX10_strokeNow_82 (by decide : _ = (35 : Int32)) ?_
          refine v_iload 7 dX10_strokeNow_84 rfl ?_
          refine v_iadd dX10_strokeNow_86 ?_
          refine v_iload 5 dX10_strokeNow_87 rfl ?_
          obtain ⟨g21, hh⟩ := chk_some hh
          replace g21 := inb_in g21
          refine st_ma dX10_strokeNow_89 g21 ?_
          replace hh := lt_of hh
          refine v_iinc (v := _ + (1 : Int32)) 7 dX10_strokeNow_90 rfl rfl (by decide) rfl ?_
          replace hh := lt_of hh
          refine v_goto (tgt := 48) dX10_strokeNow_93 (by decide) ?_
          exact v_sub [1, 2, 3, 4, 5, 6, 7, 0] rfl (ih _ _ _ _ _ _ _ _ hh)
def f_X10_strokeNow (N : Nat) (S : St) (x1 : Int32) (x2 : Int32) (x3 : Int32) : Option (Int32 × St) :=
  bnd (f_X10_movesOf N S (gI S 1000 0 3) x1 x2 x3) fun q2 =>
 bnd (f_X10_besideOf q2.2 x2 x3) fun q3 =>
 chk (inb ((11 : Int32) + x2) 3015) (
  if ((2 : Int32) * q2.1) ≤ (gI q2.2 1000 0 ((11 : Int32) + x2).toNatClampNeg) then
  (f_X10_strokeNow_b48 N N x1 x2 x3 q2.1 q3 (0 : Int32) (0 : Int32) q2.2)
  else
  (f_X10_strokeNow_b48 N N x1 x2 x3 q2.1 q3 (1 : Int32) (0 : Int32) q2.2))
set_option maxRecDepth 100000 in
set_option maxHeartbeats 4000000 in
theorem t_X10_strokeNow {l : Launch} {G : v_G} {N : Nat} {S : St}   {x1 : Int32} {x2 : Int32} {x3 : Int32} {r : Int32 × St} (hh : f_X10_strokeNow N S x1 x2 x3 = some r) : v_M l G yX10_strokeNow cX10_strokeNow 8 (some .int) 6 0 0 [.ref (v_B G + 291), .int x1, .int x2, .int x3] (lay G S) (QI r.1 (lay G r.2)) := by
  refine v_entry (by decide) (Nat.le_of_ble_eq_true rfl) ?_
  unfold f_X10_strokeNow at hh
  show V l G yX10_strokeNow cX10_strokeNow 8 (some .int) (v_rm 6 0 0) (QI r.1 (lay G r.2)) 0 0 0 [(0, .ref (v_B G + 291)), (1, .int x1), (2, .int x2), (3, .int x3)] [] (lay G S)
  refine v_aload_n 0 dX10_strokeNow_0 rfl rfl ?_
  refine v_aload_n 0 dX10_strokeNow_1 rfl rfl ?_
  refine r_Model_a dX10_strokeNow_2 fl_X10_7 ?_
  refine v_iconst dX10_strokeNow_5 (by decide : _ = (3 : Int32)) ?_
  refine ld_ma dX10_strokeNow_6 (inb_in (by decide)) ?_
  refine v_iload_n 1 dX10_strokeNow_7 rfl rfl ?_
  refine v_iload_n 2 dX10_strokeNow_8 rfl rfl ?_
  refine v_iload_n 3 dX10_strokeNow_9 rfl rfl ?_
  obtain ⟨q2, eq2, hh⟩ := bnd_some hh
  refine v_callVi (t_X10_movesOf eq2) dX10_strokeNow_10 y_X10_movesOf ml_X10_290 (ci := 9) rfl rfl (e_Model) rfl rfl (Nat.le_of_ble_eq_true rfl) ⟨(Nat.le_of_ble_eq_true rfl), (Nat.le_of_ble_eq_true rfl)⟩ ⟨Nat.zero_le _, Nat.zero_le _⟩ ?_
  refine v_istore dX10_strokeNow_13 (by decide) rfl ?_
  refine v_iload_n 3 dX10_strokeNow_15 rfl rfl ?_
  refine v_iload_n 4 dX10_strokeNow_16 rfl rfl ?_
  obtain ⟨q3, eq3, hh⟩ := bnd_some hh
  refine v_callSi (t_X10_besideOf eq3) dX10_strokeNow_17 y_X10_besideOf ml_X10_273 rfl rfl (Nat.le_of_ble_eq_true rfl) ⟨(Nat.le_of_ble_eq_true rfl), (Nat.le_of_ble_eq_true rfl)⟩ ⟨Nat.zero_le _, Nat.zero_le _⟩ ?_
  refine v_istore dX10_strokeNow_20 (by decide) rfl ?_
  refine v_iconst dX10_strokeNow_22 (by decide : _ = (2 : Int32)) ?_
  refine v_iload 1 dX10_strokeNow_23 rfl ?_
  refine v_imul dX10_strokeNow_25 ?_
  refine v_aload_n 2 dX10_strokeNow_26 rfl rfl ?_
  refine r_Model_a dX10_strokeNow_27 fl_X10_7 ?_
  refine v_bipush dX10_strokeNow_30 (by decide : _ = (11 : Int32)) ?_
  refine v_iload_n 4 dX10_strokeNow_32 rfl rfl ?_
  refine v_iadd dX10_strokeNow_33 ?_
  obtain ⟨g4, hh⟩ := chk_some hh
  replace g4 := inb_in g4
  refine ld_ma dX10_strokeNow_34 g4 ?_
  refine v_icmp_le (tgt := 42) dX10_strokeNow_35 (by decide) (fun c => ?_) (fun c => ?_)
  · replace hh := (if_pos c).symm.trans hh
    refine v_iconst dX10_strokeNow_42 (by decide : _ = (0 : Int32)) ?_
    refine v_istore dX10_strokeNow_43 (by decide) rfl ?_
    refine v_iconst dX10_strokeNow_45 (by decide : _ = (0 : Int32)) ?_
    refine v_istore dX10_strokeNow_46 (by decide) rfl ?_
    exact v_sub [4, 5, 6, 7, 3, 2, 1, 0] rfl (tb_X10_strokeNow_48 N _ _ _ _ _ _ _ _ hh)
  · replace hh := (if_neg c).symm.trans hh
    refine v_iconst dX10_strokeNow_38 (by decide : _ = (1 : Int32)) ?_
    refine v_goto (tgt := 43) dX10_strokeNow_39 (by decide) ?_
    refine v_istore dX10_strokeNow_43 (by decide) rfl ?_
    refine v_iconst dX10_strokeNow_45 (by decide : _ = (0 : Int32)) ?_
    refine v_istore dX10_strokeNow_46 (by decide) rfl ?_
    exact v_sub [4, 5, 6, 7, 3, 2, 1, 0] rfl (tb_X10_strokeNow_48 N _ _ _ _ _ _ _ _ hh)
