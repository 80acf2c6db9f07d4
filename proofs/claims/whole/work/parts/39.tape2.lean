def f_X5_wordOf_b8 (N : Nat) : Nat → Int32 → Int32 → Int32 → Int32 → Int32 → St → Option (Int32)
  | 0, _, _, _, _, _, _ => none
  | n + 1, x1, x2, x3, x4, x5, S =>
  if (130 : Int32) ≤ x5 then
  (some (41 : Int32))
  else
  (chk (inb x5 130) (
  lt (wch x5) fun v2 =>
  if v2 = (32 : Int32) then
  (if x4 = x2 then
  (some x3)
  else
  (lt (x3 + (1 : Int32)) fun v3 =>
  lt (x5 + (1 : Int32)) fun v4 =>
  f_X5_wordOf_b8 N n x1 x2 v3 x1 v4 S))
  else
  (if x4 < (0 : Int32) then
  (lt (x5 + (1 : Int32)) fun v5 =>
  f_X5_wordOf_b8 N n x1 x2 x3 (-1 : Int32) v5 S)
  else
  (if x2 ≤ x4 then
  (lt (x5 + (1 : Int32)) fun v6 =>
  f_X5_wordOf_b8 N n x1 x2 x3 (-1 : Int32) v6 S)
  else
  (chk (inb x4 300) (
  if (gI S 500 0 x4.toNatClampNeg) = v2 then
  (lt (x4 + (1 : Int32)) fun v9 =>
  lt (x5 + (1 : Int32)) fun v10 =>
  f_X5_wordOf_b8 N n x1 x2 x3 v9 v10 S)
  else
  (lt (x5 + (1 : Int32)) fun v8 =>
  f_X5_wordOf_b8 N n x1 x2 x3 (-1 : Int32) v8 S)))))))
set_option maxRecDepth 100000 in
set_option maxHeartbeats 4000000 in
theorem tb_X5_wordOf_8 {l : Launch} {G : v_G} {N : Nat}    {r : Int32} {S0 : St}   : ∀ (n : Nat) (x1 : Int32) (x2 : Int32) (x3 : Int32) (x4 : Int32) (x5 : Int32) (S : St),  S = S0 → f_X5_wordOf_b8 N n x1 x2 x3 x4 x5 S = some r → V l G yX5_wordOf cX5_wordOf 7 (some .int) (v_rm 4 0 0) (QI r (lay G S0)) 0 0 8 [(0, .ref (v_B G + 283)), (1, .int x1), (2, .int x2), (3, .int x3), (4, .int x4), (5, .int x5)] [] (lay G S) := by
  intro n
  induction n with
  | zero =>
    intro x1 x2 x3 x4 x5 S  hS0 hh
    rw [f_X5_wordOf_b8] at hh
    cases hh
  | succ n ih =>
    intro x1 x2 x3 x4 x5 S  hS0 hh
    rw [f_X5_wordOf_b8] at hh
    refine v_iload 5 dX5_wordOf_8 rfl ?_
    refine v_ldcS dX5_wordOf_10 rfl ?_
    refine v_callStri t_J0_length dX5_wordOf_12 y_J0_length_8abf5 ml_X5_68 rfl rfl rfl (Nat.le_of_ble_eq_true rfl) ⟨(Nat.le_of_ble_eq_true rfl), (Nat.le_of_ble_eq_true rfl)⟩ ⟨Nat.zero_le _, Nat.zero_le _⟩ ?_
    refine v_icmp_ge (tgt := 90) dX5_wordOf_15 (by decide) (fun c => ?_) (fun c => ?_)
    · replace hh := (if_pos c).symm.trans hh
      refine v_bipush dX5_wordOf_90 (by decide : _ = (41 : Int32)) ?_
      obtain rfl := Option.some.inj hh
      exact v_iret dX5_wordOf_92 rfl (Nat.zero_le _) (Nat.zero_le _) ⟨rfl, by rw [hS0]⟩
    · replace hh := (if_neg c).symm.trans hh
      refine v_ldcS dX5_wordOf_18 rfl ?_
      refine v_iload 5 dX5_wordOf_20 rfl ?_
      obtain ⟨g1, hh⟩ := chk_some hh
      replace g1 := inb_in g1
      refine v_callStri (t_J0_charAt g1) dX5_wordOf_22 y_J0_charAt_5068e ml_X5_73 rfl rfl rfl (Nat.le_of_ble_eq_true rfl) ⟨(Nat.le_of_ble_eq_true rfl), (Nat.le_of_ble_eq_true rfl)⟩ ⟨Nat.zero_le _, Nat.zero_le _⟩ ?_
      refine v_istore dX5_wordOf_25 (by decide) rfl ?_
      replace hh := lt_of hh
      refine v_iload 0 dX5_wordOf_27 rfl ?_
      refine v_bipush dX5_wordOf_29 (by decide : _ = (32 : Int32)) ?_
      refine v_icmp_eq (tgt := 70) dX5_wordOf_31 (by decide) (fun c => ?_) (fun c => ?_)
      · replace hh := (if_pos c).symm.trans hh
        refine v_iload 5 dX5_wordOf_70 rfl ?_
        refine v_iload_n 3 dX5_wordOf_72 rfl rfl ?_
        refine v_icmp_ne (tgt := 78) dX5_wordOf_73 (by decide) (fun c => ?_) (fun c => ?_)
        · replace hh := (if_neg c).symm.trans hh
          refine v_iinc (v := _ + (1 : Int32)) 4 dX5_wordOf_78 rfl rfl (by decide) rfl ?_
          replace hh := lt_of hh
          refine v_iload_n 3 dX5_wordOf_81 rfl rfl ?_
          refine v_istore dX5_wordOf_82 (by decide) rfl ?_
          refine v_iinc (v := _ + (1 : Int32)) 6 dX5_wordOf_84 rfl rfl (by decide) rfl ?_
          replace hh := lt_of hh
          refine v_goto (tgt := 8) dX5_wordOf_87 (by decide) ?_
          exact v_sub [4, 5, 6, 2, 1, 0] rfl (ih _ _ _ _ _ _ hS0 hh)
        · replace hh := (if_pos c).symm.trans hh
          refine v_iload_n 4 dX5_wordOf_76 rfl rfl ?_
          obtain rfl := Option.some.inj hh
          exact v_iret dX5_wordOf_77 rfl (Nat.zero_le _) (Nat.zero_le _) ⟨rfl, by rw [hS0]⟩
      · replace hh := (if_neg c).symm.trans hh
        refine v_iload 5 dX5_wordOf_34 rfl ?_
        refine v_if_lt (tgt := 64) dX5_wordOf_36 (by decide) (fun c => ?_) (fun c => ?_)
        · replace hh := (if_pos c).symm.trans hh
          refine v_iconst dX5_wordOf_64 (by decide : _ = (-1 : Int32)) ?_
          refine v_istore dX5_wordOf_65 (by decide) rfl ?_
          refine v_goto (tgt := 84) dX5_wordOf_67 (by decide) ?_
          refine v_iinc (v := _ + (1 : Int32)) 6 dX5_wordOf_84 rfl rfl (by decide) rfl ?_
          replace hh := lt_of hh
          refine v_goto (tgt := 8) dX5_wordOf_87 (by decide) ?_
          exact v_sub [3, 4, 5, 6, 1, 0] rfl (ih _ _ _ _ _ _ hS0 hh)
        · replace hh := (if_neg c).symm.trans hh
          refine v_iload 5 dX5_wordOf_39 rfl ?_
          refine v_iload_n 3 dX5_wordOf_41 rfl rfl ?_
          refine v_icmp_ge (tgt := 64) dX5_wordOf_42 (by decide) (fun c => ?_) (fun c => ?_)
          · replace hh := (if_pos c).symm.trans hh
            refine v_iconst dX5_wordOf_64 (by decide : _ = (-1 : Int32)) ?_
            refine v_istore dX5_wordOf_65 (by decide) rfl ?_
            refine v_goto (tgt := 84) dX5_wordOf_67 (by decide) ?_
            refine v_iinc (v := _ + (1 : Int32)) 6 dX5_wordOf_84 rfl rfl (by decide) rfl ?_
            replace hh := lt_of hh
            refine v_goto (tgt := 8) dX5_wordOf_87 (by decide) ?_
            exact v_sub [3, 4, 5, 6, 1, 0] rfl (ih _ _ _ _ _ _ hS0 hh)
          · replace hh := (if_neg c).symm.trans hh
            refine v_aload_n 1 dX5_wordOf_45 rfl rfl ?_
            refine r_Tape_bytes dX5_wordOf_46 fl_X5_9 ?_
            refine v_iload 5 dX5_wordOf_49 rfl ?_
            obtain ⟨g7, hh⟩ := chk_some hh
            replace g7 := inb_in g7
            refine ld_bytes dX5_wordOf_51 g7 ?_
            refine v_iload 0 dX5_wordOf_52 rfl ?_
            refine v_icmp_ne (tgt := 64) dX5_wordOf_54 (by decide) (fun c => ?_) (fun c => ?_)
            · replace hh := (if_neg c).symm.trans hh
              refine v_iconst dX5_wordOf_64 (by decide : _ = (-1 : Int32)) ?_
              refine v_istore dX5_wordOf_65 (by decide) rfl ?_
              refine v_goto (tgt := 84) dX5_wordOf_67 (by decide) ?_
              refine v_iinc (v := _ + (1 : Int32)) 6 dX5_wordOf_84 rfl rfl (by decide) rfl ?_
              replace hh := lt_of hh
              refine v_goto (tgt := 8) dX5_wordOf_87 (by decide) ?_
              exact v_sub [3, 4, 5, 6, 1, 0] rfl (ih _ _ _ _ _ _ hS0 hh)
            · replace hh := (if_pos c).symm.trans hh
              refine v_iload 5 dX5_wordOf_57 rfl ?_
              refine v_iconst dX5_wordOf_59 (by decide : _ = (1 : Int32)) ?_
              refine v_iadd dX5_wordOf_60 ?_
              refine v_goto (tgt := 65) dX5_wordOf_61 (by decide) ?_
              refine v_istore dX5_wordOf_65 (by decide) rfl ?_
              replace hh := lt_of hh
              refine v_goto (tgt := 84) dX5_wordOf_67 (by decide) ?_
              refine v_iinc (v := _ + (1 : Int32)) 6 dX5_wordOf_84 rfl rfl (by decide) rfl ?_
              replace hh := lt_of hh
              refine v_goto (tgt := 8) dX5_wordOf_87 (by decide) ?_
              exact v_sub [3, 4, 5, 6, 1, 0] rfl (ih _ _ _ _ _ _ hS0 hh)
def f_X5_wordOf (N : Nat) (S : St) (x1 : Int32) (x2 : Int32) : Option (Int32) :=
  f_X5_wordOf_b8 N N x1 x2 (0 : Int32) x1 (0 : Int32) S
set_option maxRecDepth 100000 in
set_option maxHeartbeats 4000000 in
theorem t_X5_wordOf {l : Launch} {G : v_G} {N : Nat} {S : St}   {x1 : Int32} {x2 : Int32} {r : Int32} (hh : f_X5_wordOf N S x1 x2 = some r) : v_M l G yX5_wordOf cX5_wordOf 7 (some .int) 4 0 0 [.ref (v_B G + 283), .int x1, .int x2] (lay G S) (QI r (lay G S)) := by
  refine v_entry (by decide) (Nat.le_of_ble_eq_true rfl) ?_
  unfold f_X5_wordOf at hh
  show V l G yX5_wordOf cX5_wordOf 7 (some .int) (v_rm 4 0 0) (QI r (lay G S)) 0 0 0 [(0, .ref (v_B G + 283)), (1, .int x1), (2, .int x2)] [] (lay G S)
  refine v_iconst dX5_wordOf_0 (by decide : _ = (0 : Int32)) ?_
  refine v_istore_n dX5_wordOf_1 rfl (by decide) rfl ?_
  refine v_iload_n 2 dX5_wordOf_2 rfl rfl ?_
  refine v_istore dX5_wordOf_3 (by decide) rfl ?_
  refine v_iconst dX5_wordOf_5 (by decide : _ = (0 : Int32)) ?_
  refine v_istore dX5_wordOf_6 (by decide) rfl ?_
  exact v_sub [3, 4, 5, 2, 1, 0] rfl (tb_X5_wordOf_8 N _ _ _ _ _ _ rfl hh)
def f_X5_takeWord_b28 (N : Nat) (x1 : Int32) (x2 : Int32) (S : St) : Option (Int32 × St) :=
  bnd (f_X5_wordOf N S x1 x2) fun q1 =>
 bnd (f_X5_add S q1 x1 (0 : Int32)) fun q2 =>
 some (x2, q2)
set_option maxRecDepth 100000 in
set_option maxHeartbeats 4000000 in
theorem tb_X5_takeWord_28 {l : Launch} {G : v_G} {N : Nat}    {r : Int32 × St}   : ∀ (x1 : Int32) (x2 : Int32) (S : St),  f_X5_takeWord_b28 N x1 x2 S = some r → V l G yX5_takeWord cX5_takeWord 3 (some .int) (v_rm 5 0 0) (QI r.1 (lay G r.2)) 0 0 28 [(0, .ref (v_B G + 283)), (1, .int x1), (2, .int x2)] [] (lay G S) := by
  intro x1 x2 S  hh
  unfold f_X5_takeWord_b28 at hh
  refine v_aload_n 0 dX5_takeWord_28 rfl rfl ?_
  refine v_aload_n 0 dX5_takeWord_29 rfl rfl ?_
  refine v_iload_n 1 dX5_takeWord_30 rfl rfl ?_
  refine v_iload_n 2 dX5_takeWord_31 rfl rfl ?_
  obtain ⟨q1, eq1, hh⟩ := bnd_some hh
  refine v_callVi (t_X5_wordOf eq1) dX5_takeWord_32 y_X5_wordOf ml_X5_63 (ci := 4) rfl rfl (e_Tape) rfl rfl (Nat.le_of_ble_eq_true rfl) ⟨(Nat.le_of_ble_eq_true rfl), (Nat.le_of_ble_eq_true rfl)⟩ ⟨Nat.zero_le _, Nat.zero_le _⟩ ?_
  refine v_iload_n 1 dX5_takeWord_35 rfl rfl ?_
  refine v_iconst dX5_takeWord_36 (by decide : _ = (0 : Int32)) ?_
  obtain ⟨q2, eq2, hh⟩ := bnd_some hh
  refine v_callVv (t_X5_add eq2) dX5_takeWord_37 y_X5_add ml_X5_43 (ci := 4) rfl rfl (e_Tape) rfl rfl (Nat.le_of_ble_eq_true rfl) ⟨(Nat.le_of_ble_eq_true rfl), (Nat.le_of_ble_eq_true rfl)⟩ ⟨Nat.zero_le _, Nat.zero_le _⟩ ?_
  refine v_iload_n 2 dX5_takeWord_40 rfl rfl ?_
  obtain rfl := Option.some.inj hh
  exact v_iret dX5_takeWord_41 rfl (Nat.zero_le _) (Nat.zero_le _) ⟨rfl, rfl⟩
def f_X5_takeWord_b2 (N : Nat) : Nat → Int32 → Int32 → St → Option (Int32 × St)
  | 0, _, _, _ => none
  | n + 1, x1, x2, S =>
  if (gI S 501 0 0) ≤ x2 then
  (f_X5_takeWord_b28 N x1 x2 S)
  else
  (chk (inb x2 300) (
  bnd (f_X5_isLetter S (gI S 500 0 x2.toNatClampNeg)) fun q4 =>
 if q4 = (0 : Int32) then
  (f_X5_takeWord_b28 N x1 x2 S)
  else
  (lt (x2 + (1 : Int32)) fun v5 =>
  f_X5_takeWord_b2 N n x1 v5 S)))
set_option maxRecDepth 100000 in
set_option maxHeartbeats 4000000 in
theorem tb_X5_takeWord_2 {l : Launch} {G : v_G} {N : Nat}    {r : Int32 × St}   : ∀ (n : Nat) (x1 : Int32) (x2 : Int32) (S : St),  f_X5_takeWord_b2 N n x1 x2 S = some r → V l G yX5_takeWord cX5_takeWord 3 (some .int) (v_rm 5 0 0) (QI r.1 (lay G r.2)) 0 0 2 [(0, .ref (v_B G + 283)), (1, .int x1), (2, .int x2)] [] (lay G S) := by
  intro n
  induction n with
  | zero =>
    intro x1 x2 S  hh
    rw [f_X5_takeWord_b2] at hh
    cases hh
  | succ n ih =>
    intro x1 x2 S  hh
    rw [f_X5_takeWord_b2] at hh
    refine v_iload_n 2 dX5_takeWord_2 rfl rfl ?_
    refine v_aload_n 0 dX5_takeWord_3 rfl rfl ?_
    refine r_Tape_length dX5_takeWord_4 fl_X5_24 ?_
    refine v_icmp_ge (tgt := 28) dX5_takeWord_7 (by decide) (fun c => ?_) (fun c => ?_)
    · replace hh := (if_pos c).symm.trans hh
      exact v_sub [0, 1, 2] rfl (tb_X5_takeWord_28 _ _ _ hh)
    · replace hh := (if_neg c).symm.trans hh
      refine v_aload_n 0 dX5_takeWord_10 rfl rfl ?_
      refine r_Tape_bytes dX5_takeWord_11 fl_X5_9 ?_
      refine v_iload_n 2 dX5_takeWord_14 rfl rfl ?_
      obtain ⟨g3, hh⟩ := chk_some hh
      replace g3 := inb_in g3
      refine ld_bytes dX5_takeWord_15 g3 ?_
      obtain ⟨q4, eq4, hh⟩ := bnd_some hh
      refine v_callSi (t_X5_isLetter eq4) dX5_takeWord_16 y_X5_isLetter ml_X5_47 rfl rfl (Nat.le_of_ble_eq_true rfl) ⟨(Nat.le_of_ble_eq_true rfl), (Nat.le_of_ble_eq_true rfl)⟩ ⟨Nat.zero_le _, Nat.zero_le _⟩ ?_
      refine v_if_eq (tgt := 28) dX5_takeWord_19 (by decide) (fun c => ?_) (fun c => ?_)
      · replace hh := (if_pos c).symm.trans hh
        exact v_sub [0, 1, 2] rfl (tb_X5_takeWord_28 _ _ _ hh)
      · replace hh := (if_neg c).symm.trans hh
        refine v_iinc (v := _ + (1 : Int32)) 2 dX5_takeWord_22 rfl rfl (by decide) rfl ?_
        replace hh := lt_of hh
        refine v_goto (tgt := 2) dX5_takeWord_25 (by decide) ?_
        exact v_sub [1, 2, 0] rfl (ih _ _ _ hh)
def f_X5_takeWord (N : Nat) (S : St) (x1 : Int32) : Option (Int32 × St) :=
  f_X5_takeWord_b2 N N x1 x1 S
set_option maxRecDepth 100000 in
set_option maxHeartbeats 4000000 in
theorem t_X5_takeWord {l : Launch} {G : v_G} {N : Nat} {S : St}   {x1 : Int32} {r : Int32 × St} (hh : f_X5_takeWord N S x1 = some r) : v_M l G yX5_takeWord cX5_takeWord 3 (some .int) 5 0 0 [.ref (v_B G + 283), .int x1] (lay G S) (QI r.1 (lay G r.2)) := by
  refine v_entry (by decide) (Nat.le_of_ble_eq_true rfl) ?_
  unfold f_X5_takeWord at hh
  show V l G yX5_takeWord cX5_takeWord 3 (some .int) (v_rm 5 0 0) (QI r.1 (lay G r.2)) 0 0 0 [(0, .ref (v_B G + 283)), (1, .int x1)] [] (lay G S)
  refine v_iload_n 1 dX5_takeWord_0 rfl rfl ?_
  refine v_istore_n dX5_takeWord_1 rfl (by decide) rfl ?_
  exact v_sub [1, 2, 0] rfl (tb_X5_takeWord_2 N _ _ _ hh)
def f_X5_takeToken_b119 (N : Nat) (x1 : Int32) (S : St) : Option (Int32 × St) :=
  chk (inb x1 300) (
  bnd (f_X5_signOf S (gI S 500 0 x1.toNatClampNeg)) fun q6 =>
 bnd (f_X5_add S q6 x1 (0 : Int32)) fun q7 =>
 some (x1 + (1 : Int32), q7))
set_option maxRecDepth 100000 in
set_option maxHeartbeats 4000000 in
theorem tb_X5_takeToken_119 {l : Launch} {G : v_G} {N : Nat}    {r : Int32 × St}   : ∀ (x1 : Int32) (S : St),  f_X5_takeToken_b119 N x1 S = some r → V l G yX5_takeToken cX5_takeToken 3 (some .int) (v_rm 6 0 0) (QI r.1 (lay G r.2)) 0 0 119 [(0, .ref (v_B G + 283)), (1, .int x1)] [] (lay G S) := by
  intro x1 S  hh
  unfold f_X5_takeToken_b119 at hh
  refine v_aload_n 0 dX5_takeToken_119 rfl rfl ?_
  refine v_aload_n 0 dX5_takeToken_120 rfl rfl ?_
  refine r_Tape_bytes dX5_takeToken_121 fl_X5_9 ?_
  refine v_iload_n 1 dX5_takeToken_124 rfl rfl ?_
  obtain ⟨g5, hh⟩ := chk_some hh
  replace g5 := inb_in g5
  refine ld_bytes dX5_takeToken_125 g5 ?_
  obtain ⟨q6, eq6, hh⟩ := bnd_some hh
  refine v_callSi (t_X5_signOf eq6) dX5_takeToken_126 y_X5_signOf ml_X5_60 rfl rfl (Nat.le_of_ble_eq_true rfl) ⟨(Nat.le_of_ble_eq_true rfl), (Nat.le_of_ble_eq_true rfl)⟩ ⟨Nat.zero_le _, Nat.zero_le _⟩ ?_
  refine v_iload_n 1 dX5_takeToken_129 rfl rfl ?_
  refine v_iconst dX5_takeToken_130 (by decide : _ = (0 : Int32)) ?_
  obtain ⟨q7, eq7, hh⟩ := bnd_some hh
  refine v_callVv (t_X5_add eq7) dX5_takeToken_131 y_X5_add ml_X5_43 (ci := 4) rfl rfl (e_Tape) rfl rfl (Nat.le_of_ble_eq_true rfl) ⟨(Nat.le_of_ble_eq_true rfl), (Nat.le_of_ble_eq_true rfl)⟩ ⟨Nat.zero_le _, Nat.zero_le _⟩ ?_
  refine v_iload_n 1 dX5_takeToken_134 rfl rfl ?_
  refine v_iconst dX5_takeToken_135 (by decide : _ = (1 : Int32)) ?_
  refine v_iadd dX5_takeToken_136 ?_
  obtain rfl := Option.some.inj hh
  exact v_iret dX5_takeToken_137 rfl (Nat.zero_le _) (Nat.zero_le _) ⟨rfl, rfl⟩
def f_X5_takeToken_b110 (N : Nat) (x1 : Int32) (s0 : Int32) (S : St) : Option (Int32 × St) :=
  bnd (f_X5_add S s0 x1 (0 : Int32)) fun q10 =>
 some (x1 + (2 : Int32), q10)
set_option maxRecDepth 100000 in
set_option maxHeartbeats 4000000 in
theorem tb_X5_takeToken_110 {l : Launch} {G : v_G} {N : Nat}    {r : Int32 × St}   : ∀ (x1 : Int32) (s0 : Int32) (S : St),  f_X5_takeToken_b110 N x1 s0 S = some r → V l G yX5_takeToken cX5_takeToken 3 (some .int) (v_rm 6 0 0) (QI r.1 (lay G r.2)) 0 0 110 [(1, .int x1)] [.int s0, .ref (v_B G + 283)] (lay G S) := by
  intro x1 s0 S  hh
  unfold f_X5_takeToken_b110 at hh
  refine v_iload_n 0 dX5_takeToken_110 rfl rfl ?_
  refine v_iconst dX5_takeToken_111 (by decide : _ = (0 : Int32)) ?_
  obtain ⟨q10, eq10, hh⟩ := bnd_some hh
  refine v_callVv (t_X5_add eq10) dX5_takeToken_112 y_X5_add ml_X5_43 (ci := 4) rfl rfl (e_Tape) rfl rfl (Nat.le_of_ble_eq_true rfl) ⟨(Nat.le_of_ble_eq_true rfl), (Nat.le_of_ble_eq_true rfl)⟩ ⟨Nat.zero_le _, Nat.zero_le _⟩ ?_
  refine v_iload_n 0 dX5_takeToken_115 rfl rfl ?_
  refine v_iconst dX5_takeToken_116 (by decide : _ = (2 : Int32)) ?_
  refine v_iadd dX5_takeToken_117 ?_
  obtain rfl := Option.some.inj hh
  exact v_iret dX5_takeToken_118 rfl (Nat.zero_le _) (Nat.zero_le _) ⟨rfl, rfl⟩
def f_X5_takeToken_b91 (N : Nat) (x1 : Int32) (S : St) : Option (Int32 × St) :=
  chk (inb x1 300) (
  if (gI S 500 0 x1.toNatClampNeg) = (60 : Int32) then
  (f_X5_takeToken_b110 N x1 (26 : Int32) S)
  else
  (f_X5_takeToken_b110 N x1 (27 : Int32) S))
set_option maxRecDepth 100000 in
set_option maxHeartbeats 4000000 in
theorem tb_X5_takeToken_91 {l : Launch} {G : v_G} {N : Nat}    {r : Int32 × St}   : ∀ (x1 : Int32) (S : St),  f_X5_takeToken_b91 N x1 S = some r → V l G yX5_takeToken cX5_takeToken 3 (some .int) (v_rm 6 0 0) (QI r.1 (lay G r.2)) 0 0 91 [(0, .ref (v_B G + 283)), (1, .int x1)] [] (lay G S) := by
  intro x1 S  hh
  unfold f_X5_takeToken_b91 at hh
  refine v_aload_n 0 dX5_takeToken_91 rfl rfl ?_
  refine v_aload_n 0 dX5_takeToken_92 rfl rfl ?_
  refine r_Tape_bytes dX5_takeToken_93 fl_X5_9 ?_
  refine v_iload_n 1 dX5_takeToken_96 rfl rfl ?_
  obtain ⟨g9, hh⟩ := chk_some hh
  replace g9 := inb_in g9
  refine ld_bytes dX5_takeToken_97 g9 ?_
  refine v_bipush dX5_takeToken_98 (by decide : _ = (60 : Int32)) ?_
  refine v_icmp_ne (tgt := 108) dX5_takeToken_100 (by decide) (fun c => ?_) (fun c => ?_)
  · replace hh := (if_neg c).symm.trans hh
    refine v_bipush dX5_takeToken_108 (by decide : _ = (27 : Int32)) ?_
    exact v_sub [1] rfl (tb_X5_takeToken_110 _ _ _ hh)
  · replace hh := (if_pos c).symm.trans hh
    refine v_bipush dX5_takeToken_103 (by decide : _ = (26 : Int32)) ?_
    refine v_goto (tgt := 110) dX5_takeToken_105 (by decide) ?_
    exact v_sub [1] rfl (tb_X5_takeToken_110 _ _ _ hh)
def f_X5_takeToken_b64 (N : Nat) (x1 : Int32) (s0 : Int32) (S : St) : Option (Int32 × St) :=
  if s0 = (0 : Int32) then
  (f_X5_takeToken_b119 N x1 S)
  else
  (chk (inb x1 300) (
  if (gI S 500 0 x1.toNatClampNeg) = (60 : Int32) then
  (f_X5_takeToken_b91 N x1 S)
  else
  (chk (inb x1 300) (
  if (gI S 500 0 x1.toNatClampNeg) = (62 : Int32) then
  (f_X5_takeToken_b91 N x1 S)
  else
  (f_X5_takeToken_b119 N x1 S)))))
set_option maxRecDepth 100000 in
set_option maxHeartbeats 4000000 in
theorem tb_X5_takeToken_64 {l : Launch} {G : v_G} {N : Nat}    {r : Int32 × St}   : ∀ (x1 : Int32) (s0 : Int32) (S : St),  f_X5_takeToken_b64 N x1 s0 S = some r → V l G yX5_takeToken cX5_takeToken 3 (some .int) (v_rm 6 0 0) (QI r.1 (lay G r.2)) 0 0 64 [(0, .ref (v_B G + 283)), (1, .int x1)] [.int s0] (lay G S) := by
  intro x1 s0 S  hh
  unfold f_X5_takeToken_b64 at hh
  refine v_istore_n dX5_takeToken_64 rfl (by decide) rfl ?_
  refine v_iload_n 0 dX5_takeToken_65 rfl rfl ?_
  refine v_if_eq (tgt := 119) dX5_takeToken_66 (by decide) (fun c => ?_) (fun c => ?_)
  · replace hh := (if_pos c).symm.trans hh
    exact v_sub [1, 2] rfl (tb_X5_takeToken_119 _ _ hh)
  · replace hh := (if_neg c).symm.trans hh
    refine v_aload_n 1 dX5_takeToken_69 rfl rfl ?_
    refine r_Tape_bytes dX5_takeToken_70 fl_X5_9 ?_
    refine v_iload_n 2 dX5_takeToken_73 rfl rfl ?_
    obtain ⟨g8, hh⟩ := chk_some hh
    replace g8 := inb_in g8
    refine ld_bytes dX5_takeToken_74 g8 ?_
    refine v_bipush dX5_takeToken_75 (by decide : _ = (60 : Int32)) ?_
    refine v_icmp_eq (tgt := 91) dX5_takeToken_77 (by decide) (fun c => ?_) (fun c => ?_)
    · replace hh := (if_pos c).symm.trans hh
      exact v_sub [1, 2] rfl (tb_X5_takeToken_91 _ _ hh)
    · replace hh := (if_neg c).symm.trans hh
      refine v_aload_n 1 dX5_takeToken_80 rfl rfl ?_
      refine r_Tape_bytes dX5_takeToken_81 fl_X5_9 ?_
      refine v_iload_n 2 dX5_takeToken_84 rfl rfl ?_
      obtain ⟨g11, hh⟩ := chk_some hh
      replace g11 := inb_in g11
      refine ld_bytes dX5_takeToken_85 g11 ?_
      refine v_bipush dX5_takeToken_86 (by decide : _ = (62 : Int32)) ?_
      refine v_icmp_ne (tgt := 119) dX5_takeToken_88 (by decide) (fun c => ?_) (fun c => ?_)
      · replace hh := (if_neg c).symm.trans hh
        exact v_sub [1, 2] rfl (tb_X5_takeToken_119 _ _ hh)
      · replace hh := (if_pos c).symm.trans hh
        exact v_sub [1, 2] rfl (tb_X5_takeToken_91 _ _ hh)
def f_X5_takeToken_b63 (N : Nat) (x1 : Int32) (S : St) : Option (Int32 × St) :=
  f_X5_takeToken_b64 N x1 (0 : Int32) S
set_option maxRecDepth 100000 in
set_option maxHeartbeats 4000000 in
theorem tb_X5_takeToken_63 {l : Launch} {G : v_G} {N : Nat}    {r : Int32 × St}   : ∀ (x1 : Int32) (S : St),  f_X5_takeToken_b63 N x1 S = some r → V l G yX5_takeToken cX5_takeToken 3 (some .int) (v_rm 6 0 0) (QI r.1 (lay G r.2)) 0 0 63 [(0, .ref (v_B G + 283)), (1, .int x1)] [] (lay G S) := by
  intro x1 S  hh
  unfold f_X5_takeToken_b63 at hh
  refine v_iconst dX5_takeToken_63 (by decide : _ = (0 : Int32)) ?_
  exact v_sub [0, 1] rfl (tb_X5_takeToken_64 _ _ _ hh)
def f_X5_takeToken (N : Nat) (S : St) (x1 : Int32) : Option (Int32 × St) :=
  chk (inb x1 300) (
  bnd (f_X5_isLetter S (gI S 500 0 x1.toNatClampNeg)) fun q2 =>
 if q2 = (0 : Int32) then
  (chk (inb x1 300) (
  bnd (f_X5_isDigit S (gI S 500 0 x1.toNatClampNeg)) fun q4 =>
 if q4 = (0 : Int32) then
  (if (gI S 501 0 0) ≤ (x1 + (1 : Int32)) then
  (f_X5_takeToken_b63 N x1 S)
  else
  (chk (inb (x1 + (1 : Int32)) 300) (
  if (gI S 500 0 (x1 + (1 : Int32)).toNatClampNeg) = (61 : Int32) then
  (f_X5_takeToken_b64 N x1 (1 : Int32) S)
  else
  (f_X5_takeToken_b63 N x1 S))))
  else
  (bnd (f_X5_takeNumber N S x1) fun q13 =>
 some (q13.1, q13.2))))
  else
  (bnd (f_X5_takeWord N S x1) fun q14 =>
 some (q14.1, q14.2)))
set_option maxRecDepth 100000 in
set_option maxHeartbeats 4000000 in
theorem t_X5_takeToken {l : Launch} {G : v_G} {N : Nat} {S : St}   {x1 : Int32} {r : Int32 × St} (hh : f_X5_takeToken N S x1 = some r) : v_M l G yX5_takeToken cX5_takeToken 3 (some .int) 6 0 0 [.ref (v_B G + 283), .int x1] (lay G S) (QI r.1 (lay G r.2)) := by
  refine v_entry (by decide) (Nat.le_of_ble_eq_true rfl) ?_
  unfold f_X5_takeToken at hh
  show V l G yX5_takeToken cX5_takeToken 3 (some .int) (v_rm 6 0 0) (QI r.1 (lay G r.2)) 0 0 0 [(0, .ref (v_B G + 283)), (1, .int x1)] [] (lay G S)
  refine v_aload_n 0 dX5_takeToken_0 rfl rfl ?_
  refine r_Tape_bytes dX5_takeToken_1 fl_X5_9 ?_
  refine v_iload_n 1 dX5_takeToken_4 rfl rfl ?_
  obtain ⟨g1, hh⟩ := chk_some hh
  replace g1 := inb_in g1
  refine ld_bytes dX5_takeToken_5 g1 ?_
  obtain ⟨q2, eq2, hh⟩ := bnd_some hh
  refine v_callSi (t_X5_isLetter eq2) dX5_takeToken_6 y_X5_isLetter ml_X5_47 rfl rfl (Nat.le_of_ble_eq_true rfl) ⟨(Nat.le_of_ble_eq_true rfl), (Nat.le_of_ble_eq_true rfl)⟩ ⟨Nat.zero_le _, Nat.zero_le _⟩ ?_
  refine v_if_eq (tgt := 18) dX5_takeToken_9 (by decide) (fun c => ?_) (fun c => ?_)
  · replace hh := (if_pos c).symm.trans hh
    refine v_aload_n 0 dX5_takeToken_18 rfl rfl ?_
    refine r_Tape_bytes dX5_takeToken_19 fl_X5_9 ?_
    refine v_iload_n 1 dX5_takeToken_22 rfl rfl ?_
    obtain ⟨g3, hh⟩ := chk_some hh
    replace g3 := inb_in g3
    refine ld_bytes dX5_takeToken_23 g3 ?_
    obtain ⟨q4, eq4, hh⟩ := bnd_some hh
    refine v_callSi (t_X5_isDigit eq4) dX5_takeToken_24 y_X5_isDigit ml_X5_54 rfl rfl (Nat.le_of_ble_eq_true rfl) ⟨(Nat.le_of_ble_eq_true rfl), (Nat.le_of_ble_eq_true rfl)⟩ ⟨Nat.zero_le _, Nat.zero_le _⟩ ?_
    refine v_if_eq (tgt := 36) dX5_takeToken_27 (by decide) (fun c => ?_) (fun c => ?_)
    · replace hh := (if_pos c).symm.trans hh
      refine v_iload_n 1 dX5_takeToken_36 rfl rfl ?_
      refine v_iconst dX5_takeToken_37 (by decide : _ = (1 : Int32)) ?_
      refine v_iadd dX5_takeToken_38 ?_
      refine v_aload_n 0 dX5_takeToken_39 rfl rfl ?_
      refine r_Tape_length dX5_takeToken_40 fl_X5_24 ?_
      refine v_icmp_ge (tgt := 63) dX5_takeToken_43 (by decide) (fun c => ?_) (fun c => ?_)
      · replace hh := (if_pos c).symm.trans hh
        exact v_sub [0, 1] rfl (tb_X5_takeToken_63 _ _ hh)
      · replace hh := (if_neg c).symm.trans hh
        refine v_aload_n 0 dX5_takeToken_46 rfl rfl ?_
        refine r_Tape_bytes dX5_takeToken_47 fl_X5_9 ?_
        refine v_iload_n 1 dX5_takeToken_50 rfl rfl ?_
        refine v_iconst dX5_takeToken_51 (by decide : _ = (1 : Int32)) ?_
        refine v_iadd dX5_takeToken_52 ?_
        obtain ⟨g12, hh⟩ := chk_some hh
        replace g12 := inb_in g12
        refine ld_bytes dX5_takeToken_53 g12 ?_
        refine v_bipush dX5_takeToken_54 (by decide : _ = (61 : Int32)) ?_
        refine v_icmp_ne (tgt := 63) dX5_takeToken_56 (by decide) (fun c => ?_) (fun c => ?_)
        · replace hh := (if_neg c).symm.trans hh
          exact v_sub [0, 1] rfl (tb_X5_takeToken_63 _ _ hh)
        · replace hh := (if_pos c).symm.trans hh
          refine v_iconst dX5_takeToken_59 (by decide : _ = (1 : Int32)) ?_
          refine v_goto (tgt := 64) dX5_takeToken_60 (by decide) ?_
          exact v_sub [0, 1] rfl (tb_X5_takeToken_64 _ _ _ hh)
    · replace hh := (if_neg c).symm.trans hh
      refine v_aload_n 0 dX5_takeToken_30 rfl rfl ?_
      refine v_iload_n 1 dX5_takeToken_31 rfl rfl ?_
      obtain ⟨q13, eq13, hh⟩ := bnd_some hh
      refine v_callVi (t_X5_takeNumber eq13) dX5_takeToken_32 y_X5_takeNumber ml_X5_57 (ci := 4) rfl rfl (e_Tape) rfl rfl (Nat.le_of_ble_eq_true rfl) ⟨(Nat.le_of_ble_eq_true rfl), (Nat.le_of_ble_eq_true rfl)⟩ ⟨Nat.zero_le _, Nat.zero_le _⟩ ?_
      obtain rfl := Option.some.inj hh
      exact v_iret dX5_takeToken_35 rfl (Nat.zero_le _) (Nat.zero_le _) ⟨rfl, rfl⟩
  · replace hh := (if_neg c).symm.trans hh
    refine v_aload_n 0 dX5_takeToken_12 rfl rfl ?_
    refine v_iload_n 1 dX5_takeToken_13 rfl rfl ?_
    obtain ⟨q14, eq14, hh⟩ := bnd_some hh
    refine v_callVi (t_X5_takeWord eq14) dX5_takeToken_14 y_X5_takeWord ml_X5_51 (ci := 4) rfl rfl (e_Tape) rfl rfl (Nat.le_of_ble_eq_true rfl) ⟨(Nat.le_of_ble_eq_true rfl), (Nat.le_of_ble_eq_true rfl)⟩ ⟨Nat.zero_le _, Nat.zero_le _⟩ ?_
    obtain rfl := Option.some.inj hh
    exact v_iret dX5_takeToken_17 rfl (Nat.zero_le _) (Nat.zero_le _) ⟨rfl, rfl⟩
def f_X5_findTokens_b7 (N : Nat) : Nat → Int32 → St → Option (St)
  | 0, _, _ => none
  | n + 1, x1, S =>
  if (gI S 501 0 0) ≤ x1 then
  (bnd (f_X5_add S (40 : Int32) (gI S 501 0 0) (0 : Int32)) fun q2 =>
 some q2)
  else
  (chk (inb x1 300) (
  if (gI S 500 0 x1.toNatClampNeg) = (32 : Int32) then
  (lt (x1 + (1 : Int32)) fun v4 =>
  f_X5_findTokens_b7 N n v4 S)
  else
  (chk (inb x1 300) (
  if (gI S 500 0 x1.toNatClampNeg) = (10 : Int32) then
  (lt (x1 + (1 : Int32)) fun v8 =>
  f_X5_findTokens_b7 N n v8 S)
  else
  (bnd (f_X5_takeToken N S x1) fun q6 =>
 lt (if (x1 + (1 : Int32)) < q6.1 then q6.1 else (x1 + (1 : Int32))) fun v7 =>
  f_X5_findTokens_b7 N n v7 q6.2)))))
set_option maxRecDepth 100000 in
set_option maxHeartbeats 4000000 in
theorem tb_X5_findTokens_7 {l : Launch} {G : v_G} {N : Nat}    {r : St}   : ∀ (n : Nat) (x1 : Int32) (S : St),  f_X5_findTokens_b7 N n x1 S = some r → V l G yX5_findTokens cX5_findTokens 2 (none) (v_rm 7 0 0) (QV (lay G r)) 0 0 7 [(0, .ref (v_B G + 283)), (1, .int x1)] [] (lay G S) := by
  intro n
  induction n with
  | zero =>
    intro x1 S  hh
    rw [f_X5_findTokens_b7] at hh
    cases hh
  | succ n ih =>
    intro x1 S  hh
    rw [f_X5_findTokens_b7] at hh
    refine v_iload_n 1 dX5_findTokens_7 rfl rfl ?_
    refine v_aload_n 0 dX5_findTokens_8 rfl rfl ?_
    refine r_Tape_length dX5_findTokens_9 fl_X5_24 ?_
    refine v_icmp_ge (tgt := 58) dX5_findTokens_12 (by decide) (fun c => ?_) (fun c => ?_)
    · replace hh := (if_pos c).symm.trans hh
      refine v_aload_n 0 dX5_findTokens_58 rfl rfl ?_
      refine v_bipush dX5_findTokens_59 (by decide : _ = (40 : Int32)) ?_
      refine v_aload_n 0 dX5_findTokens_61 rfl rfl ?_
      refine r_Tape_length dX5_findTokens_62 fl_X5_24 ?_
      refine v_iconst dX5_findTokens_65 (by decide : _ = (0 : Int32)) ?_
      obtain ⟨q2, eq2, hh⟩ := bnd_some hh
      refine v_callVv (t_X5_add eq2) dX5_findTokens_66 y_X5_add ml_X5_43 (ci := 4) rfl rfl (e_Tape) rfl rfl (Nat.le_of_ble_eq_true rfl) ⟨(Nat.le_of_ble_eq_true rfl), (Nat.le_of_ble_eq_true rfl)⟩ ⟨Nat.zero_le _, Nat.zero_le _⟩ ?_
      obtain rfl := Option.some.inj hh
      exact v_vret dX5_findTokens_69 rfl (Nat.zero_le _) (Nat.zero_le _) ⟨rfl, rfl⟩
    · replace hh := (if_neg c).symm.trans hh
      refine v_aload_n 0 dX5_findTokens_15 rfl rfl ?_
      refine r_Tape_bytes dX5_findTokens_16 fl_X5_9 ?_
      refine v_iload_n 1 dX5_findTokens_19 rfl rfl ?_
      obtain ⟨g3, hh⟩ := chk_some hh
      replace g3 := inb_in g3
      refine ld_bytes dX5_findTokens_20 g3 ?_
      refine v_bipush dX5_findTokens_21 (by decide : _ = (32 : Int32)) ?_
      refine v_icmp_eq (tgt := 37) dX5_findTokens_23 (by decide) (fun c => ?_) (fun c => ?_)
      · replace hh := (if_pos c).symm.trans hh
        refine v_iinc (v := _ + (1 : Int32)) 1 dX5_findTokens_37 rfl rfl (by decide) rfl ?_
        replace hh := lt_of hh
        refine v_goto (tgt := 7) dX5_findTokens_40 (by decide) ?_
        exact v_sub [1, 0] rfl (ih _ _ hh)
      · replace hh := (if_neg c).symm.trans hh
        refine v_aload_n 0 dX5_findTokens_26 rfl rfl ?_
        refine r_Tape_bytes dX5_findTokens_27 fl_X5_9 ?_
        refine v_iload_n 1 dX5_findTokens_30 rfl rfl ?_
        obtain ⟨g5, hh⟩ := chk_some hh
        replace g5 := inb_in g5
        refine ld_bytes dX5_findTokens_31 g5 ?_
        refine v_bipush dX5_findTokens_32 (by decide : _ = (10 : Int32)) ?_
        refine v_icmp_ne (tgt := 43) dX5_findTokens_34 (by decide) (fun c => ?_) (fun c => ?_)
        · replace hh := (if_neg c).symm.trans hh
          refine v_iload_n 1 dX5_findTokens_43 rfl rfl ?_
          refine v_iconst dX5_findTokens_44 (by decide : _ = (1 : Int32)) ?_
          refine v_iadd dX5_findTokens_45 ?_
          refine v_aload_n 0 dX5_findTokens_46 rfl rfl ?_
          refine v_iload_n 1 dX5_findTokens_47 rfl rfl ?_
          obtain ⟨q6, eq6, hh⟩ := bnd_some hh
          refine v_callVi (t_X5_takeToken eq6) dX5_findTokens_48 y_X5_takeToken ml_X5_31 (ci := 4) rfl rfl (e_Tape) rfl rfl (Nat.le_of_ble_eq_true rfl) ⟨(Nat.le_of_ble_eq_true rfl), (Nat.le_of_ble_eq_true rfl)⟩ ⟨Nat.zero_le _, Nat.zero_le _⟩ ?_
          refine v_mmax dX5_findTokens_51 ml_X5_35 y_J9_max_7cf53.2 y_J9_max_7cf53.1.2.1 y_J9_max_7cf53.1.1 (Nat.le_of_ble_eq_true rfl) (Nat.le_of_ble_eq_true rfl) (Nat.zero_le _) (Nat.zero_le _) ?_
          replace hh := lt_of hh
          refine v_istore_n dX5_findTokens_54 rfl (by decide) rfl ?_
          refine v_goto (tgt := 7) dX5_findTokens_55 (by decide) ?_
          exact v_sub [1, 0] rfl (ih _ _ hh)
        · replace hh := (if_pos c).symm.trans hh
          refine v_iinc (v := _ + (1 : Int32)) 1 dX5_findTokens_37 rfl rfl (by decide) rfl ?_
          replace hh := lt_of hh
          refine v_goto (tgt := 7) dX5_findTokens_40 (by decide) ?_
          exact v_sub [1, 0] rfl (ih _ _ hh)
def f_X5_findTokens (N : Nat) (S : St)  : Option (St) :=
  lt (sI S 505 0 0 (0 : Int32)) fun S1 =>
  f_X5_findTokens_b7 N N (0 : Int32) S1
set_option maxRecDepth 100000 in
set_option maxHeartbeats 4000000 in
theorem t_X5_findTokens {l : Launch} {G : v_G} {N : Nat} {S : St}    {r : St} (hh : f_X5_findTokens N S  = some r) : v_M l G yX5_findTokens cX5_findTokens 2 (none) 7 0 0 [.ref (v_B G + 283)] (lay G S) (QV (lay G r)) := by
  refine v_entry (by decide) (Nat.le_of_ble_eq_true rfl) ?_
  unfold f_X5_findTokens at hh
  show V l G yX5_findTokens cX5_findTokens 2 (none) (v_rm 7 0 0) (QV (lay G r)) 0 0 0 [(0, .ref (v_B G + 283))] [] (lay G S)
  refine v_aload_n 0 dX5_findTokens_0 rfl rfl ?_
  refine v_iconst dX5_findTokens_1 (by decide : _ = (0 : Int32)) ?_
  refine w_Tape_tokens dX5_findTokens_2 fl_X5_28 ?_
  replace hh := lt_of hh
  refine v_iconst dX5_findTokens_5 (by decide : _ = (0 : Int32)) ?_
  refine v_istore_n dX5_findTokens_6 rfl (by decide) rfl ?_
  exact v_sub [1, 0] rfl (tb_X5_findTokens_7 N _ _ hh)
