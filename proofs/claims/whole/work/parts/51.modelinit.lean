def f_X10_init_b142 (N : Nat) : Nat → Int32 → St → Option (St)
  | 0, _, _ => none
  | n + 1, x1, S =>
  if (12 : Int32) ≤ x1 then
  (bnd (f_X10_copy_ai N S ) fun q5 =>
 some q5)
  else
  (chk (inb ((11 : Int32) + x1) 3015) (
  lt (sI S 1000 0 (((11 : Int32) + x1).toNatClampNeg) (20 : Int32)) fun S7 =>
  lt (x1 + (1 : Int32)) fun v8 =>
  f_X10_init_b142 N n v8 S7))
set_option maxRecDepth 100000 in
set_option maxHeartbeats 4000000 in
theorem tb_X10_init_142 {l : Launch} {G : v_G} {N : Nat}   {r : St}   : ∀ (n : Nat) (x1 : Int32) (S : St),  f_X10_init_b142 N n x1 S = some r → V l G yX10_init cX10_init 2 (none) (v_rm 2 12 10098) (QV (lay G r)) 12 10098 142 [(0, .ref (v_B G + 291)), (1, .int x1)] [] (lay G S) := by
  intro n
  induction n with
  | zero =>
    intro x1 S  hh
    rw [f_X10_init_b142] at hh
    cases hh
  | succ n ih =>
    intro x1 S  hh
    rw [f_X10_init_b142] at hh
    refine v_iload_n 1 dX10_init_142 rfl rfl ?_
    refine v_bipush dX10_init_143 (by decide : _ = (12 : Int32)) ?_
    refine v_icmp_ge (tgt := 165) dX10_init_145 (by decide) (fun c => ?_) (fun c => ?_)
    · replace hh := (if_pos c).symm.trans hh
      refine v_aload_n 0 dX10_init_165 rfl rfl ?_
      refine r_Model_a dX10_init_166 fl_X10_7 ?_
      refine v_aload_n 0 dX10_init_169 rfl rfl ?_
      refine r_Model_image dX10_init_170 fl_X10_13 ?_
      obtain ⟨q5, eq5, hh⟩ := bnd_some hh
      refine v_callSv (t_X10_copy_ai eq5) dX10_init_173 y_X10_copy ml_X10_59 rfl rfl (Nat.le_of_ble_eq_true rfl) ⟨(Nat.le_of_ble_eq_true rfl), (Nat.le_of_ble_eq_true rfl)⟩ ⟨by show _ ≤ 12; omega, by show _ ≤ 10098; omega⟩ ?_
      obtain rfl := Option.some.inj hh
      exact v_vret dX10_init_176 rfl (by show _ ≤ 12; omega) (by show _ ≤ 10098; omega) ⟨rfl, rfl⟩
    · replace hh := (if_neg c).symm.trans hh
      refine v_aload_n 0 dX10_init_148 rfl rfl ?_
      refine r_Model_a dX10_init_149 fl_X10_7 ?_
      refine v_bipush dX10_init_152 (by decide : _ = (11 : Int32)) ?_
      refine v_iload_n 1 dX10_init_154 rfl rfl ?_
      refine v_iadd dX10_init_155 ?_
      refine v_bipush dX10_init_156 (by decide : _ = (20 : Int32)) ?_
      obtain ⟨g6, hh⟩ := chk_some hh
      replace g6 := inb_in g6
      refine st_ma dX10_init_158 g6 ?_
      replace hh := lt_of hh
      refine v_iinc (v := _ + (1 : Int32)) 1 dX10_init_159 rfl rfl (by decide) rfl ?_
      replace hh := lt_of hh
      refine v_goto (tgt := 142) dX10_init_162 (by decide) ?_
      exact v_sub [1, 0] rfl (ih _ _ hh)
def f_X10_initb (N : Nat) (S : St) : Option (St) :=
  lt (sI S 1000 0 7 (281 : Int32)) fun S2 =>
  lt (sI S2 1000 0 3 (-1 : Int32)) fun S4 =>
  f_X10_init_b142 N N (0 : Int32) S4
set_option maxRecDepth 100000 in
set_option maxHeartbeats 4000000 in
theorem t_X10_initb {l : Launch} {G : v_G} {N : Nat} {S : St} {r : St} (hh : f_X10_initb N S = some r) : V l G yX10_init cX10_init 2 (none) (v_rm 2 12 10098) (QV (lay G r)) 12 10098 123 [(0, .ref (v_B G + 291))] [] (lay G S) := by
  unfold f_X10_initb at hh
  refine v_aload_n 0 dX10_init_123 rfl rfl ?_
  refine r_Model_a dX10_init_124 fl_X10_7 ?_
  refine v_bipush dX10_init_127 (by decide : _ = (7 : Int32)) ?_
  refine v_sipush dX10_init_129 (by decide : _ = (281 : Int32)) ?_
  refine st_ma dX10_init_132 (inb_in (by decide)) ?_
  replace hh := lt_of hh
  refine v_aload_n 0 dX10_init_133 rfl rfl ?_
  refine r_Model_a dX10_init_134 fl_X10_7 ?_
  refine v_iconst dX10_init_137 (by decide : _ = (3 : Int32)) ?_
  refine v_iconst dX10_init_138 (by decide : _ = (-1 : Int32)) ?_
  refine st_ma dX10_init_139 (inb_in (by decide)) ?_
  replace hh := lt_of hh
  refine v_iconst dX10_init_140 (by decide : _ = (0 : Int32)) ?_
  refine v_istore_n dX10_init_141 rfl (by decide) rfl ?_
  exact v_sub [1, 0] rfl (tb_X10_init_142 N _ _ hh)
set_option maxRecDepth 100000 in
set_option maxHeartbeats 4000000 in
theorem mo_1 {l : Launch} {G : v_G} {h : v_H} {Qr : Option Value → v_H → Prop} (hB : v_B G ≤ h.2) (kk : V l G yX10_init cX10_init 2 none (v_rm 2 12 10098) Qr 12 10098 123 [(0, .ref h.2)] [] (hL h (MoL h.2))) : V l G yX10_init cX10_init 2 none (v_rm 2 12 10098) Qr 0 0 0 [(0, .ref h.2)] [] (hL h [.inr (9, [.null, .null, .null, .null, .int 0, .int 0, .int 0, .int 0, .int 0, .int 0, .int 0, .long 0, .int 0, .int 0, .int 0, .null, .int 0, .int 0, .int 0, .int 0, .null, .null, .null, .int 0, .int 0, .null, .null, .null, .null])]) := by
  refine v_aload_n 0 dX10_init_0 rfl rfl ?_
  refine v_objInit dX10_init_1 ml_X10_1 w_oinst w_ocode (Nat.le_of_ble_eq_true rfl) (Nat.le_of_ble_eq_true rfl) ?_
  refine v_aload_n 0 dX10_init_4 rfl rfl ?_
  refine v_sipush dX10_init_5 (by decide : _ = (3015 : Int32)) ?_
  refine v_newa (atype := .int) (ty := .int) (t := 0) (N := 3015) (a0 := (3015, .inl (fun _ => 0))) dX10_init_8 rfl ac_int rfl (fun C h => by cases h) (fun cA => rfl) (by decide) (by decide) (by decide) (by show _ ≤ 12; omega) (by show _ ≤ 10098; omega) ?_
  rw [hL_push]
  show V l G yX10_init cX10_init 2 none (v_rm 2 12 10098) Qr 1 3015 10 [(0, .ref h.2)] [.ref (h.2 + 1), .ref h.2] (hL h [.inr (9, [.null, .null, .null, .null, .int 0, .int 0, .int 0, .int 0, .int 0, .int 0, .int 0, .long 0, .int 0, .int 0, .int 0, .null, .int 0, .int 0, .int 0, .int 0, .null, .null, .null, .int 0, .int 0, .null, .null, .null, .null]), .inl (0, 3015, .inl (fun _ => 0))])
  refine v_putF tyX10 tyX10_ok nmX10 dX10_init_10 rfl (ci := 9) (k := 0) rfl i_X10 (by decide) fl_X10_7 rfl rfl rfl (tyX10_ok 0 (by decide)) rfl rfl (by simp) hB (hL_at0 rfl) ?_
  rw [hL_up0 (by simp)]
  show V l G yX10_init cX10_init 2 none (v_rm 2 12 10098) Qr 1 3015 13 [(0, .ref h.2)] [] (hL h [.inr (9, [.ref (h.2 + 1), .null, .null, .null, .int 0, .int 0, .int 0, .int 0, .int 0, .int 0, .int 0, .long 0, .int 0, .int 0, .int 0, .null, .int 0, .int 0, .int 0, .int 0, .null, .null, .null, .int 0, .int 0, .null, .null, .null, .null]), .inl (0, 3015, .inl (fun _ => 0))])
  refine v_aload_n 0 dX10_init_13 rfl rfl ?_
  refine v_sipush dX10_init_14 (by decide : _ = (3015 : Int32)) ?_
  refine v_newa (atype := .int) (ty := .int) (t := 0) (N := 3015) (a0 := (3015, .inl (fun _ => 0))) dX10_init_17 rfl ac_int rfl (fun C h => by cases h) (fun cA => rfl) (by decide) (by decide) (by decide) (by show _ ≤ 12; omega) (by show _ ≤ 10098; omega) ?_
  rw [hL_push]
  show V l G yX10_init cX10_init 2 none (v_rm 2 12 10098) Qr 2 6030 19 [(0, .ref h.2)] [.ref (h.2 + 2), .ref h.2] (hL h [.inr (9, [.ref (h.2 + 1), .null, .null, .null, .int 0, .int 0, .int 0, .int 0, .int 0, .int 0, .int 0, .long 0, .int 0, .int 0, .int 0, .null, .int 0, .int 0, .int 0, .int 0, .null, .null, .null, .int 0, .int 0, .null, .null, .null, .null]), .inl (0, 3015, .inl (fun _ => 0)), .inl (0, 3015, .inl (fun _ => 0))])
  refine v_putF tyX10 tyX10_ok nmX10 dX10_init_19 rfl (ci := 9) (k := 1) rfl i_X10 (by decide) fl_X10_13 rfl rfl rfl (tyX10_ok 1 (by decide)) rfl rfl (by simp) hB (hL_at0 rfl) ?_
  rw [hL_up0 (by simp)]
  show V l G yX10_init cX10_init 2 none (v_rm 2 12 10098) Qr 2 6030 22 [(0, .ref h.2)] [] (hL h [.inr (9, [.ref (h.2 + 1), .ref (h.2 + 2), .null, .null, .int 0, .int 0, .int 0, .int 0, .int 0, .int 0, .int 0, .long 0, .int 0, .int 0, .int 0, .null, .int 0, .int 0, .int 0, .int 0, .null, .null, .null, .int 0, .int 0, .null, .null, .null, .null]), .inl (0, 3015, .inl (fun _ => 0)), .inl (0, 3015, .inl (fun _ => 0))])
  refine v_aload_n 0 dX10_init_22 rfl rfl ?_
  refine v_sipush dX10_init_23 (by decide : _ = (2724 : Int32)) ?_
  refine v_newa (atype := .int) (ty := .int) (t := 0) (N := 2724) (a0 := (2724, .inl (fun _ => 0))) dX10_init_26 rfl ac_int rfl (fun C h => by cases h) (fun cA => rfl) (by decide) (by decide) (by decide) (by show _ ≤ 12; omega) (by show _ ≤ 10098; omega) ?_
  rw [hL_push]
  show V l G yX10_init cX10_init 2 none (v_rm 2 12 10098) Qr 3 8754 28 [(0, .ref h.2)] [.ref (h.2 + 3), .ref h.2] (hL h [.inr (9, [.ref (h.2 + 1), .ref (h.2 + 2), .null, .null, .int 0, .int 0, .int 0, .int 0, .int 0, .int 0, .int 0, .long 0, .int 0, .int 0, .int 0, .null, .int 0, .int 0, .int 0, .int 0, .null, .null, .null, .int 0, .int 0, .null, .null, .null, .null]), .inl (0, 3015, .inl (fun _ => 0)), .inl (0, 3015, .inl (fun _ => 0)), .inl (0, 2724, .inl (fun _ => 0))])
  refine v_putF tyX10 tyX10_ok nmX10 dX10_init_28 rfl (ci := 9) (k := 2) rfl i_X10 (by decide) fl_X10_16 rfl rfl rfl (tyX10_ok 2 (by decide)) rfl rfl (by simp) hB (hL_at0 rfl) ?_
  rw [hL_up0 (by simp)]
  show V l G yX10_init cX10_init 2 none (v_rm 2 12 10098) Qr 3 8754 31 [(0, .ref h.2)] [] (hL h [.inr (9, [.ref (h.2 + 1), .ref (h.2 + 2), .ref (h.2 + 3), .null, .int 0, .int 0, .int 0, .int 0, .int 0, .int 0, .int 0, .long 0, .int 0, .int 0, .int 0, .null, .int 0, .int 0, .int 0, .int 0, .null, .null, .null, .int 0, .int 0, .null, .null, .null, .null]), .inl (0, 3015, .inl (fun _ => 0)), .inl (0, 3015, .inl (fun _ => 0)), .inl (0, 2724, .inl (fun _ => 0))])
  refine v_aload_n 0 dX10_init_31 rfl rfl ?_
  refine v_sipush dX10_init_32 (by decide : _ = (300 : Int32)) ?_
  refine v_newa (atype := .int) (ty := .int) (t := 0) (N := 300) (a0 := (300, .inl (fun _ => 0))) dX10_init_35 rfl ac_int rfl (fun C h => by cases h) (fun cA => rfl) (by decide) (by decide) (by decide) (by show _ ≤ 12; omega) (by show _ ≤ 10098; omega) ?_
  rw [hL_push]
  show V l G yX10_init cX10_init 2 none (v_rm 2 12 10098) Qr 4 9054 37 [(0, .ref h.2)] [.ref (h.2 + 4), .ref h.2] (hL h [.inr (9, [.ref (h.2 + 1), .ref (h.2 + 2), .ref (h.2 + 3), .null, .int 0, .int 0, .int 0, .int 0, .int 0, .int 0, .int 0, .long 0, .int 0, .int 0, .int 0, .null, .int 0, .int 0, .int 0, .int 0, .null, .null, .null, .int 0, .int 0, .null, .null, .null, .null]), .inl (0, 3015, .inl (fun _ => 0)), .inl (0, 3015, .inl (fun _ => 0)), .inl (0, 2724, .inl (fun _ => 0)), .inl (0, 300, .inl (fun _ => 0))])
  refine v_putF tyX10 tyX10_ok nmX10 dX10_init_37 rfl (ci := 9) (k := 3) rfl i_X10 (by decide) fl_X10_19 rfl rfl rfl (tyX10_ok 3 (by decide)) rfl rfl (by simp) hB (hL_at0 rfl) ?_
  rw [hL_up0 (by simp)]
  show V l G yX10_init cX10_init 2 none (v_rm 2 12 10098) Qr 4 9054 40 [(0, .ref h.2)] [] (hL h [.inr (9, [.ref (h.2 + 1), .ref (h.2 + 2), .ref (h.2 + 3), .ref (h.2 + 4), .int 0, .int 0, .int 0, .int 0, .int 0, .int 0, .int 0, .long 0, .int 0, .int 0, .int 0, .null, .int 0, .int 0, .int 0, .int 0, .null, .null, .null, .int 0, .int 0, .null, .null, .null, .null]), .inl (0, 3015, .inl (fun _ => 0)), .inl (0, 3015, .inl (fun _ => 0)), .inl (0, 2724, .inl (fun _ => 0)), .inl (0, 300, .inl (fun _ => 0))])
  refine v_aload_n 0 dX10_init_40 rfl rfl ?_
  refine v_iconst dX10_init_41 (by decide : _ = (-1 : Int32)) ?_
  refine v_put tyX10 tyX10_ok nmX10 dX10_init_42 rfl (ci := 9) (k := 5) rfl i_X10 (by decide) fl_X10_22 rfl (tyX10_ok 5 (by decide)) rfl rfl (by simp) hB (hL_at0 rfl) ?_
  rw [hL_up0 (by simp)]
  show V l G yX10_init cX10_init 2 none (v_rm 2 12 10098) Qr 4 9054 45 [(0, .ref h.2)] [] (hL h [.inr (9, [.ref (h.2 + 1), .ref (h.2 + 2), .ref (h.2 + 3), .ref (h.2 + 4), .int 0, .int (-1 : Int32), .int 0, .int 0, .int 0, .int 0, .int 0, .long 0, .int 0, .int 0, .int 0, .null, .int 0, .int 0, .int 0, .int 0, .null, .null, .null, .int 0, .int 0, .null, .null, .null, .null]), .inl (0, 3015, .inl (fun _ => 0)), .inl (0, 3015, .inl (fun _ => 0)), .inl (0, 2724, .inl (fun _ => 0)), .inl (0, 300, .inl (fun _ => 0))])
  refine v_aload_n 0 dX10_init_45 rfl rfl ?_
  refine v_iconst dX10_init_46 (by decide : _ = (-1 : Int32)) ?_
  refine v_put tyX10 tyX10_ok nmX10 dX10_init_47 rfl (ci := 9) (k := 6) rfl i_X10 (by decide) fl_X10_26 rfl (tyX10_ok 6 (by decide)) rfl rfl (by simp) hB (hL_at0 rfl) ?_
  rw [hL_up0 (by simp)]
  show V l G yX10_init cX10_init 2 none (v_rm 2 12 10098) Qr 4 9054 50 [(0, .ref h.2)] [] (hL h [.inr (9, [.ref (h.2 + 1), .ref (h.2 + 2), .ref (h.2 + 3), .ref (h.2 + 4), .int 0, .int (-1 : Int32), .int (-1 : Int32), .int 0, .int 0, .int 0, .int 0, .long 0, .int 0, .int 0, .int 0, .null, .int 0, .int 0, .int 0, .int 0, .null, .null, .null, .int 0, .int 0, .null, .null, .null, .null]), .inl (0, 3015, .inl (fun _ => 0)), .inl (0, 3015, .inl (fun _ => 0)), .inl (0, 2724, .inl (fun _ => 0)), .inl (0, 300, .inl (fun _ => 0))])
  refine v_aload_n 0 dX10_init_50 rfl rfl ?_
  refine v_sipush dX10_init_51 (by decide : _ = (160 : Int32)) ?_
  refine v_newa (atype := .int) (ty := .int) (t := 0) (N := 160) (a0 := (160, .inl (fun _ => 0))) dX10_init_54 rfl ac_int rfl (fun C h => by cases h) (fun cA => rfl) (by decide) (by decide) (by decide) (by show _ ≤ 12; omega) (by show _ ≤ 10098; omega) ?_
  rw [hL_push]
  show V l G yX10_init cX10_init 2 none (v_rm 2 12 10098) Qr 5 9214 56 [(0, .ref h.2)] [.ref (h.2 + 5), .ref h.2] (hL h [.inr (9, [.ref (h.2 + 1), .ref (h.2 + 2), .ref (h.2 + 3), .ref (h.2 + 4), .int 0, .int (-1 : Int32), .int (-1 : Int32), .int 0, .int 0, .int 0, .int 0, .long 0, .int 0, .int 0, .int 0, .null, .int 0, .int 0, .int 0, .int 0, .null, .null, .null, .int 0, .int 0, .null, .null, .null, .null]), .inl (0, 3015, .inl (fun _ => 0)), .inl (0, 3015, .inl (fun _ => 0)), .inl (0, 2724, .inl (fun _ => 0)), .inl (0, 300, .inl (fun _ => 0)), .inl (0, 160, .inl (fun _ => 0))])
  refine v_putF tyX10 tyX10_ok nmX10 dX10_init_56 rfl (ci := 9) (k := 15) rfl i_X10 (by decide) fl_X10_29 rfl rfl rfl (tyX10_ok 15 (by decide)) rfl rfl (by simp) hB (hL_at0 rfl) ?_
  rw [hL_up0 (by simp)]
  show V l G yX10_init cX10_init 2 none (v_rm 2 12 10098) Qr 5 9214 59 [(0, .ref h.2)] [] (hL h [.inr (9, [.ref (h.2 + 1), .ref (h.2 + 2), .ref (h.2 + 3), .ref (h.2 + 4), .int 0, .int (-1 : Int32), .int (-1 : Int32), .int 0, .int 0, .int 0, .int 0, .long 0, .int 0, .int 0, .int 0, .ref (h.2 + 5), .int 0, .int 0, .int 0, .int 0, .null, .null, .null, .int 0, .int 0, .null, .null, .null, .null]), .inl (0, 3015, .inl (fun _ => 0)), .inl (0, 3015, .inl (fun _ => 0)), .inl (0, 2724, .inl (fun _ => 0)), .inl (0, 300, .inl (fun _ => 0)), .inl (0, 160, .inl (fun _ => 0))])
  refine v_aload_n 0 dX10_init_59 rfl rfl ?_
  refine v_bipush dX10_init_60 (by decide : _ = (8 : Int32)) ?_
  refine v_newa (atype := .int) (ty := .int) (t := 0) (N := 8) (a0 := (8, .inl (fun _ => 0))) dX10_init_62 rfl ac_int rfl (fun C h => by cases h) (fun cA => rfl) (by decide) (by decide) (by decide) (by show _ ≤ 12; omega) (by show _ ≤ 10098; omega) ?_
  rw [hL_push]
  show V l G yX10_init cX10_init 2 none (v_rm 2 12 10098) Qr 6 9222 64 [(0, .ref h.2)] [.ref (h.2 + 6), .ref h.2] (hL h [.inr (9, [.ref (h.2 + 1), .ref (h.2 + 2), .ref (h.2 + 3), .ref (h.2 + 4), .int 0, .int (-1 : Int32), .int (-1 : Int32), .int 0, .int 0, .int 0, .int 0, .long 0, .int 0, .int 0, .int 0, .ref (h.2 + 5), .int 0, .int 0, .int 0, .int 0, .null, .null, .null, .int 0, .int 0, .null, .null, .null, .null]), .inl (0, 3015, .inl (fun _ => 0)), .inl (0, 3015, .inl (fun _ => 0)), .inl (0, 2724, .inl (fun _ => 0)), .inl (0, 300, .inl (fun _ => 0)), .inl (0, 160, .inl (fun _ => 0)), .inl (0, 8, .inl (fun _ => 0))])
  refine v_putF tyX10 tyX10_ok nmX10 dX10_init_64 rfl (ci := 9) (k := 20) rfl i_X10 (by decide) fl_X10_32 rfl rfl rfl (tyX10_ok 20 (by decide)) rfl rfl (by simp) hB (hL_at0 rfl) ?_
  rw [hL_up0 (by simp)]
  show V l G yX10_init cX10_init 2 none (v_rm 2 12 10098) Qr 6 9222 67 [(0, .ref h.2)] [] (hL h [.inr (9, [.ref (h.2 + 1), .ref (h.2 + 2), .ref (h.2 + 3), .ref (h.2 + 4), .int 0, .int (-1 : Int32), .int (-1 : Int32), .int 0, .int 0, .int 0, .int 0, .long 0, .int 0, .int 0, .int 0, .ref (h.2 + 5), .int 0, .int 0, .int 0, .int 0, .ref (h.2 + 6), .null, .null, .int 0, .int 0, .null, .null, .null, .null]), .inl (0, 3015, .inl (fun _ => 0)), .inl (0, 3015, .inl (fun _ => 0)), .inl (0, 2724, .inl (fun _ => 0)), .inl (0, 300, .inl (fun _ => 0)), .inl (0, 160, .inl (fun _ => 0)), .inl (0, 8, .inl (fun _ => 0))])
  refine v_aload_n 0 dX10_init_67 rfl rfl ?_
  refine v_sipush dX10_init_68 (by decide : _ = (330 : Int32)) ?_
  refine v_newa (atype := .long) (ty := .long) (t := 1) (N := 330) (a0 := (330, .inr (.inl (fun _ => 0)))) dX10_init_71 rfl ac_long rfl (fun C h => by cases h) (fun cA => rfl) (by decide) (by decide) (by decide) (by show _ ≤ 12; omega) (by show _ ≤ 10098; omega) ?_
  rw [hL_push]
  show V l G yX10_init cX10_init 2 none (v_rm 2 12 10098) Qr 7 9552 73 [(0, .ref h.2)] [.ref (h.2 + 7), .ref h.2] (hL h [.inr (9, [.ref (h.2 + 1), .ref (h.2 + 2), .ref (h.2 + 3), .ref (h.2 + 4), .int 0, .int (-1 : Int32), .int (-1 : Int32), .int 0, .int 0, .int 0, .int 0, .long 0, .int 0, .int 0, .int 0, .ref (h.2 + 5), .int 0, .int 0, .int 0, .int 0, .ref (h.2 + 6), .null, .null, .int 0, .int 0, .null, .null, .null, .null]), .inl (0, 3015, .inl (fun _ => 0)), .inl (0, 3015, .inl (fun _ => 0)), .inl (0, 2724, .inl (fun _ => 0)), .inl (0, 300, .inl (fun _ => 0)), .inl (0, 160, .inl (fun _ => 0)), .inl (0, 8, .inl (fun _ => 0)), .inl (1, 330, .inr (.inl (fun _ => 0)))])
  refine v_putF tyX10 tyX10_ok nmX10 dX10_init_73 rfl (ci := 9) (k := 21) rfl i_X10 (by decide) fl_X10_35 rfl rfl rfl (tyX10_ok 21 (by decide)) rfl rfl (by simp) hB (hL_at0 rfl) ?_
  rw [hL_up0 (by simp)]
  show V l G yX10_init cX10_init 2 none (v_rm 2 12 10098) Qr 7 9552 76 [(0, .ref h.2)] [] (hL h [.inr (9, [.ref (h.2 + 1), .ref (h.2 + 2), .ref (h.2 + 3), .ref (h.2 + 4), .int 0, .int (-1 : Int32), .int (-1 : Int32), .int 0, .int 0, .int 0, .int 0, .long 0, .int 0, .int 0, .int 0, .ref (h.2 + 5), .int 0, .int 0, .int 0, .int 0, .ref (h.2 + 6), .ref (h.2 + 7), .null, .int 0, .int 0, .null, .null, .null, .null]), .inl (0, 3015, .inl (fun _ => 0)), .inl (0, 3015, .inl (fun _ => 0)), .inl (0, 2724, .inl (fun _ => 0)), .inl (0, 300, .inl (fun _ => 0)), .inl (0, 160, .inl (fun _ => 0)), .inl (0, 8, .inl (fun _ => 0)), .inl (1, 330, .inr (.inl (fun _ => 0)))])
  refine v_aload_n 0 dX10_init_76 rfl rfl ?_
  refine v_sipush dX10_init_77 (by decide : _ = (330 : Int32)) ?_
  refine v_newa (atype := .boolean) (ty := .boolean) (t := 2) (N := 330) (a0 := (330, .inl (fun _ => 0))) dX10_init_80 rfl ac_boolean rfl (fun C h => by cases h) (fun cA => rfl) (by decide) (by decide) (by decide) (by show _ ≤ 12; omega) (by show _ ≤ 10098; omega) ?_
  rw [hL_push]
  show V l G yX10_init cX10_init 2 none (v_rm 2 12 10098) Qr 8 9882 82 [(0, .ref h.2)] [.ref (h.2 + 8), .ref h.2] (hL h [.inr (9, [.ref (h.2 + 1), .ref (h.2 + 2), .ref (h.2 + 3), .ref (h.2 + 4), .int 0, .int (-1 : Int32), .int (-1 : Int32), .int 0, .int 0, .int 0, .int 0, .long 0, .int 0, .int 0, .int 0, .ref (h.2 + 5), .int 0, .int 0, .int 0, .int 0, .ref (h.2 + 6), .ref (h.2 + 7), .null, .int 0, .int 0, .null, .null, .null, .null]), .inl (0, 3015, .inl (fun _ => 0)), .inl (0, 3015, .inl (fun _ => 0)), .inl (0, 2724, .inl (fun _ => 0)), .inl (0, 300, .inl (fun _ => 0)), .inl (0, 160, .inl (fun _ => 0)), .inl (0, 8, .inl (fun _ => 0)), .inl (1, 330, .inr (.inl (fun _ => 0))), .inl (2, 330, .inl (fun _ => 0))])
  refine v_putF tyX10 tyX10_ok nmX10 dX10_init_82 rfl (ci := 9) (k := 22) rfl i_X10 (by decide) fl_X10_39 rfl rfl rfl (tyX10_ok 22 (by decide)) rfl rfl (by simp) hB (hL_at0 rfl) ?_
  rw [hL_up0 (by simp)]
  show V l G yX10_init cX10_init 2 none (v_rm 2 12 10098) Qr 8 9882 85 [(0, .ref h.2)] [] (hL h [.inr (9, [.ref (h.2 + 1), .ref (h.2 + 2), .ref (h.2 + 3), .ref (h.2 + 4), .int 0, .int (-1 : Int32), .int (-1 : Int32), .int 0, .int 0, .int 0, .int 0, .long 0, .int 0, .int 0, .int 0, .ref (h.2 + 5), .int 0, .int 0, .int 0, .int 0, .ref (h.2 + 6), .ref (h.2 + 7), .ref (h.2 + 8), .int 0, .int 0, .null, .null, .null, .null]), .inl (0, 3015, .inl (fun _ => 0)), .inl (0, 3015, .inl (fun _ => 0)), .inl (0, 2724, .inl (fun _ => 0)), .inl (0, 300, .inl (fun _ => 0)), .inl (0, 160, .inl (fun _ => 0)), .inl (0, 8, .inl (fun _ => 0)), .inl (1, 330, .inr (.inl (fun _ => 0))), .inl (2, 330, .inl (fun _ => 0))])
  refine v_aload_n 0 dX10_init_85 rfl rfl ?_
  refine v_iconst dX10_init_86 (by decide : _ = (1 : Int32)) ?_
  refine v_put tyX10 tyX10_ok nmX10 dX10_init_87 rfl (ci := 9) (k := 23) rfl i_X10 (by decide) fl_X10_43 rfl (tyX10_ok 23 (by decide)) rfl rfl (by simp) hB (hL_at0 rfl) ?_
  rw [hL_up0 (by simp)]
  show V l G yX10_init cX10_init 2 none (v_rm 2 12 10098) Qr 8 9882 90 [(0, .ref h.2)] [] (hL h [.inr (9, [.ref (h.2 + 1), .ref (h.2 + 2), .ref (h.2 + 3), .ref (h.2 + 4), .int 0, .int (-1 : Int32), .int (-1 : Int32), .int 0, .int 0, .int 0, .int 0, .long 0, .int 0, .int 0, .int 0, .ref (h.2 + 5), .int 0, .int 0, .int 0, .int 0, .ref (h.2 + 6), .ref (h.2 + 7), .ref (h.2 + 8), .int (1 : Int32), .int 0, .null, .null, .null, .null]), .inl (0, 3015, .inl (fun _ => 0)), .inl (0, 3015, .inl (fun _ => 0)), .inl (0, 2724, .inl (fun _ => 0)), .inl (0, 300, .inl (fun _ => 0)), .inl (0, 160, .inl (fun _ => 0)), .inl (0, 8, .inl (fun _ => 0)), .inl (1, 330, .inr (.inl (fun _ => 0))), .inl (2, 330, .inl (fun _ => 0))])
  refine v_aload_n 0 dX10_init_90 rfl rfl ?_
  refine v_bipush dX10_init_91 (by decide : _ = (41 : Int32)) ?_
  refine v_newa (atype := .int) (ty := .int) (t := 0) (N := 41) (a0 := (41, .inl (fun _ => 0))) dX10_init_93 rfl ac_int rfl (fun C h => by cases h) (fun cA => rfl) (by decide) (by decide) (by decide) (by show _ ≤ 12; omega) (by show _ ≤ 10098; omega) ?_
  rw [hL_push]
  show V l G yX10_init cX10_init 2 none (v_rm 2 12 10098) Qr 9 9923 95 [(0, .ref h.2)] [.ref (h.2 + 9), .ref h.2] (hL h [.inr (9, [.ref (h.2 + 1), .ref (h.2 + 2), .ref (h.2 + 3), .ref (h.2 + 4), .int 0, .int (-1 : Int32), .int (-1 : Int32), .int 0, .int 0, .int 0, .int 0, .long 0, .int 0, .int 0, .int 0, .ref (h.2 + 5), .int 0, .int 0, .int 0, .int 0, .ref (h.2 + 6), .ref (h.2 + 7), .ref (h.2 + 8), .int (1 : Int32), .int 0, .null, .null, .null, .null]), .inl (0, 3015, .inl (fun _ => 0)), .inl (0, 3015, .inl (fun _ => 0)), .inl (0, 2724, .inl (fun _ => 0)), .inl (0, 300, .inl (fun _ => 0)), .inl (0, 160, .inl (fun _ => 0)), .inl (0, 8, .inl (fun _ => 0)), .inl (1, 330, .inr (.inl (fun _ => 0))), .inl (2, 330, .inl (fun _ => 0)), .inl (0, 41, .inl (fun _ => 0))])
  refine v_putF tyX10 tyX10_ok nmX10 dX10_init_95 rfl (ci := 9) (k := 25) rfl i_X10 (by decide) fl_X10_47 rfl rfl rfl (tyX10_ok 25 (by decide)) rfl rfl (by simp) hB (hL_at0 rfl) ?_
  rw [hL_up0 (by simp)]
  show V l G yX10_init cX10_init 2 none (v_rm 2 12 10098) Qr 9 9923 98 [(0, .ref h.2)] [] (hL h [.inr (9, [.ref (h.2 + 1), .ref (h.2 + 2), .ref (h.2 + 3), .ref (h.2 + 4), .int 0, .int (-1 : Int32), .int (-1 : Int32), .int 0, .int 0, .int 0, .int 0, .long 0, .int 0, .int 0, .int 0, .ref (h.2 + 5), .int 0, .int 0, .int 0, .int 0, .ref (h.2 + 6), .ref (h.2 + 7), .ref (h.2 + 8), .int (1 : Int32), .int 0, .ref (h.2 + 9), .null, .null, .null]), .inl (0, 3015, .inl (fun _ => 0)), .inl (0, 3015, .inl (fun _ => 0)), .inl (0, 2724, .inl (fun _ => 0)), .inl (0, 300, .inl (fun _ => 0)), .inl (0, 160, .inl (fun _ => 0)), .inl (0, 8, .inl (fun _ => 0)), .inl (1, 330, .inr (.inl (fun _ => 0))), .inl (2, 330, .inl (fun _ => 0)), .inl (0, 41, .inl (fun _ => 0))])
  refine v_aload_n 0 dX10_init_98 rfl rfl ?_
  refine v_bipush dX10_init_99 (by decide : _ = (12 : Int32)) ?_
  refine v_newa (atype := .int) (ty := .int) (t := 0) (N := 12) (a0 := (12, .inl (fun _ => 0))) dX10_init_101 rfl ac_int rfl (fun C h => by cases h) (fun cA => rfl) (by decide) (by decide) (by decide) (by show _ ≤ 12; omega) (by show _ ≤ 10098; omega) ?_
  rw [hL_push]
  show V l G yX10_init cX10_init 2 none (v_rm 2 12 10098) Qr 10 9935 103 [(0, .ref h.2)] [.ref (h.2 + 10), .ref h.2] (hL h [.inr (9, [.ref (h.2 + 1), .ref (h.2 + 2), .ref (h.2 + 3), .ref (h.2 + 4), .int 0, .int (-1 : Int32), .int (-1 : Int32), .int 0, .int 0, .int 0, .int 0, .long 0, .int 0, .int 0, .int 0, .ref (h.2 + 5), .int 0, .int 0, .int 0, .int 0, .ref (h.2 + 6), .ref (h.2 + 7), .ref (h.2 + 8), .int (1 : Int32), .int 0, .ref (h.2 + 9), .null, .null, .null]), .inl (0, 3015, .inl (fun _ => 0)), .inl (0, 3015, .inl (fun _ => 0)), .inl (0, 2724, .inl (fun _ => 0)), .inl (0, 300, .inl (fun _ => 0)), .inl (0, 160, .inl (fun _ => 0)), .inl (0, 8, .inl (fun _ => 0)), .inl (1, 330, .inr (.inl (fun _ => 0))), .inl (2, 330, .inl (fun _ => 0)), .inl (0, 41, .inl (fun _ => 0)), .inl (0, 12, .inl (fun _ => 0))])
  refine v_putF tyX10 tyX10_ok nmX10 dX10_init_103 rfl (ci := 9) (k := 26) rfl i_X10 (by decide) fl_X10_50 rfl rfl rfl (tyX10_ok 26 (by decide)) rfl rfl (by simp) hB (hL_at0 rfl) ?_
  rw [hL_up0 (by simp)]
  show V l G yX10_init cX10_init 2 none (v_rm 2 12 10098) Qr 10 9935 106 [(0, .ref h.2)] [] (hL h [.inr (9, [.ref (h.2 + 1), .ref (h.2 + 2), .ref (h.2 + 3), .ref (h.2 + 4), .int 0, .int (-1 : Int32), .int (-1 : Int32), .int 0, .int 0, .int 0, .int 0, .long 0, .int 0, .int 0, .int 0, .ref (h.2 + 5), .int 0, .int 0, .int 0, .int 0, .ref (h.2 + 6), .ref (h.2 + 7), .ref (h.2 + 8), .int (1 : Int32), .int 0, .ref (h.2 + 9), .ref (h.2 + 10), .null, .null]), .inl (0, 3015, .inl (fun _ => 0)), .inl (0, 3015, .inl (fun _ => 0)), .inl (0, 2724, .inl (fun _ => 0)), .inl (0, 300, .inl (fun _ => 0)), .inl (0, 160, .inl (fun _ => 0)), .inl (0, 8, .inl (fun _ => 0)), .inl (1, 330, .inr (.inl (fun _ => 0))), .inl (2, 330, .inl (fun _ => 0)), .inl (0, 41, .inl (fun _ => 0)), .inl (0, 12, .inl (fun _ => 0))])
  refine v_aload_n 0 dX10_init_106 rfl rfl ?_
  refine v_sipush dX10_init_107 (by decide : _ = (144 : Int32)) ?_
  refine v_newa (atype := .int) (ty := .int) (t := 0) (N := 144) (a0 := (144, .inl (fun _ => 0))) dX10_init_110 rfl ac_int rfl (fun C h => by cases h) (fun cA => rfl) (by decide) (by decide) (by decide) (by show _ ≤ 12; omega) (by show _ ≤ 10098; omega) ?_
  rw [hL_push]
  show V l G yX10_init cX10_init 2 none (v_rm 2 12 10098) Qr 11 10079 112 [(0, .ref h.2)] [.ref (h.2 + 11), .ref h.2] (hL h [.inr (9, [.ref (h.2 + 1), .ref (h.2 + 2), .ref (h.2 + 3), .ref (h.2 + 4), .int 0, .int (-1 : Int32), .int (-1 : Int32), .int 0, .int 0, .int 0, .int 0, .long 0, .int 0, .int 0, .int 0, .ref (h.2 + 5), .int 0, .int 0, .int 0, .int 0, .ref (h.2 + 6), .ref (h.2 + 7), .ref (h.2 + 8), .int (1 : Int32), .int 0, .ref (h.2 + 9), .ref (h.2 + 10), .null, .null]), .inl (0, 3015, .inl (fun _ => 0)), .inl (0, 3015, .inl (fun _ => 0)), .inl (0, 2724, .inl (fun _ => 0)), .inl (0, 300, .inl (fun _ => 0)), .inl (0, 160, .inl (fun _ => 0)), .inl (0, 8, .inl (fun _ => 0)), .inl (1, 330, .inr (.inl (fun _ => 0))), .inl (2, 330, .inl (fun _ => 0)), .inl (0, 41, .inl (fun _ => 0)), .inl (0, 12, .inl (fun _ => 0)), .inl (0, 144, .inl (fun _ => 0))])
  refine v_putF tyX10 tyX10_ok nmX10 dX10_init_112 rfl (ci := 9) (k := 27) rfl i_X10 (by decide) fl_X10_53 rfl rfl rfl (tyX10_ok 27 (by decide)) rfl rfl (by simp) hB (hL_at0 rfl) ?_
  rw [hL_up0 (by simp)]
  show V l G yX10_init cX10_init 2 none (v_rm 2 12 10098) Qr 11 10079 115 [(0, .ref h.2)] [] (hL h [.inr (9, [.ref (h.2 + 1), .ref (h.2 + 2), .ref (h.2 + 3), .ref (h.2 + 4), .int 0, .int (-1 : Int32), .int (-1 : Int32), .int 0, .int 0, .int 0, .int 0, .long 0, .int 0, .int 0, .int 0, .ref (h.2 + 5), .int 0, .int 0, .int 0, .int 0, .ref (h.2 + 6), .ref (h.2 + 7), .ref (h.2 + 8), .int (1 : Int32), .int 0, .ref (h.2 + 9), .ref (h.2 + 10), .ref (h.2 + 11), .null]), .inl (0, 3015, .inl (fun _ => 0)), .inl (0, 3015, .inl (fun _ => 0)), .inl (0, 2724, .inl (fun _ => 0)), .inl (0, 300, .inl (fun _ => 0)), .inl (0, 160, .inl (fun _ => 0)), .inl (0, 8, .inl (fun _ => 0)), .inl (1, 330, .inr (.inl (fun _ => 0))), .inl (2, 330, .inl (fun _ => 0)), .inl (0, 41, .inl (fun _ => 0)), .inl (0, 12, .inl (fun _ => 0)), .inl (0, 144, .inl (fun _ => 0))])
  refine v_aload_n 0 dX10_init_115 rfl rfl ?_
  refine v_bipush dX10_init_116 (by decide : _ = (19 : Int32)) ?_
  refine v_newa (atype := .int) (ty := .int) (t := 0) (N := 19) (a0 := (19, .inl (fun _ => 0))) dX10_init_118 rfl ac_int rfl (fun C h => by cases h) (fun cA => rfl) (by decide) (by decide) (by decide) (by show _ ≤ 12; omega) (by show _ ≤ 10098; omega) ?_
  rw [hL_push]
  show V l G yX10_init cX10_init 2 none (v_rm 2 12 10098) Qr 12 10098 120 [(0, .ref h.2)] [.ref (h.2 + 12), .ref h.2] (hL h [.inr (9, [.ref (h.2 + 1), .ref (h.2 + 2), .ref (h.2 + 3), .ref (h.2 + 4), .int 0, .int (-1 : Int32), .int (-1 : Int32), .int 0, .int 0, .int 0, .int 0, .long 0, .int 0, .int 0, .int 0, .ref (h.2 + 5), .int 0, .int 0, .int 0, .int 0, .ref (h.2 + 6), .ref (h.2 + 7), .ref (h.2 + 8), .int (1 : Int32), .int 0, .ref (h.2 + 9), .ref (h.2 + 10), .ref (h.2 + 11), .null]), .inl (0, 3015, .inl (fun _ => 0)), .inl (0, 3015, .inl (fun _ => 0)), .inl (0, 2724, .inl (fun _ => 0)), .inl (0, 300, .inl (fun _ => 0)), .inl (0, 160, .inl (fun _ => 0)), .inl (0, 8, .inl (fun _ => 0)), .inl (1, 330, .inr (.inl (fun _ => 0))), .inl (2, 330, .inl (fun _ => 0)), .inl (0, 41, .inl (fun _ => 0)), .inl (0, 12, .inl (fun _ => 0)), .inl (0, 144, .inl (fun _ => 0)), .inl (0, 19, .inl (fun _ => 0))])
  refine v_putF tyX10 tyX10_ok nmX10 dX10_init_120 rfl (ci := 9) (k := 28) rfl i_X10 (by decide) fl_X10_56 rfl rfl rfl (tyX10_ok 28 (by decide)) rfl rfl (by simp) hB (hL_at0 rfl) ?_
  rw [hL_up0 (by simp)]
  show V l G yX10_init cX10_init 2 none (v_rm 2 12 10098) Qr 12 10098 123 [(0, .ref h.2)] [] (hL h [.inr (9, [.ref (h.2 + 1), .ref (h.2 + 2), .ref (h.2 + 3), .ref (h.2 + 4), .int 0, .int (-1 : Int32), .int (-1 : Int32), .int 0, .int 0, .int 0, .int 0, .long 0, .int 0, .int 0, .int 0, .ref (h.2 + 5), .int 0, .int 0, .int 0, .int 0, .ref (h.2 + 6), .ref (h.2 + 7), .ref (h.2 + 8), .int (1 : Int32), .int 0, .ref (h.2 + 9), .ref (h.2 + 10), .ref (h.2 + 11), .ref (h.2 + 12)]), .inl (0, 3015, .inl (fun _ => 0)), .inl (0, 3015, .inl (fun _ => 0)), .inl (0, 2724, .inl (fun _ => 0)), .inl (0, 300, .inl (fun _ => 0)), .inl (0, 160, .inl (fun _ => 0)), .inl (0, 8, .inl (fun _ => 0)), .inl (1, 330, .inr (.inl (fun _ => 0))), .inl (2, 330, .inl (fun _ => 0)), .inl (0, 41, .inl (fun _ => 0)), .inl (0, 12, .inl (fun _ => 0)), .inl (0, 144, .inl (fun _ => 0)), .inl (0, 19, .inl (fun _ => 0))])
  exact kk
set_option maxRecDepth 100000 in
set_option maxHeartbeats 4000000 in
theorem t_X10_init {l : Launch} {G : v_G} {N : Nat} {r : St} (hh : f_X10_initb N S00 = some r) : v_M l G yX10_init cX10_init 2 none 2 12 10098 [.ref (v_B G + 291)] (hL (hL (hB0 G) (ROL (v_B G) (v_tN G))) [.inr (9, [.null, .null, .null, .null, .int 0, .int 0, .int 0, .int 0, .int 0, .int 0, .int 0, .long 0, .int 0, .int 0, .int 0, .null, .int 0, .int 0, .int 0, .int 0, .null, .null, .null, .int 0, .int 0, .null, .null, .null, .null])]) (QV (lay G r)) := by
  refine v_entry (by decide) (Nat.le_of_ble_eq_true rfl) ?_
  have hz : (hL (hB0 G) (ROL (v_B G) (v_tN G))).2 = v_B G + 291 := by
    show v_B G + (ROL (v_B G) (v_tN G)).length = _
    unfold ROL
    simp only [List.length_cons, List.length_append, WL_len, TrL_len, List.length_nil, RuL, ShL, TaL, ReL]
  have k := mo_1 (l := l) (G := G) (h := hL (hB0 G) (ROL (v_B G) (v_tN G))) (Qr := QV (lay G r)) (by rw [hz]; omega) (by
    rw [hz, hL_app]
    exact v_conv (fun H hR => lay_init hR) (t_X10_initb hh))
  rw [hz] at k
  exact k
