def f_J6_bitCount_0f7a4  (S : St) (x0 : Int32) : Option (Int32) :=
  lt (x0 - (((x0.toUInt32 >>> ((1 : Int32).toUInt32 &&& Int32.toUInt32 31)).toInt32) &&& (1431655765 : Int32))) fun v1 =>
  lt ((v1 &&& (858993459 : Int32)) + (((v1.toUInt32 >>> ((2 : Int32).toUInt32 &&& Int32.toUInt32 31)).toInt32) &&& (858993459 : Int32))) fun v2 =>
  lt ((v2 + ((v2.toUInt32 >>> ((4 : Int32).toUInt32 &&& Int32.toUInt32 31)).toInt32)) &&& (252645135 : Int32)) fun v3 =>
  lt (v3 + ((v3.toUInt32 >>> ((8 : Int32).toUInt32 &&& Int32.toUInt32 31)).toInt32)) fun v4 =>
  lt (v4 + ((v4.toUInt32 >>> ((16 : Int32).toUInt32 &&& Int32.toUInt32 31)).toInt32)) fun v5 =>
  some (v5 &&& (63 : Int32))
set_option maxRecDepth 100000 in
set_option maxHeartbeats 4000000 in
theorem t_J6_bitCount_0f7a4 {l : Launch} {G : v_G} {S : St}   {x0 : Int32} {r : Int32} (hh : f_J6_bitCount_0f7a4  S x0 = some r) : v_M l G yJ6_bitCount_0f7a4 cJ6_bitCount_0f7a4 1 (some .int) 0 0 0 [.int x0] (lay G S) (QI r (lay G S)) := by
  refine v_entry (by decide) (Nat.le_of_ble_eq_true rfl) ?_
  unfold f_J6_bitCount_0f7a4 at hh
  show V l G yJ6_bitCount_0f7a4 cJ6_bitCount_0f7a4 1 (some .int) (v_rm 0 0 0) (QI r (lay G S)) 0 0 0 [(0, .int x0)] [] (lay G S)
  refine v_iload_n 0 dJ6_bitCount_0f7a4_0 rfl rfl ?_
  refine v_iload_n 0 dJ6_bitCount_0f7a4_1 rfl rfl ?_
  refine v_iconst dJ6_bitCount_0f7a4_2 (by decide : _ = (1 : Int32)) ?_
  refine v_iushr dJ6_bitCount_0f7a4_3 ?_
  refine v_ldcw dJ6_bitCount_0f7a4_4 co_Integer_265 ?_
  refine v_iand dJ6_bitCount_0f7a4_7 ?_
  refine v_isub dJ6_bitCount_0f7a4_8 ?_
  refine v_istore_n dJ6_bitCount_0f7a4_9 rfl (by decide) rfl ?_
  replace hh := lt_of hh
  refine v_iload_n 0 dJ6_bitCount_0f7a4_10 rfl rfl ?_
  refine v_ldcw dJ6_bitCount_0f7a4_11 co_Integer_266 ?_
  refine v_iand dJ6_bitCount_0f7a4_14 ?_
  refine v_iload_n 0 dJ6_bitCount_0f7a4_15 rfl rfl ?_
  refine v_iconst dJ6_bitCount_0f7a4_16 (by decide : _ = (2 : Int32)) ?_
  refine v_iushr dJ6_bitCount_0f7a4_17 ?_
  refine v_ldcw dJ6_bitCount_0f7a4_18 co_Integer_266 ?_
  refine v_iand dJ6_bitCount_0f7a4_21 ?_
  refine v_iadd dJ6_bitCount_0f7a4_22 ?_
  refine v_istore_n dJ6_bitCount_0f7a4_23 rfl (by decide) rfl ?_
  replace hh := lt_of hh
  refine v_iload_n 0 dJ6_bitCount_0f7a4_24 rfl rfl ?_
  refine v_iload_n 0 dJ6_bitCount_0f7a4_25 rfl rfl ?_
  refine v_iconst dJ6_bitCount_0f7a4_26 (by decide : _ = (4 : Int32)) ?_
  refine v_iushr dJ6_bitCount_0f7a4_27 ?_
  refine v_iadd dJ6_bitCount_0f7a4_28 ?_
  refine v_ldcw dJ6_bitCount_0f7a4_29 co_Integer_267 ?_
  refine v_iand dJ6_bitCount_0f7a4_32 ?_
  refine v_istore_n dJ6_bitCount_0f7a4_33 rfl (by decide) rfl ?_
  replace hh := lt_of hh
  refine v_iload_n 0 dJ6_bitCount_0f7a4_34 rfl rfl ?_
  refine v_iload_n 0 dJ6_bitCount_0f7a4_35 rfl rfl ?_
  refine v_bipush dJ6_bitCount_0f7a4_36 (by decide : _ = (8 : Int32)) ?_
  refine v_iushr dJ6_bitCount_0f7a4_38 ?_
  refine v_iadd dJ6_bitCount_0f7a4_39 ?_
  refine v_istore_n dJ6_bitCount_0f7a4_40 rfl (by decide) rfl ?_
  replace hh := lt_of hh
  refine v_iload_n 0 dJ6_bitCount_0f7a4_41 rfl rfl ?_
  refine v_iload_n 0 dJ6_bitCount_0f7a4_42 rfl rfl ?_
  refine v_bipush dJ6_bitCount_0f7a4_43 (by decide : _ = (16 : Int32)) ?_
  refine v_iushr dJ6_bitCount_0f7a4_45 ?_
  refine v_iadd dJ6_bitCount_0f7a4_46 ?_
  refine v_istore_n dJ6_bitCount_0f7a4_47 rfl (by decide) rfl ?_
  replace hh := lt_of hh
  refine v_iload_n 0 dJ6_bitCount_0f7a4_48 rfl rfl ?_
  refine v_bipush dJ6_bitCount_0f7a4_49 (by decide : _ = (63 : Int32)) ?_
  refine v_iand dJ6_bitCount_0f7a4_51 ?_
  obtain rfl := Option.some.inj hh
  exact v_iret dJ6_bitCount_0f7a4_52 rfl (Nat.zero_le _) (Nat.zero_le _) ⟨rfl, rfl⟩
