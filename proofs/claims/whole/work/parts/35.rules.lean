def f_X2_joined  (S : St) (x0 : Int32) (x1 : Int64) (x3 : Int64) : Option (Int64) :=
  if x0 = (24 : Int32) then
  (some (x1 ||| x3))
  else if x0 = (25 : Int32) then
  (some (x1 &&& x3))
  else if x0 = (26 : Int32) then
  (if (0 : Int32) < (lg_cmp x1 x3) then
  (some (0 : Int64))
  else
  (some (1 : Int64)))
  else if x0 = (27 : Int32) then
  (if (lg_cmp x1 x3) < (0 : Int32) then
  (some (0 : Int64))
  else
  (some (1 : Int64)))
  else if x0 = (28 : Int32) then
  (if (0 : Int32) ≤ (lg_cmp x1 x3) then
  (some (0 : Int64))
  else
  (some (1 : Int64)))
  else if x0 = (29 : Int32) then
  (if (lg_cmp x1 x3) ≤ (0 : Int32) then
  (some (0 : Int64))
  else
  (some (1 : Int64)))
  else if x0 = (30 : Int32) then
  (if (lg_cmp x1 x3) = (0 : Int32) then
  (some (1 : Int64))
  else
  (some (0 : Int64)))
  else if x0 = (31 : Int32) then
  (if (lg_cmp x1 x3) = (0 : Int32) then
  (some (0 : Int64))
  else
  (some (1 : Int64)))
  else if x0 = (32 : Int32) then
  (some (x1 + x3))
  else if x0 = (33 : Int32) then
  (some (x1 - x3))
  else if x0 = (34 : Int32) then
  (some (x1 * x3))
  else (if (lg_cmp x3 (0 : Int64)) = (0 : Int32) then
  (some (0 : Int64))
  else
  (chk (nzL x3) (
  some (x1 / x3))))
set_option maxRecDepth 100000 in
set_option maxHeartbeats 4000000 in
theorem t_X2_joined {l : Launch} {G : v_G} {S : St}   {x0 : Int32} {x1 : Int64} {x3 : Int64} {r : Int64} (hh : f_X2_joined  S x0 x1 x3 = some r) : v_M l G yX2_joined cX2_joined 5 (some .long) 0 0 0 [.int x0, .long x1, .long x3] (lay G S) (QL r (lay G S)) := by
  refine v_entry (by decide) (Nat.le_of_ble_eq_true rfl) ?_
  unfold f_X2_joined at hh
  show V l G yX2_joined cX2_joined 5 (some .long) (v_rm 0 0 0) (QL r (lay G S)) 0 0 0 [(0, .int x0), (1, .long x1), (3, .long x3)] [] (lay G S)
  refine v_iload_n 0 dX2_joined_0 rfl rfl ?_
  refine sw_if hh (fun c0 hh => ?_) (fun c0 hh => ?_)
  · skip
    refine v_tableIn (tgt := 60) dX2_joined_1 (by rw [c0]; decide) (by rw [c0]; decide) (by rw [c0] <;> rfl) (by decide) ?_
    refine v_lload_n 1 dX2_joined_60 rfl rfl ?_
    refine v_lload_n 2 dX2_joined_61 rfl rfl ?_
    refine v_lor dX2_joined_62 ?_
    obtain rfl := Option.some.inj hh
    exact v_lret dX2_joined_63 rfl (Nat.zero_le _) (Nat.zero_le _) ⟨rfl, rfl⟩
  · skip
    refine sw_if hh (fun c1 hh => ?_) (fun c1 hh => ?_)
    · skip
      refine v_tableIn (tgt := 64) dX2_joined_1 (by rw [c1]; decide) (by rw [c1]; decide) (by rw [c1] <;> rfl) (by decide) ?_
      refine v_lload_n 1 dX2_joined_64 rfl rfl ?_
      refine v_lload_n 2 dX2_joined_65 rfl rfl ?_
      refine v_land dX2_joined_66 ?_
      obtain rfl := Option.some.inj hh
      exact v_lret dX2_joined_67 rfl (Nat.zero_le _) (Nat.zero_le _) ⟨rfl, rfl⟩
    · skip
      refine sw_if hh (fun c2 hh => ?_) (fun c2 hh => ?_)
      · skip
        refine v_tableIn (tgt := 68) dX2_joined_1 (by rw [c2]; decide) (by rw [c2]; decide) (by rw [c2] <;> rfl) (by decide) ?_
        refine v_lload_n 1 dX2_joined_68 rfl rfl ?_
        refine v_lload_n 2 dX2_joined_69 rfl rfl ?_
        refine v_lcmp dX2_joined_70 ?_
        refine v_if_gt (tgt := 78) dX2_joined_71 (by decide) (fun c => ?_) (fun c => ?_)
        · replace hh := (if_pos c).symm.trans hh
          refine v_lconst dX2_joined_78 (by decide : _ = (0 : Int64)) ?_
          obtain rfl := Option.some.inj hh
          exact v_lret dX2_joined_79 rfl (Nat.zero_le _) (Nat.zero_le _) ⟨rfl, rfl⟩
        · replace hh := (if_neg c).symm.trans hh
          refine v_lconst dX2_joined_74 (by decide : _ = (1 : Int64)) ?_
          refine v_goto (tgt := 79) dX2_joined_75 (by decide) ?_
          obtain rfl := Option.some.inj hh
          exact v_lret dX2_joined_79 rfl (Nat.zero_le _) (Nat.zero_le _) ⟨rfl, rfl⟩
      · skip
        refine sw_if hh (fun c3 hh => ?_) (fun c3 hh => ?_)
        · skip
          refine v_tableIn (tgt := 80) dX2_joined_1 (by rw [c3]; decide) (by rw [c3]; decide) (by rw [c3] <;> rfl) (by decide) ?_
          refine v_lload_n 1 dX2_joined_80 rfl rfl ?_
          refine v_lload_n 2 dX2_joined_81 rfl rfl ?_
          refine v_lcmp dX2_joined_82 ?_
          refine v_if_lt (tgt := 90) dX2_joined_83 (by decide) (fun c => ?_) (fun c => ?_)
          · replace hh := (if_pos c).symm.trans hh
            refine v_lconst dX2_joined_90 (by decide : _ = (0 : Int64)) ?_
            obtain rfl := Option.some.inj hh
            exact v_lret dX2_joined_91 rfl (Nat.zero_le _) (Nat.zero_le _) ⟨rfl, rfl⟩
          · replace hh := (if_neg c).symm.trans hh
            refine v_lconst dX2_joined_86 (by decide : _ = (1 : Int64)) ?_
            refine v_goto (tgt := 91) dX2_joined_87 (by decide) ?_
            obtain rfl := Option.some.inj hh
            exact v_lret dX2_joined_91 rfl (Nat.zero_le _) (Nat.zero_le _) ⟨rfl, rfl⟩
        · skip
          refine sw_if hh (fun c4 hh => ?_) (fun c4 hh => ?_)
          · skip
            refine v_tableIn (tgt := 92) dX2_joined_1 (by rw [c4]; decide) (by rw [c4]; decide) (by rw [c4] <;> rfl) (by decide) ?_
            refine v_lload_n 1 dX2_joined_92 rfl rfl ?_
            refine v_lload_n 2 dX2_joined_93 rfl rfl ?_
            refine v_lcmp dX2_joined_94 ?_
            refine v_if_ge (tgt := 102) dX2_joined_95 (by decide) (fun c => ?_) (fun c => ?_)
            · replace hh := (if_pos c).symm.trans hh
              refine v_lconst dX2_joined_102 (by decide : _ = (0 : Int64)) ?_
              obtain rfl := Option.some.inj hh
              exact v_lret dX2_joined_103 rfl (Nat.zero_le _) (Nat.zero_le _) ⟨rfl, rfl⟩
            · replace hh := (if_neg c).symm.trans hh
              refine v_lconst dX2_joined_98 (by decide : _ = (1 : Int64)) ?_
              refine v_goto (tgt := 103) dX2_joined_99 (by decide) ?_
              obtain rfl := Option.some.inj hh
              exact v_lret dX2_joined_103 rfl (Nat.zero_le _) (Nat.zero_le _) ⟨rfl, rfl⟩
          · skip
            refine sw_if hh (fun c5 hh => ?_) (fun c5 hh => ?_)
            · skip
              refine v_tableIn (tgt := 104) dX2_joined_1 (by rw [c5]; decide) (by rw [c5]; decide) (by rw [c5] <;> rfl) (by decide) ?_
              refine v_lload_n 1 dX2_joined_104 rfl rfl ?_
              refine v_lload_n 2 dX2_joined_105 rfl rfl ?_
              refine v_lcmp dX2_joined_106 ?_
              refine v_if_le (tgt := 114) dX2_joined_107 (by decide) (fun c => ?_) (fun c => ?_)
              · replace hh := (if_pos c).symm.trans hh
                refine v_lconst dX2_joined_114 (by decide : _ = (0 : Int64)) ?_
                obtain rfl := Option.some.inj hh
                exact v_lret dX2_joined_115 rfl (Nat.zero_le _) (Nat.zero_le _) ⟨rfl, rfl⟩
              · replace hh := (if_neg c).symm.trans hh
                refine v_lconst dX2_joined_110 (by decide : _ = (1 : Int64)) ?_
                refine v_goto (tgt := 115) dX2_joined_111 (by decide) ?_
                obtain rfl := Option.some.inj hh
                exact v_lret dX2_joined_115 rfl (Nat.zero_le _) (Nat.zero_le _) ⟨rfl, rfl⟩
            · skip
              refine sw_if hh (fun c6 hh => ?_) (fun c6 hh => ?_)
              · skip
                refine v_tableIn (tgt := 116) dX2_joined_1 (by rw [c6]; decide) (by rw [c6]; decide) (by rw [c6] <;> rfl) (by decide) ?_
                refine v_lload_n 1 dX2_joined_116 rfl rfl ?_
                refine v_lload_n 2 dX2_joined_117 rfl rfl ?_
                refine v_lcmp dX2_joined_118 ?_
                refine v_if_ne (tgt := 126) dX2_joined_119 (by decide) (fun c => ?_) (fun c => ?_)
                · replace hh := (if_neg c).symm.trans hh
                  refine v_lconst dX2_joined_126 (by decide : _ = (0 : Int64)) ?_
                  obtain rfl := Option.some.inj hh
                  exact v_lret dX2_joined_127 rfl (Nat.zero_le _) (Nat.zero_le _) ⟨rfl, rfl⟩
                · replace hh := (if_pos c).symm.trans hh
                  refine v_lconst dX2_joined_122 (by decide : _ = (1 : Int64)) ?_
                  refine v_goto (tgt := 127) dX2_joined_123 (by decide) ?_
                  obtain rfl := Option.some.inj hh
                  exact v_lret dX2_joined_127 rfl (Nat.zero_le _) (Nat.zero_le _) ⟨rfl, rfl⟩
              · skip
                refine sw_if hh (fun c7 hh => ?_) (fun c7 hh => ?_)
                · skip
                  refine v_tableIn (tgt := 128) dX2_joined_1 (by rw [c7]; decide) (by rw [c7]; decide) (by rw [c7] <;> rfl) (by decide) ?_
                  refine v_lload_n 1 dX2_joined_128 rfl rfl ?_
                  refine v_lload_n 2 dX2_joined_129 rfl rfl ?_
                  refine v_lcmp dX2_joined_130 ?_
                  refine v_if_eq (tgt := 138) dX2_joined_131 (by decide) (fun c => ?_) (fun c => ?_)
                  · replace hh := (if_pos c).symm.trans hh
                    refine v_lconst dX2_joined_138 (by decide : _ = (0 : Int64)) ?_
                    obtain rfl := Option.some.inj hh
                    exact v_lret dX2_joined_139 rfl (Nat.zero_le _) (Nat.zero_le _) ⟨rfl, rfl⟩
                  · replace hh := (if_neg c).symm.trans hh
                    refine v_lconst dX2_joined_134 (by decide : _ = (1 : Int64)) ?_
                    refine v_goto (tgt := 139) dX2_joined_135 (by decide) ?_
                    obtain rfl := Option.some.inj hh
                    exact v_lret dX2_joined_139 rfl (Nat.zero_le _) (Nat.zero_le _) ⟨rfl, rfl⟩
                · skip
                  refine sw_if hh (fun c8 hh => ?_) (fun c8 hh => ?_)
                  · skip
                    refine v_tableIn (tgt := 140) dX2_joined_1 (by rw [c8]; decide) (by rw [c8]; decide) (by rw [c8] <;> rfl) (by decide) ?_
                    refine v_lload_n 1 dX2_joined_140 rfl rfl ?_
                    refine v_lload_n 2 dX2_joined_141 rfl rfl ?_
                    refine v_ladd dX2_joined_142 ?_
                    obtain rfl := Option.some.inj hh
                    exact v_lret dX2_joined_143 rfl (Nat.zero_le _) (Nat.zero_le _) ⟨rfl, rfl⟩
                  · skip
                    refine sw_if hh (fun c9 hh => ?_) (fun c9 hh => ?_)
                    · skip
                      refine v_tableIn (tgt := 144) dX2_joined_1 (by rw [c9]; decide) (by rw [c9]; decide) (by rw [c9] <;> rfl) (by decide) ?_
                      refine v_lload_n 1 dX2_joined_144 rfl rfl ?_
                      refine v_lload_n 2 dX2_joined_145 rfl rfl ?_
                      refine v_lsub dX2_joined_146 ?_
                      obtain rfl := Option.some.inj hh
                      exact v_lret dX2_joined_147 rfl (Nat.zero_le _) (Nat.zero_le _) ⟨rfl, rfl⟩
                    · skip
                      refine sw_if hh (fun c10 hh => ?_) (fun c10 hh => ?_)
                      · skip
                        refine v_tableIn (tgt := 148) dX2_joined_1 (by rw [c10]; decide) (by rw [c10]; decide) (by rw [c10] <;> rfl) (by decide) ?_
                        refine v_lload_n 1 dX2_joined_148 rfl rfl ?_
                        refine v_lload_n 2 dX2_joined_149 rfl rfl ?_
                        refine v_lmul dX2_joined_150 ?_
                        obtain rfl := Option.some.inj hh
                        exact v_lret dX2_joined_151 rfl (Nat.zero_le _) (Nat.zero_le _) ⟨rfl, rfl⟩
                      · skip
                        refine v_tableOut (tgt := 152) dX2_joined_1 (sw_out 11 (by decide) (fun k hk => match k, hk with | 0, _ => fun h => c0 (h.trans (by decide)) | 1, _ => fun h => c1 (h.trans (by decide)) | 2, _ => fun h => c2 (h.trans (by decide)) | 3, _ => fun h => c3 (h.trans (by decide)) | 4, _ => fun h => c4 (h.trans (by decide)) | 5, _ => fun h => c5 (h.trans (by decide)) | 6, _ => fun h => c6 (h.trans (by decide)) | 7, _ => fun h => c7 (h.trans (by decide)) | 8, _ => fun h => c8 (h.trans (by decide)) | 9, _ => fun h => c9 (h.trans (by decide)) | 10, _ => fun h => c10 (h.trans (by decide)) | k + 11, hk => absurd hk (by omega))) (by decide) ?_
                        refine v_lload_n 2 dX2_joined_152 rfl rfl ?_
                        refine v_lconst dX2_joined_153 (by decide : _ = (0 : Int64)) ?_
                        refine v_lcmp dX2_joined_154 ?_
                        refine v_if_ne (tgt := 162) dX2_joined_155 (by decide) (fun c => ?_) (fun c => ?_)
                        · replace hh := (if_neg c).symm.trans hh
                          refine v_lload_n 1 dX2_joined_162 rfl rfl ?_
                          refine v_lload_n 2 dX2_joined_163 rfl rfl ?_
                          obtain ⟨g, hh⟩ := chk_some hh
                          refine v_ldiv dX2_joined_164 (nzL_ne g) ?_
                          obtain rfl := Option.some.inj hh
                          exact v_lret dX2_joined_165 rfl (Nat.zero_le _) (Nat.zero_le _) ⟨rfl, rfl⟩
                        · replace hh := (if_pos c).symm.trans hh
                          refine v_lconst dX2_joined_158 (by decide : _ = (0 : Int64)) ?_
                          refine v_goto (tgt := 165) dX2_joined_159 (by decide) ?_
                          obtain rfl := Option.some.inj hh
                          exact v_lret dX2_joined_165 rfl (Nat.zero_le _) (Nat.zero_le _) ⟨rfl, rfl⟩
def f_X2_changed  (S : St) (x1 : Int32) (x2 : Int64) : Option (Int64) :=
  if x1 = (21 : Int32) then
  (if (lg_cmp x2 (0 : Int64)) = (0 : Int32) then
  (some (1 : Int64))
  else
  (some (0 : Int64)))
  else if x1 = (22 : Int32) then
  (if (lg_cmp (x2 * x2) (1000000 : Int64)) ≤ (0 : Int32) then
  (some (x2 * x2))
  else
  (some (1000000 : Int64)))
  else if x1 = (42 : Int32) then
  (some (-x2))
  else (if (lg_cmp x2 (0 : Int64)) < (0 : Int32) then
  (some (0 : Int64))
  else
  (if (lg_cmp x2 (12 : Int64)) < (0 : Int32) then
  (chk (decide (gR S 202 0 0 < 66)) (
  chk (inb x2.toInt32 12) (
  some ((gI S 400 (gR S 202 0 0) x2.toInt32.toNatClampNeg).toInt64))))
  else
  (some (0 : Int64))))
set_option maxRecDepth 100000 in
set_option maxHeartbeats 4000000 in
theorem t_X2_changed {l : Launch} {G : v_G} {S : St}   {x1 : Int32} {x2 : Int64} {r : Int64} (hh : f_X2_changed  S x1 x2 = some r) : v_M l G yX2_changed cX2_changed 4 (some .long) 0 0 0 [.ref (v_B G + 259), .int x1, .long x2] (lay G S) (QL r (lay G S)) := by
  refine v_entry (by decide) (Nat.le_of_ble_eq_true rfl) ?_
  unfold f_X2_changed at hh
  show V l G yX2_changed cX2_changed 4 (some .long) (v_rm 0 0 0) (QL r (lay G S)) 0 0 0 [(0, .ref (v_B G + 259)), (1, .int x1), (2, .long x2)] [] (lay G S)
  refine v_iload_n 1 dX2_changed_0 rfl rfl ?_
  refine sw_if hh (fun c0 hh => ?_) (fun c0 hh => ?_)
  · skip
    refine v_lookup (tgt := 36) dX2_changed_1 (by decide) (by rw [c0] <;> rfl) (by decide) ?_
    refine v_lload_n 2 dX2_changed_36 rfl rfl ?_
    refine v_lconst dX2_changed_37 (by decide : _ = (0 : Int64)) ?_
    refine v_lcmp dX2_changed_38 ?_
    refine v_if_ne (tgt := 46) dX2_changed_39 (by decide) (fun c => ?_) (fun c => ?_)
    · replace hh := (if_neg c).symm.trans hh
      refine v_lconst dX2_changed_46 (by decide : _ = (0 : Int64)) ?_
      obtain rfl := Option.some.inj hh
      exact v_lret dX2_changed_47 rfl (Nat.zero_le _) (Nat.zero_le _) ⟨rfl, rfl⟩
    · replace hh := (if_pos c).symm.trans hh
      refine v_lconst dX2_changed_42 (by decide : _ = (1 : Int64)) ?_
      refine v_goto (tgt := 47) dX2_changed_43 (by decide) ?_
      obtain rfl := Option.some.inj hh
      exact v_lret dX2_changed_47 rfl (Nat.zero_le _) (Nat.zero_le _) ⟨rfl, rfl⟩
  · skip
    refine sw_if hh (fun c1 hh => ?_) (fun c1 hh => ?_)
    · skip
      refine v_lookup (tgt := 51) dX2_changed_1 (by decide) (by rw [c1] <;> rfl) (by decide) ?_
      refine v_lload_n 2 dX2_changed_51 rfl rfl ?_
      refine v_lload_n 2 dX2_changed_52 rfl rfl ?_
      refine v_lmul dX2_changed_53 ?_
      refine v_ldc2 dX2_changed_54 col_X2_135 ?_
      refine v_lcmp dX2_changed_57 ?_
      refine v_if_le (tgt := 67) dX2_changed_58 (by decide) (fun c => ?_) (fun c => ?_)
      · replace hh := (if_pos c).symm.trans hh
        refine v_lload_n 2 dX2_changed_67 rfl rfl ?_
        refine v_lload_n 2 dX2_changed_68 rfl rfl ?_
        refine v_lmul dX2_changed_69 ?_
        obtain rfl := Option.some.inj hh
        exact v_lret dX2_changed_70 rfl (Nat.zero_le _) (Nat.zero_le _) ⟨rfl, rfl⟩
      · replace hh := (if_neg c).symm.trans hh
        refine v_ldc2 dX2_changed_61 col_X2_135 ?_
        refine v_goto (tgt := 70) dX2_changed_64 (by decide) ?_
        obtain rfl := Option.some.inj hh
        exact v_lret dX2_changed_70 rfl (Nat.zero_le _) (Nat.zero_le _) ⟨rfl, rfl⟩
    · skip
      refine sw_if hh (fun c2 hh => ?_) (fun c2 hh => ?_)
      · skip
        refine v_lookup (tgt := 48) dX2_changed_1 (by decide) (by rw [c2] <;> rfl) (by decide) ?_
        refine v_lload_n 2 dX2_changed_48 rfl rfl ?_
        refine v_lneg dX2_changed_49 ?_
        obtain rfl := Option.some.inj hh
        exact v_lret dX2_changed_50 rfl (Nat.zero_le _) (Nat.zero_le _) ⟨rfl, rfl⟩
      · skip
        refine v_lookup (tgt := 71) (off := 70) dX2_changed_1 (by decide) (by show Op.lookupswitch.offset [(21, 35), (22, 50), (42, 47)] 70 _ = _; simp only [Op.lookupswitch.offset, if_neg (lk_ne 21 rfl c0), if_neg (lk_ne 22 rfl c1), if_neg (lk_ne 42 rfl c2)]) (by decide) ?_
        refine v_lload_n 2 dX2_changed_71 rfl rfl ?_
        refine v_lconst dX2_changed_72 (by decide : _ = (0 : Int64)) ?_
        refine v_lcmp dX2_changed_73 ?_
        refine v_if_lt (tgt := 85) dX2_changed_74 (by decide) (fun c => ?_) (fun c => ?_)
        · replace hh := (if_pos c).symm.trans hh
          refine v_lconst dX2_changed_85 (by decide : _ = (0 : Int64)) ?_
          refine v_goto (tgt := 100) dX2_changed_86 (by decide) ?_
          obtain rfl := Option.some.inj hh
          exact v_lret dX2_changed_100 rfl (Nat.zero_le _) (Nat.zero_le _) ⟨rfl, rfl⟩
        · replace hh := (if_neg c).symm.trans hh
          refine v_lload_n 2 dX2_changed_77 rfl rfl ?_
          refine v_ldc2 dX2_changed_78 col_X2_148 ?_
          refine v_lcmp dX2_changed_81 ?_
          refine v_if_lt (tgt := 89) dX2_changed_82 (by decide) (fun c => ?_) (fun c => ?_)
          · replace hh := (if_pos c).symm.trans hh
            refine v_aload_n 0 dX2_changed_89 rfl rfl ?_
            obtain ⟨g1, hh⟩ := chk_some hh
            replace g1 := of_decide_eq_true g1
            refine r_Rules_sheet dX2_changed_90 fl_X2_25 ?_
            refine r_Sheet_cells g1 dX2_changed_93 fl_X2_26 ?_
            refine v_lload_n 2 dX2_changed_96 rfl rfl ?_
            refine v_l2i dX2_changed_97 ?_
            obtain ⟨g2, hh⟩ := chk_some hh
            replace g2 := inb_in g2
            refine ld_cells g1 dX2_changed_98 g2 ?_
            refine v_i2l dX2_changed_99 ?_
            obtain rfl := Option.some.inj hh
            exact v_lret dX2_changed_100 rfl (Nat.zero_le _) (Nat.zero_le _) ⟨rfl, rfl⟩
          · replace hh := (if_neg c).symm.trans hh
            refine v_lconst dX2_changed_85 (by decide : _ = (0 : Int64)) ?_
            refine v_goto (tgt := 100) dX2_changed_86 (by decide) ?_
            obtain rfl := Option.some.inj hh
            exact v_lret dX2_changed_100 rfl (Nat.zero_le _) (Nat.zero_le _) ⟨rfl, rfl⟩
def f_X2_named_b38  (x1 : Int32) (x2 : Int32) (s0 : Int32) (S : St) : Option (Int64) :=
  if x1 = (3 : Int32) then
  (chk (decide (gR S 202 0 0 < 66)) (
  chk (inb (gI S 204 0 0) 12) (
  some ((gI S 400 (gR S 202 0 0) (gI S 204 0 0).toNatClampNeg).toInt64))))
  else if x1 = (4 : Int32) then
  (some (0 : Int64))
  else if x1 = (5 : Int32) then
  (some (0 : Int64))
  else if x1 = (6 : Int32) then
  (if (gI S 205 0 0) = (0 : Int32) then
  (some (0 : Int64))
  else
  (some (1 : Int64)))
  else if x1 = (7 : Int32) then
  (some (0 : Int64))
  else if x1 = (8 : Int32) then
  (some (0 : Int64))
  else if x1 = (9 : Int32) then
  (chk (decide (gR S 202 0 0 < 66)) (
  some ((gI S 407 (gR S 202 0 0) 0).toInt64)))
  else if x1 = (10 : Int32) then
  (some (0 : Int64))
  else if x1 = (11 : Int32) then
  (some (0 : Int64))
  else if x1 = (12 : Int32) then
  (some (0 : Int64))
  else if x1 = (13 : Int32) then
  (some (0 : Int64))
  else if x1 = (14 : Int32) then
  (some (0 : Int64))
  else if x1 = (15 : Int32) then
  (some (0 : Int64))
  else if x1 = (16 : Int32) then
  (some ((gI S 204 0 0).toInt64))
  else if x1 = (17 : Int32) then
  (chk (decide (gR S 202 0 0 < 66)) (
  some ((((gI S 404 (gR S 202 0 0) 0) >>> ((gI S 204 0 0) &&& 31)) &&& (1 : Int32)).toInt64)))
  else if x1 = (18 : Int32) then
  (chk (inb (gI S 203 0 0) 4) (
  some ((gI S 804 0 (gI S 203 0 0).toNatClampNeg).toInt64)))
  else if x1 = (19 : Int32) then
  (some ((gI S 203 0 0).toInt64))
  else if x1 = (20 : Int32) then
  (if s0 = (0 : Int32) then
  (chk (decide (gR S 202 0 0 < 66)) (
  chk (inb x2 12) (
  some ((gI S 400 (gR S 202 0 0) x2.toNatClampNeg).toInt64))))
  else
  (chk (decide (gR S 202 0 0 < 66)) (
  some ((gI S 405 (gR S 202 0 0) 0).toInt64))))
  else (some (0 : Int64))
set_option maxRecDepth 100000 in
set_option maxHeartbeats 4000000 in
theorem tb_X2_named_38 {l : Launch} {G : v_G}    {r : Int64} {S0 : St}   : ∀ (x1 : Int32) (x2 : Int32) (s0 : Int32) (S : St),  S = S0 → f_X2_named_b38  x1 x2 s0 S = some r → V l G yX2_named cX2_named 4 (some .long) (v_rm 0 0 0) (QL r (lay G S0)) 0 0 38 [(0, .ref (v_B G + 259)), (1, .int x1), (2, .int x2)] [.int s0] (lay G S) := by
  intro x1 x2 s0 S  hS0 hh
  unfold f_X2_named_b38 at hh
  refine v_istore_n dX2_named_38 rfl (by decide) rfl ?_
  refine v_iload_n 2 dX2_named_39 rfl rfl ?_
  refine sw_if hh (fun c0 hh => ?_) (fun c0 hh => ?_)
  · skip
    refine v_tableIn (tgt := 143) dX2_named_40 (by rw [c0]; decide) (by rw [c0]; decide) (by rw [c0] <;> rfl) (by decide) ?_
    refine v_aload_n 1 dX2_named_143 rfl rfl ?_
    obtain ⟨g1, hh⟩ := chk_some hh
    replace g1 := of_decide_eq_true g1
    refine r_Rules_sheet dX2_named_144 fl_X2_25 ?_
    refine r_Sheet_cells g1 dX2_named_147 fl_X2_26 ?_
    refine v_aload_n 1 dX2_named_150 rfl rfl ?_
    refine r_Rules_cell dX2_named_151 fl_X2_65 ?_
    obtain ⟨g2, hh⟩ := chk_some hh
    replace g2 := inb_in g2
    refine ld_cells g1 dX2_named_154 g2 ?_
    refine v_i2l dX2_named_155 ?_
    obtain rfl := Option.some.inj hh
    exact v_lret dX2_named_156 rfl (Nat.zero_le _) (Nat.zero_le _) ⟨rfl, by rw [hS0]⟩
  · skip
    refine sw_if hh (fun c1 hh => ?_) (fun c1 hh => ?_)
    · skip
      refine v_tableIn (tgt := 232) dX2_named_40 (by rw [c1]; decide) (by rw [c1]; decide) (by rw [c1] <;> rfl) (by decide) ?_
      refine v_lconst dX2_named_232 (by decide : _ = (0 : Int64)) ?_
      obtain rfl := Option.some.inj hh
      exact v_lret dX2_named_233 rfl (Nat.zero_le _) (Nat.zero_le _) ⟨rfl, by rw [hS0]⟩
    · skip
      refine sw_if hh (fun c2 hh => ?_) (fun c2 hh => ?_)
      · skip
        refine v_tableIn (tgt := 232) dX2_named_40 (by rw [c2]; decide) (by rw [c2]; decide) (by rw [c2] <;> rfl) (by decide) ?_
        refine v_lconst dX2_named_232 (by decide : _ = (0 : Int64)) ?_
        obtain rfl := Option.some.inj hh
        exact v_lret dX2_named_233 rfl (Nat.zero_le _) (Nat.zero_le _) ⟨rfl, by rw [hS0]⟩
      · skip
        refine sw_if hh (fun c3 hh => ?_) (fun c3 hh => ?_)
        · skip
          refine v_tableIn (tgt := 219) dX2_named_40 (by rw [c3]; decide) (by rw [c3]; decide) (by rw [c3] <;> rfl) (by decide) ?_
          refine v_aload_n 1 dX2_named_219 rfl rfl ?_
          refine r_Rules_right dX2_named_220 fl_X2_68 ?_
          refine v_if_eq (tgt := 230) dX2_named_223 (by decide) (fun c => ?_) (fun c => ?_)
          · replace hh := (if_pos c).symm.trans hh
            refine v_lconst dX2_named_230 (by decide : _ = (0 : Int64)) ?_
            obtain rfl := Option.some.inj hh
            exact v_lret dX2_named_231 rfl (Nat.zero_le _) (Nat.zero_le _) ⟨rfl, by rw [hS0]⟩
          · replace hh := (if_neg c).symm.trans hh
            refine v_lconst dX2_named_226 (by decide : _ = (1 : Int64)) ?_
            refine v_goto (tgt := 231) dX2_named_227 (by decide) ?_
            obtain rfl := Option.some.inj hh
            exact v_lret dX2_named_231 rfl (Nat.zero_le _) (Nat.zero_le _) ⟨rfl, by rw [hS0]⟩
        · skip
          refine sw_if hh (fun c4 hh => ?_) (fun c4 hh => ?_)
          · skip
            refine v_tableIn (tgt := 232) dX2_named_40 (by rw [c4]; decide) (by rw [c4]; decide) (by rw [c4] <;> rfl) (by decide) ?_
            refine v_lconst dX2_named_232 (by decide : _ = (0 : Int64)) ?_
            obtain rfl := Option.some.inj hh
            exact v_lret dX2_named_233 rfl (Nat.zero_le _) (Nat.zero_le _) ⟨rfl, by rw [hS0]⟩
          · skip
            refine sw_if hh (fun c5 hh => ?_) (fun c5 hh => ?_)
            · skip
              refine v_tableIn (tgt := 232) dX2_named_40 (by rw [c5]; decide) (by rw [c5]; decide) (by rw [c5] <;> rfl) (by decide) ?_
              refine v_lconst dX2_named_232 (by decide : _ = (0 : Int64)) ?_
              obtain rfl := Option.some.inj hh
              exact v_lret dX2_named_233 rfl (Nat.zero_le _) (Nat.zero_le _) ⟨rfl, by rw [hS0]⟩
            · skip
              refine sw_if hh (fun c6 hh => ?_) (fun c6 hh => ?_)
              · skip
                refine v_tableIn (tgt := 128) dX2_named_40 (by rw [c6]; decide) (by rw [c6]; decide) (by rw [c6] <;> rfl) (by decide) ?_
                refine v_aload_n 1 dX2_named_128 rfl rfl ?_
                obtain ⟨g3, hh⟩ := chk_some hh
                replace g3 := of_decide_eq_true g3
                refine r_Rules_sheet dX2_named_129 fl_X2_25 ?_
                refine r_Sheet_turn g3 dX2_named_132 fl_X2_97 ?_
                refine v_i2l dX2_named_135 ?_
                obtain rfl := Option.some.inj hh
                exact v_lret dX2_named_136 rfl (Nat.zero_le _) (Nat.zero_le _) ⟨rfl, by rw [hS0]⟩
              · skip
                refine sw_if hh (fun c7 hh => ?_) (fun c7 hh => ?_)
                · skip
                  refine v_tableIn (tgt := 232) dX2_named_40 (by rw [c7]; decide) (by rw [c7]; decide) (by rw [c7] <;> rfl) (by decide) ?_
                  refine v_lconst dX2_named_232 (by decide : _ = (0 : Int64)) ?_
                  obtain rfl := Option.some.inj hh
                  exact v_lret dX2_named_233 rfl (Nat.zero_le _) (Nat.zero_le _) ⟨rfl, by rw [hS0]⟩
                · skip
                  refine sw_if hh (fun c8 hh => ?_) (fun c8 hh => ?_)
                  · skip
                    refine v_tableIn (tgt := 232) dX2_named_40 (by rw [c8]; decide) (by rw [c8]; decide) (by rw [c8] <;> rfl) (by decide) ?_
                    refine v_lconst dX2_named_232 (by decide : _ = (0 : Int64)) ?_
                    obtain rfl := Option.some.inj hh
                    exact v_lret dX2_named_233 rfl (Nat.zero_le _) (Nat.zero_le _) ⟨rfl, by rw [hS0]⟩
                  · skip
                    refine sw_if hh (fun c9 hh => ?_) (fun c9 hh => ?_)
                    · skip
                      refine v_tableIn (tgt := 232) dX2_named_40 (by rw [c9]; decide) (by rw [c9]; decide) (by rw [c9] <;> rfl) (by decide) ?_
                      refine v_lconst dX2_named_232 (by decide : _ = (0 : Int64)) ?_
                      obtain rfl := Option.some.inj hh
                      exact v_lret dX2_named_233 rfl (Nat.zero_le _) (Nat.zero_le _) ⟨rfl, by rw [hS0]⟩
                    · skip
                      refine sw_if hh (fun c10 hh => ?_) (fun c10 hh => ?_)
                      · skip
                        refine v_tableIn (tgt := 232) dX2_named_40 (by rw [c10]; decide) (by rw [c10]; decide) (by rw [c10] <;> rfl) (by decide) ?_
                        refine v_lconst dX2_named_232 (by decide : _ = (0 : Int64)) ?_
                        obtain rfl := Option.some.inj hh
                        exact v_lret dX2_named_233 rfl (Nat.zero_le _) (Nat.zero_le _) ⟨rfl, by rw [hS0]⟩
                      · skip
                        refine sw_if hh (fun c11 hh => ?_) (fun c11 hh => ?_)
                        · skip
                          refine v_tableIn (tgt := 232) dX2_named_40 (by rw [c11]; decide) (by rw [c11]; decide) (by rw [c11] <;> rfl) (by decide) ?_
                          refine v_lconst dX2_named_232 (by decide : _ = (0 : Int64)) ?_
                          obtain rfl := Option.some.inj hh
                          exact v_lret dX2_named_233 rfl (Nat.zero_le _) (Nat.zero_le _) ⟨rfl, by rw [hS0]⟩
                        · skip
                          refine sw_if hh (fun c12 hh => ?_) (fun c12 hh => ?_)
                          · skip
                            refine v_tableIn (tgt := 232) dX2_named_40 (by rw [c12]; decide) (by rw [c12]; decide) (by rw [c12] <;> rfl) (by decide) ?_
                            refine v_lconst dX2_named_232 (by decide : _ = (0 : Int64)) ?_
                            obtain rfl := Option.some.inj hh
                            exact v_lret dX2_named_233 rfl (Nat.zero_le _) (Nat.zero_le _) ⟨rfl, by rw [hS0]⟩
                          · skip
                            refine sw_if hh (fun c13 hh => ?_) (fun c13 hh => ?_)
                            · skip
                              refine v_tableIn (tgt := 137) dX2_named_40 (by rw [c13]; decide) (by rw [c13]; decide) (by rw [c13] <;> rfl) (by decide) ?_
                              refine v_aload_n 1 dX2_named_137 rfl rfl ?_
                              refine r_Rules_cell dX2_named_138 fl_X2_65 ?_
                              refine v_i2l dX2_named_141 ?_
                              obtain rfl := Option.some.inj hh
                              exact v_lret dX2_named_142 rfl (Nat.zero_le _) (Nat.zero_le _) ⟨rfl, by rw [hS0]⟩
                            · skip
                              refine sw_if hh (fun c14 hh => ?_) (fun c14 hh => ?_)
                              · skip
                                refine v_tableIn (tgt := 157) dX2_named_40 (by rw [c14]; decide) (by rw [c14]; decide) (by rw [c14] <;> rfl) (by decide) ?_
                                refine v_aload_n 1 dX2_named_157 rfl rfl ?_
                                obtain ⟨g4, hh⟩ := chk_some hh
                                replace g4 := of_decide_eq_true g4
                                refine r_Rules_sheet dX2_named_158 fl_X2_25 ?_
                                refine r_Sheet_torn g4 dX2_named_161 fl_X2_55 ?_
                                refine v_aload_n 1 dX2_named_164 rfl rfl ?_
                                refine r_Rules_cell dX2_named_165 fl_X2_65 ?_
                                refine v_ishr dX2_named_168 ?_
                                refine v_iconst dX2_named_169 (by decide : _ = (1 : Int32)) ?_
                                refine v_iand dX2_named_170 ?_
                                refine v_i2l dX2_named_171 ?_
                                obtain rfl := Option.some.inj hh
                                exact v_lret dX2_named_172 rfl (Nat.zero_le _) (Nat.zero_le _) ⟨rfl, by rw [hS0]⟩
                              · skip
                                refine sw_if hh (fun c15 hh => ?_) (fun c15 hh => ?_)
                                · skip
                                  refine v_tableIn (tgt := 173) dX2_named_40 (by rw [c15]; decide) (by rw [c15]; decide) (by rw [c15] <;> rfl) (by decide) ?_
                                  refine v_aload_n 1 dX2_named_173 rfl rfl ?_
                                  refine r_Rules_world dX2_named_174 fl_X2_15 ?_
                                  refine r_World_strengths (by decide) dX2_named_177 fl_X2_145 ?_
                                  refine v_aload_n 1 dX2_named_180 rfl rfl ?_
                                  refine r_Rules_hand dX2_named_181 fl_X2_62 ?_
                                  obtain ⟨g5, hh⟩ := chk_some hh
                                  replace g5 := inb_in g5
                                  refine ld_strengths (by decide) dX2_named_184 g5 ?_
                                  refine v_i2l dX2_named_185 ?_
                                  obtain rfl := Option.some.inj hh
                                  exact v_lret dX2_named_186 rfl (Nat.zero_le _) (Nat.zero_le _) ⟨rfl, by rw [hS0]⟩
                                · skip
                                  refine sw_if hh (fun c16 hh => ?_) (fun c16 hh => ?_)
                                  · skip
                                    refine v_tableIn (tgt := 187) dX2_named_40 (by rw [c16]; decide) (by rw [c16]; decide) (by rw [c16] <;> rfl) (by decide) ?_
                                    refine v_aload_n 1 dX2_named_187 rfl rfl ?_
                                    refine r_Rules_hand dX2_named_188 fl_X2_62 ?_
                                    refine v_i2l dX2_named_191 ?_
                                    obtain rfl := Option.some.inj hh
                                    exact v_lret dX2_named_192 rfl (Nat.zero_le _) (Nat.zero_le _) ⟨rfl, by rw [hS0]⟩
                                  · skip
                                    refine sw_if hh (fun c17 hh => ?_) (fun c17 hh => ?_)
                                    · skip
                                      refine v_tableIn (tgt := 193) dX2_named_40 (by rw [c17]; decide) (by rw [c17]; decide) (by rw [c17] <;> rfl) (by decide) ?_
                                      refine v_iload_n 0 dX2_named_193 rfl rfl ?_
                                      refine v_if_eq (tgt := 208) dX2_named_194 (by decide) (fun c => ?_) (fun c => ?_)
                                      · replace hh := (if_pos c).symm.trans hh
                                        refine v_aload_n 1 dX2_named_208 rfl rfl ?_
                                        obtain ⟨g6, hh⟩ := chk_some hh
                                        replace g6 := of_decide_eq_true g6
                                        refine r_Rules_sheet dX2_named_209 fl_X2_25 ?_
                                        refine r_Sheet_cells g6 dX2_named_212 fl_X2_26 ?_
                                        refine v_iload_n 3 dX2_named_215 rfl rfl ?_
                                        obtain ⟨g7, hh⟩ := chk_some hh
                                        replace g7 := inb_in g7
                                        refine ld_cells g6 dX2_named_216 g7 ?_
                                        refine v_i2l dX2_named_217 ?_
                                        obtain rfl := Option.some.inj hh
                                        exact v_lret dX2_named_218 rfl (Nat.zero_le _) (Nat.zero_le _) ⟨rfl, by rw [hS0]⟩
                                      · replace hh := (if_neg c).symm.trans hh
                                        refine v_aload_n 1 dX2_named_197 rfl rfl ?_
                                        obtain ⟨g8, hh⟩ := chk_some hh
                                        replace g8 := of_decide_eq_true g8
                                        refine r_Rules_sheet dX2_named_198 fl_X2_25 ?_
                                        refine r_Sheet_edge g8 dX2_named_201 fl_X2_44 ?_
                                        refine v_i2l dX2_named_204 ?_
                                        refine v_goto (tgt := 218) dX2_named_205 (by decide) ?_
                                        obtain rfl := Option.some.inj hh
                                        exact v_lret dX2_named_218 rfl (Nat.zero_le _) (Nat.zero_le _) ⟨rfl, by rw [hS0]⟩
                                    · skip
                                      refine v_tableOut (tgt := 232) dX2_named_40 (sw_out 18 (by decide) (fun k hk => match k, hk with | 0, _ => fun h => c0 (h.trans (by decide)) | 1, _ => fun h => c1 (h.trans (by decide)) | 2, _ => fun h => c2 (h.trans (by decide)) | 3, _ => fun h => c3 (h.trans (by decide)) | 4, _ => fun h => c4 (h.trans (by decide)) | 5, _ => fun h => c5 (h.trans (by decide)) | 6, _ => fun h => c6 (h.trans (by decide)) | 7, _ => fun h => c7 (h.trans (by decide)) | 8, _ => fun h => c8 (h.trans (by decide)) | 9, _ => fun h => c9 (h.trans (by decide)) | 10, _ => fun h => c10 (h.trans (by decide)) | 11, _ => fun h => c11 (h.trans (by decide)) | 12, _ => fun h => c12 (h.trans (by decide)) | 13, _ => fun h => c13 (h.trans (by decide)) | 14, _ => fun h => c14 (h.trans (by decide)) | 15, _ => fun h => c15 (h.trans (by decide)) | 16, _ => fun h => c16 (h.trans (by decide)) | 17, _ => fun h => c17 (h.trans (by decide)) | k + 18, hk => absurd hk (by omega))) (by decide) ?_
                                      refine v_lconst dX2_named_232 (by decide : _ = (0 : Int64)) ?_
                                      obtain rfl := Option.some.inj hh
                                      exact v_lret dX2_named_233 rfl (Nat.zero_le _) (Nat.zero_le _) ⟨rfl, by rw [hS0]⟩
def f_X2_named_b33  (x1 : Int32) (x2 : Int32) (S : St) : Option (Int64) :=
  f_X2_named_b38 x1 x2 (1 : Int32) S
set_option maxRecDepth 100000 in
set_option maxHeartbeats 4000000 in
theorem tb_X2_named_33 {l : Launch} {G : v_G}    {r : Int64} {S0 : St}   : ∀ (x1 : Int32) (x2 : Int32) (S : St),  S = S0 → f_X2_named_b33  x1 x2 S = some r → V l G yX2_named cX2_named 4 (some .long) (v_rm 0 0 0) (QL r (lay G S0)) 0 0 33 [(0, .ref (v_B G + 259)), (1, .int x1), (2, .int x2)] [] (lay G S) := by
  intro x1 x2 S  hS0 hh
  unfold f_X2_named_b33 at hh
  refine v_iconst dX2_named_33 (by decide : _ = (1 : Int32)) ?_
  refine v_goto (tgt := 38) dX2_named_34 (by decide) ?_
  exact v_sub [0, 1, 2] rfl (tb_X2_named_38 _ _ _ _ hS0 hh)
def f_X2_named_b22  (x1 : Int32) (s0 : Int32) (S : St) : Option (Int64) :=
  if s0 < (0 : Int32) then
  (f_X2_named_b33 x1 s0 S)
  else
  (if s0 < (12 : Int32) then
  (f_X2_named_b38 x1 s0 (0 : Int32) S)
  else
  (f_X2_named_b33 x1 s0 S))
set_option maxRecDepth 100000 in
set_option maxHeartbeats 4000000 in
theorem tb_X2_named_22 {l : Launch} {G : v_G}    {r : Int64} {S0 : St}   : ∀ (x1 : Int32) (s0 : Int32) (S : St),  S = S0 → f_X2_named_b22  x1 s0 S = some r → V l G yX2_named cX2_named 4 (some .long) (v_rm 0 0 0) (QL r (lay G S0)) 0 0 22 [(0, .ref (v_B G + 259)), (1, .int x1)] [.int s0] (lay G S) := by
  intro x1 s0 S  hS0 hh
  unfold f_X2_named_b22 at hh
  refine v_istore_n dX2_named_22 rfl (by decide) rfl ?_
  refine v_iload_n 0 dX2_named_23 rfl rfl ?_
  refine v_if_lt (tgt := 33) dX2_named_24 (by decide) (fun c => ?_) (fun c => ?_)
  · replace hh := (if_pos c).symm.trans hh
    exact v_sub [1, 2, 0] rfl (tb_X2_named_33 _ _ _ hS0 hh)
  · replace hh := (if_neg c).symm.trans hh
    refine v_iload_n 0 dX2_named_27 rfl rfl ?_
    refine v_bipush dX2_named_28 (by decide : _ = (12 : Int32)) ?_
    refine v_icmp_lt (tgt := 37) dX2_named_30 (by decide) (fun c => ?_) (fun c => ?_)
    · replace hh := (if_pos c).symm.trans hh
      refine v_iconst dX2_named_37 (by decide : _ = (0 : Int32)) ?_
      exact v_sub [1, 2, 0] rfl (tb_X2_named_38 _ _ _ _ hS0 hh)
    · replace hh := (if_neg c).symm.trans hh
      exact v_sub [1, 2, 0] rfl (tb_X2_named_33 _ _ _ hS0 hh)
def f_X2_named  (S : St) (x1 : Int32) : Option (Int64) :=
  if (gI S 205 0 0) = (0 : Int32) then
  (f_X2_named_b22 x1 ((gI S 204 0 0) - (1 : Int32)) S)
  else
  (f_X2_named_b22 x1 ((gI S 204 0 0) + (1 : Int32)) S)
set_option maxRecDepth 100000 in
set_option maxHeartbeats 4000000 in
theorem t_X2_named {l : Launch} {G : v_G} {S : St}   {x1 : Int32} {r : Int64} (hh : f_X2_named  S x1 = some r) : v_M l G yX2_named cX2_named 4 (some .long) 0 0 0 [.ref (v_B G + 259), .int x1] (lay G S) (QL r (lay G S)) := by
  refine v_entry (by decide) (Nat.le_of_ble_eq_true rfl) ?_
  unfold f_X2_named at hh
  show V l G yX2_named cX2_named 4 (some .long) (v_rm 0 0 0) (QL r (lay G S)) 0 0 0 [(0, .ref (v_B G + 259)), (1, .int x1)] [] (lay G S)
  refine v_aload_n 0 dX2_named_0 rfl rfl ?_
  refine r_Rules_right dX2_named_1 fl_X2_68 ?_
  refine v_if_eq (tgt := 16) dX2_named_4 (by decide) (fun c => ?_) (fun c => ?_)
  · replace hh := (if_pos c).symm.trans hh
    refine v_aload_n 0 dX2_named_16 rfl rfl ?_
    refine r_Rules_cell dX2_named_17 fl_X2_65 ?_
    refine v_iconst dX2_named_20 (by decide : _ = (1 : Int32)) ?_
    refine v_isub dX2_named_21 ?_
    exact v_sub [0, 1] rfl (tb_X2_named_22 _ _ _ rfl hh)
  · replace hh := (if_neg c).symm.trans hh
    refine v_aload_n 0 dX2_named_7 rfl rfl ?_
    refine r_Rules_cell dX2_named_8 fl_X2_65 ?_
    refine v_iconst dX2_named_11 (by decide : _ = (1 : Int32)) ?_
    refine v_iadd dX2_named_12 ?_
    refine v_goto (tgt := 22) dX2_named_13 (by decide) ?_
    exact v_sub [0, 1] rfl (tb_X2_named_22 _ _ _ rfl hh)
def f_X2_result_b177 (rec4 : (Int32 → Int32 → St → Option (Int64 × St))) (N : Nat) (lw : Nat) (x2 : Int32) (x3 : Int32) (x4 : Int32) (S : St) : Option (Int64 × St) :=
  lt (if (0 : Int32) < (x2 - (1 : Int32)) then (x2 - (1 : Int32)) else (0 : Int32)) fun v19 =>
  chk (inb v19 64) (
  bnd (f_X2_changed S x4 (gL S 201 0 v19.toNatClampNeg)) fun q21 =>
 chk (inb v19 64) (
  lt (sL S 201 0 v19.toNatClampNeg q21) fun S23 =>
  lt (x3 + (1 : Int32)) fun v24 =>
  rec4 x2 v24 S23))
set_option maxRecDepth 100000 in
set_option maxHeartbeats 4000000 in
theorem tb_X2_result_177 {l : Launch} {G : v_G} {N : Nat}   {lw : Nat} {r : Int64 × St} {rec4 : (Int32 → Int32 → St → Option (Int64 × St))} (hrec4 : ∀ (x2 : Int32) (x3 : Int32) (S : St),  rec4 x2 x3 S = some r → V l G yX2_result cX2_result 8 (some .long) (v_rm 1 0 0) (QL r.1 (lay G r.2)) 0 0 4 [(0, .ref (v_B G + 259)), (1, .ref (da G lw)), (2, .int x2), (3, .int x3)] [] (lay G S)) : ∀ (x2 : Int32) (x3 : Int32) (x4 : Int32) (S : St),  f_X2_result_b177 rec4 N lw x2 x3 x4 S = some r → V l G yX2_result cX2_result 8 (some .long) (v_rm 1 0 0) (QL r.1 (lay G r.2)) 0 0 177 [(0, .ref (v_B G + 259)), (1, .ref (da G lw)), (2, .int x2), (3, .int x3), (4, .int x4)] [] (lay G S) := by
  intro x2 x3 x4 S  hh
  unfold f_X2_result_b177 at hh
  refine v_iconst dX2_result_177 (by decide : _ = (0 : Int32)) ?_
  refine v_iload_n 2 dX2_result_178 rfl rfl ?_
  refine v_iconst dX2_result_179 (by decide : _ = (1 : Int32)) ?_
  refine v_isub dX2_result_180 ?_
  refine v_mmax dX2_result_181 ml_X2_126 y_J9_max_7cf53.2 y_J9_max_7cf53.1.2.1 y_J9_max_7cf53.1.1 (Nat.le_of_ble_eq_true rfl) (Nat.le_of_ble_eq_true rfl) (Nat.zero_le _) (Nat.zero_le _) ?_
  replace hh := lt_of hh
  refine v_istore dX2_result_184 (by decide) rfl ?_
  refine v_aload_n 1 dX2_result_186 rfl rfl ?_
  refine r_Rules_stack dX2_result_187 fl_X2_9 ?_
  refine v_iload 0 dX2_result_190 rfl ?_
  refine v_aload_n 1 dX2_result_192 rfl rfl ?_
  refine v_iload 5 dX2_result_193 rfl ?_
  refine v_aload_n 1 dX2_result_195 rfl rfl ?_
  refine r_Rules_stack dX2_result_196 fl_X2_9 ?_
  refine v_iload 0 dX2_result_199 rfl ?_
  obtain ⟨g20, hh⟩ := chk_some hh
  replace g20 := inb_in g20
  refine ld_stack dX2_result_201 g20 ?_
  obtain ⟨q21, eq21, hh⟩ := bnd_some hh
  refine v_callVl (t_X2_changed eq21) dX2_result_202 y_X2_changed ml_X2_137 (ci := 1) rfl rfl (e_Rules) rfl rfl (Nat.le_of_ble_eq_true rfl) ⟨(Nat.le_of_ble_eq_true rfl), (Nat.le_of_ble_eq_true rfl)⟩ ⟨Nat.zero_le _, Nat.zero_le _⟩ ?_
  obtain ⟨g22, hh⟩ := chk_some hh
  replace g22 := inb_in g22
  refine st_stack dX2_result_205 g22 ?_
  replace hh := lt_of hh
  refine v_goto (tgt := 248) dX2_result_206 (by decide) ?_
  refine v_iinc (v := _ + (1 : Int32)) 4 dX2_result_248 rfl rfl (by decide) rfl ?_
  replace hh := lt_of hh
  refine v_goto (tgt := 4) dX2_result_251 (by decide) ?_
  exact v_sub [2, 3, 4, 0] rfl (hrec4 _ _ _ hh)
def f_X2_result_b170 (rec4 : (Int32 → Int32 → St → Option (Int64 × St))) (N : Nat) (lw : Nat) (x2 : Int32) (x3 : Int32) (x4 : Int32) (x5 : Int32) (S : St) : Option (Int64 × St) :=
  if x4 = (42 : Int32) then
  (f_X2_result_b177 rec4 N lw x2 x3 x4 S)
  else
  (if ((64 : Int32) - (1 : Int32)) ≤ x2 then
  (lt (x3 + (1 : Int32)) fun v9 =>
  rec4 x2 v9 S)
  else
  (if x4 = (39 : Int32) then
  (chk (inb x2 64) (
  lt (sL S 201 0 x2.toNatClampNeg x5.toInt64) fun S16 =>
  lt (x2 + (1 : Int32)) fun v17 =>
  lt (x3 + (1 : Int32)) fun v18 =>
  rec4 v17 v18 S16))
  else
  (bnd (f_X2_named S x4) fun q10 =>
 chk (inb x2 64) (
  lt (sL S 201 0 x2.toNatClampNeg q10) fun S12 =>
  lt (x2 + (1 : Int32)) fun v13 =>
  lt (x3 + (1 : Int32)) fun v14 =>
  rec4 v13 v14 S12))))
set_option maxRecDepth 100000 in
set_option maxHeartbeats 4000000 in
theorem tb_X2_result_170 {l : Launch} {G : v_G} {N : Nat}   {lw : Nat} {r : Int64 × St} {rec4 : (Int32 → Int32 → St → Option (Int64 × St))} (hrec4 : ∀ (x2 : Int32) (x3 : Int32) (S : St),  rec4 x2 x3 S = some r → V l G yX2_result cX2_result 8 (some .long) (v_rm 1 0 0) (QL r.1 (lay G r.2)) 0 0 4 [(0, .ref (v_B G + 259)), (1, .ref (da G lw)), (2, .int x2), (3, .int x3)] [] (lay G S)) : ∀ (x2 : Int32) (x3 : Int32) (x4 : Int32) (x5 : Int32) (S : St),  f_X2_result_b170 rec4 N lw x2 x3 x4 x5 S = some r → V l G yX2_result cX2_result 8 (some .long) (v_rm 1 0 0) (QL r.1 (lay G r.2)) 0 0 170 [(0, .ref (v_B G + 259)), (1, .ref (da G lw)), (2, .int x2), (3, .int x3), (4, .int x4), (5, .int x5)] [] (lay G S) := by
  intro x2 x3 x4 x5 S  hh
  unfold f_X2_result_b170 at hh
  refine v_iload 4 dX2_result_170 rfl ?_
  refine v_bipush dX2_result_172 (by decide : _ = (42 : Int32)) ?_
  refine v_icmp_ne (tgt := 209) dX2_result_174 (by decide) (fun c => ?_) (fun c => ?_)
  · replace hh := (if_neg c).symm.trans hh
    refine v_iload_n 2 dX2_result_209 rfl rfl ?_
    refine v_aload_n 0 dX2_result_210 rfl rfl ?_
    refine r_Rules_stack dX2_result_211 fl_X2_9 ?_
    refine ln_stack dX2_result_214 ?_
    refine v_iconst dX2_result_215 (by decide : _ = (1 : Int32)) ?_
    refine v_isub dX2_result_216 ?_
    refine v_icmp_ge (tgt := 248) dX2_result_217 (by decide) (fun c => ?_) (fun c => ?_)
    · replace hh := (if_pos c).symm.trans hh
      refine v_iinc (v := _ + (1 : Int32)) 3 dX2_result_248 rfl rfl (by decide) rfl ?_
      replace hh := lt_of hh
      refine v_goto (tgt := 4) dX2_result_251 (by decide) ?_
      exact v_sub [1, 2, 3, 0] rfl (hrec4 _ _ _ hh)
    · replace hh := (if_neg c).symm.trans hh
      refine v_aload_n 0 dX2_result_220 rfl rfl ?_
      refine r_Rules_stack dX2_result_221 fl_X2_9 ?_
      refine v_iload_n 2 dX2_result_224 rfl rfl ?_
      refine v_iload 4 dX2_result_225 rfl ?_
      refine v_bipush dX2_result_227 (by decide : _ = (39 : Int32)) ?_
      refine v_icmp_ne (tgt := 238) dX2_result_229 (by decide) (fun c => ?_) (fun c => ?_)
      · replace hh := (if_neg c).symm.trans hh
        refine v_aload_n 0 dX2_result_238 rfl rfl ?_
        refine v_iload 4 dX2_result_239 rfl ?_
        obtain ⟨q10, eq10, hh⟩ := bnd_some hh
        refine v_callVl (t_X2_named eq10) dX2_result_241 y_X2_named ml_X2_141 (ci := 1) rfl rfl (e_Rules) rfl rfl (Nat.le_of_ble_eq_true rfl) ⟨(Nat.le_of_ble_eq_true rfl), (Nat.le_of_ble_eq_true rfl)⟩ ⟨Nat.zero_le _, Nat.zero_le _⟩ ?_
        obtain ⟨g11, hh⟩ := chk_some hh
        replace g11 := inb_in g11
        refine st_stack dX2_result_244 g11 ?_
        replace hh := lt_of hh
        refine v_iinc (v := _ + (1 : Int32)) 2 dX2_result_245 rfl rfl (by decide) rfl ?_
        replace hh := lt_of hh
        refine v_iinc (v := _ + (1 : Int32)) 3 dX2_result_248 rfl rfl (by decide) rfl ?_
        replace hh := lt_of hh
        refine v_goto (tgt := 4) dX2_result_251 (by decide) ?_
        exact v_sub [2, 3, 1, 0] rfl (hrec4 _ _ _ hh)
      · replace hh := (if_pos c).symm.trans hh
        refine v_iload 5 dX2_result_232 rfl ?_
        refine v_i2l dX2_result_234 ?_
        refine v_goto (tgt := 244) dX2_result_235 (by decide) ?_
        obtain ⟨g15, hh⟩ := chk_some hh
        replace g15 := inb_in g15
        refine st_stack dX2_result_244 g15 ?_
        replace hh := lt_of hh
        refine v_iinc (v := _ + (1 : Int32)) 2 dX2_result_245 rfl rfl (by decide) rfl ?_
        replace hh := lt_of hh
        refine v_iinc (v := _ + (1 : Int32)) 3 dX2_result_248 rfl rfl (by decide) rfl ?_
        replace hh := lt_of hh
        refine v_goto (tgt := 4) dX2_result_251 (by decide) ?_
        exact v_sub [2, 3, 1, 0] rfl (hrec4 _ _ _ hh)
  · replace hh := (if_pos c).symm.trans hh
    exact v_sub [0, 1, 2, 3, 4] rfl (tb_X2_result_177 hrec4 _ _ _ _ hh)
def f_X2_result_b156 (rec4 : (Int32 → Int32 → St → Option (Int64 × St))) (N : Nat) (lw : Nat) (x2 : Int32) (x3 : Int32) (x4 : Int32) (x5 : Int32) (S : St) : Option (Int64 × St) :=
  if x4 < (21 : Int32) then
  (f_X2_result_b170 rec4 N lw x2 x3 x4 x5 S)
  else
  (if x4 ≤ (23 : Int32) then
  (f_X2_result_b177 rec4 N lw x2 x3 x4 S)
  else
  (f_X2_result_b170 rec4 N lw x2 x3 x4 x5 S))
set_option maxRecDepth 100000 in
set_option maxHeartbeats 4000000 in
theorem tb_X2_result_156 {l : Launch} {G : v_G} {N : Nat}   {lw : Nat} {r : Int64 × St} {rec4 : (Int32 → Int32 → St → Option (Int64 × St))} (hrec4 : ∀ (x2 : Int32) (x3 : Int32) (S : St),  rec4 x2 x3 S = some r → V l G yX2_result cX2_result 8 (some .long) (v_rm 1 0 0) (QL r.1 (lay G r.2)) 0 0 4 [(0, .ref (v_B G + 259)), (1, .ref (da G lw)), (2, .int x2), (3, .int x3)] [] (lay G S)) : ∀ (x2 : Int32) (x3 : Int32) (x4 : Int32) (x5 : Int32) (S : St),  f_X2_result_b156 rec4 N lw x2 x3 x4 x5 S = some r → V l G yX2_result cX2_result 8 (some .long) (v_rm 1 0 0) (QL r.1 (lay G r.2)) 0 0 156 [(0, .ref (v_B G + 259)), (1, .ref (da G lw)), (2, .int x2), (3, .int x3), (4, .int x4), (5, .int x5)] [] (lay G S) := by
  intro x2 x3 x4 x5 S  hh
  unfold f_X2_result_b156 at hh
  refine v_iload 4 dX2_result_156 rfl ?_
  refine v_bipush dX2_result_158 (by decide : _ = (21 : Int32)) ?_
  refine v_icmp_lt (tgt := 170) dX2_result_160 (by decide) (fun c => ?_) (fun c => ?_)
  · replace hh := (if_pos c).symm.trans hh
    exact v_sub [0, 1, 2, 3, 4, 5] rfl (tb_X2_result_170 hrec4 _ _ _ _ _ hh)
  · replace hh := (if_neg c).symm.trans hh
    refine v_iload 4 dX2_result_163 rfl ?_
    refine v_bipush dX2_result_165 (by decide : _ = (23 : Int32)) ?_
    refine v_icmp_le (tgt := 177) dX2_result_167 (by decide) (fun c => ?_) (fun c => ?_)
    · replace hh := (if_pos c).symm.trans hh
      exact v_sub [0, 1, 2, 3, 4] rfl (tb_X2_result_177 hrec4 _ _ _ _ hh)
    · replace hh := (if_neg c).symm.trans hh
      exact v_sub [0, 1, 2, 3, 4, 5] rfl (tb_X2_result_170 hrec4 _ _ _ _ _ hh)
def f_X2_result_b4 (N : Nat) (lw : Nat) : Nat → Int32 → Int32 → St → Option (Int64 × St)
  | 0, _, _, _ => none
  | n + 1, x2, x3, S =>
  bnd (gN S lw) fun q1 =>
  if ((Int32.ofNat q1)) ≤ x3 then
  (some (gL S 201 0 0, S))
  else
  (bnd (gA S lw) fun q3 => chk (inb x3 q3.1) (
  lt ((q3.2 x3.toNatClampNeg) - (q3.2 x3.toNatClampNeg) / (64 : Int32) * (64 : Int32)) fun v5 =>
  bnd (gA S lw) fun q6 => chk (inb x3 q6.1) (
  lt ((q6.2 x3.toNatClampNeg) / (64 : Int32)) fun v8 =>
  if v5 = (44 : Int32) then
  (lt (if x3 < (v8 - (1 : Int32)) then (v8 - (1 : Int32)) else x3) fun v40 =>
  lt (v40 + (1 : Int32)) fun v41 =>
  f_X2_result_b4 N lw n x2 v41 S)
  else
  (if v5 = (43 : Int32) then
  (lt (if (0 : Int32) < (x2 - (1 : Int32)) then (x2 - (1 : Int32)) else (0 : Int32)) fun v35 =>
  chk (inb v35 64) (
  if (lg_cmp (gL S 201 0 v35.toNatClampNeg) (0 : Int64)) = (0 : Int32) then
  (lt (if x3 < (v8 - (1 : Int32)) then (v8 - (1 : Int32)) else x3) fun v38 =>
  lt (v38 + (1 : Int32)) fun v39 =>
  f_X2_result_b4 N lw n v35 v39 S)
  else
  (lt (x3 + (1 : Int32)) fun v37 =>
  f_X2_result_b4 N lw n v35 v37 S)))
  else
  (if v5 < (24 : Int32) then
  (f_X2_result_b156 (f_X2_result_b4 N lw n) N lw x2 x3 v5 v8 S)
  else
  (if (35 : Int32) < v5 then
  (f_X2_result_b156 (f_X2_result_b4 N lw n) N lw x2 x3 v5 v8 S)
  else
  (lt (if (0 : Int32) < (x2 - (2 : Int32)) then (x2 - (2 : Int32)) else (0 : Int32)) fun v25 =>
  chk (inb v25 64) (
  chk (inb (v25 + (1 : Int32)) 64) (
  bnd (f_X2_joined S v5 (gL S 201 0 v25.toNatClampNeg) (gL S 201 0 (v25 + (1 : Int32)).toNatClampNeg)) fun q28 =>
 lt (if q28 < (1000000 : Int64) then q28 else (1000000 : Int64)) fun v29 =>
  lt (if v29 < (-1000000 : Int64) then (-1000000 : Int64) else v29) fun v30 =>
  chk (inb v25 64) (
  lt (sL S 201 0 v25.toNatClampNeg v30) fun S32 =>
  lt (v25 + (1 : Int32)) fun v33 =>
  lt (x3 + (1 : Int32)) fun v34 =>
  f_X2_result_b4 N lw n v33 v34 S32))))))))))
set_option maxRecDepth 100000 in
set_option maxHeartbeats 4000000 in
theorem tb_X2_result_4 {l : Launch} {G : v_G} {N : Nat}   {lw : Nat} {r : Int64 × St}   : ∀ (n : Nat) (x2 : Int32) (x3 : Int32) (S : St),  f_X2_result_b4 N lw n x2 x3 S = some r → V l G yX2_result cX2_result 8 (some .long) (v_rm 1 0 0) (QL r.1 (lay G r.2)) 0 0 4 [(0, .ref (v_B G + 259)), (1, .ref (da G lw)), (2, .int x2), (3, .int x3)] [] (lay G S) := by
  intro n
  induction n with
  | zero =>
    intro x2 x3 S  hh
    rw [f_X2_result_b4] at hh
    cases hh
  | succ n ih =>
    intro x2 x3 S  hh
    rw [f_X2_result_b4] at hh
    refine v_iload_n 3 dX2_result_4 rfl rfl ?_
    refine v_aload_n 1 dX2_result_5 rfl rfl ?_
    obtain ⟨q1, eq1, hh⟩ := bnd_some hh
    refine ln_dyn eq1 dX2_result_6 ?_
    refine v_icmp_ge (tgt := 254) dX2_result_7 (by decide) (fun c => ?_) (fun c => ?_)
    · replace hh := (if_pos c).symm.trans hh
      refine v_aload_n 0 dX2_result_254 rfl rfl ?_
      refine r_Rules_stack dX2_result_255 fl_X2_9 ?_
      refine v_iconst dX2_result_258 (by decide : _ = (0 : Int32)) ?_
      refine ld_stack dX2_result_259 (inb_in (by decide)) ?_
      obtain rfl := Option.some.inj hh
      exact v_lret dX2_result_260 rfl (Nat.zero_le _) (Nat.zero_le _) ⟨rfl, rfl⟩
    · replace hh := (if_neg c).symm.trans hh
      refine v_aload_n 1 dX2_result_10 rfl rfl ?_
      refine v_iload_n 3 dX2_result_11 rfl rfl ?_
      obtain ⟨q3, eq3, hh⟩ := bnd_some hh
      obtain ⟨g4, hh⟩ := chk_some hh
      refine ld_dyn eq3 dX2_result_12 (inb_in g4) ?_
      refine v_bipush dX2_result_13 (by decide : _ = (64 : Int32)) ?_
      refine v_irem dX2_result_15 (by decide) ?_
      refine v_istore dX2_result_16 (by decide) rfl ?_
      replace hh := lt_of hh
      refine v_aload_n 2 dX2_result_18 rfl rfl ?_
      refine v_iload_n 4 dX2_result_19 rfl rfl ?_
      obtain ⟨q6, eq6, hh⟩ := bnd_some hh
      obtain ⟨g7, hh⟩ := chk_some hh
      refine ld_dyn eq6 dX2_result_20 (inb_in g7) ?_
      refine v_bipush dX2_result_21 (by decide : _ = (64 : Int32)) ?_
      refine v_idiv dX2_result_23 (by decide) ?_
      refine v_istore dX2_result_24 (by decide) rfl ?_
      replace hh := lt_of hh
      refine v_iload 1 dX2_result_26 rfl ?_
      refine v_bipush dX2_result_28 (by decide : _ = (44 : Int32)) ?_
      refine v_icmp_ne (tgt := 45) dX2_result_30 (by decide) (fun c => ?_) (fun c => ?_)
      · replace hh := (if_neg c).symm.trans hh
        refine v_iload 1 dX2_result_45 rfl ?_
        refine v_bipush dX2_result_47 (by decide : _ = (43 : Int32)) ?_
        refine v_icmp_ne (tgt := 87) dX2_result_49 (by decide) (fun c => ?_) (fun c => ?_)
        · replace hh := (if_neg c).symm.trans hh
          refine v_iload 1 dX2_result_87 rfl ?_
          refine v_bipush dX2_result_89 (by decide : _ = (24 : Int32)) ?_
          refine v_icmp_lt (tgt := 156) dX2_result_91 (by decide) (fun c => ?_) (fun c => ?_)
          · replace hh := (if_pos c).symm.trans hh
            exact v_sub [2, 3, 4, 5, 1, 0] rfl (tb_X2_result_156 (fun _ _ _ hh => ih _ _ _ hh) _ _ _ _ _ hh)
          · replace hh := (if_neg c).symm.trans hh
            refine v_iload 1 dX2_result_94 rfl ?_
            refine v_bipush dX2_result_96 (by decide : _ = (35 : Int32)) ?_
            refine v_icmp_gt (tgt := 156) dX2_result_98 (by decide) (fun c => ?_) (fun c => ?_)
            · replace hh := (if_pos c).symm.trans hh
              exact v_sub [2, 3, 4, 5, 1, 0] rfl (tb_X2_result_156 (fun _ _ _ hh => ih _ _ _ hh) _ _ _ _ _ hh)
            · replace hh := (if_neg c).symm.trans hh
              refine v_iconst dX2_result_101 (by decide : _ = (0 : Int32)) ?_
              refine v_iload_n 4 dX2_result_102 rfl rfl ?_
              refine v_iconst dX2_result_103 (by decide : _ = (2 : Int32)) ?_
              refine v_isub dX2_result_104 ?_
              refine v_mmax dX2_result_105 ml_X2_126 y_J9_max_7cf53.2 y_J9_max_7cf53.1.2.1 y_J9_max_7cf53.1.1 (Nat.le_of_ble_eq_true rfl) (Nat.le_of_ble_eq_true rfl) (Nat.zero_le _) (Nat.zero_le _) ?_
              replace hh := lt_of hh
              refine v_istore_n dX2_result_108 rfl (by decide) rfl ?_
              refine v_iload 2 dX2_result_109 rfl ?_
              refine v_aload_n 3 dX2_result_111 rfl rfl ?_
              refine r_Rules_stack dX2_result_112 fl_X2_9 ?_
              refine v_iload_n 0 dX2_result_115 rfl rfl ?_
              obtain ⟨g26, hh⟩ := chk_some hh
              replace g26 := inb_in g26
              refine ld_stack dX2_result_116 g26 ?_
              refine v_aload_n 3 dX2_result_117 rfl rfl ?_
              refine r_Rules_stack dX2_result_118 fl_X2_9 ?_
              refine v_iload_n 0 dX2_result_121 rfl rfl ?_
              refine v_iconst dX2_result_122 (by decide : _ = (1 : Int32)) ?_
              refine v_iadd dX2_result_123 ?_
              obtain ⟨g27, hh⟩ := chk_some hh
              replace g27 := inb_in g27
              refine ld_stack dX2_result_124 g27 ?_
              obtain ⟨q28, eq28, hh⟩ := bnd_some hh
              refine v_callSl (t_X2_joined eq28) dX2_result_125 y_X2_joined ml_X2_129 rfl rfl (Nat.le_of_ble_eq_true rfl) ⟨(Nat.le_of_ble_eq_true rfl), (Nat.le_of_ble_eq_true rfl)⟩ ⟨Nat.zero_le _, Nat.zero_le _⟩ ?_
              refine v_lstore dX2_result_128 (by decide) rfl ?_
              refine v_aload_n 4 dX2_result_130 rfl rfl ?_
              refine r_Rules_stack dX2_result_131 fl_X2_9 ?_
              refine v_iload_n 1 dX2_result_134 rfl rfl ?_
              refine v_ldc2 dX2_result_135 col_X2_133 ?_
              refine v_ldc2 dX2_result_138 col_X2_135 ?_
              refine v_lload 0 dX2_result_141 rfl ?_
              refine v_mminL dX2_result_143 ml_X2_76 y_J9_min_f86c9.2 y_J9_min_f86c9.1.2.1 y_J9_min_f86c9.1.1 (Nat.le_of_ble_eq_true rfl) (Nat.le_of_ble_eq_true rfl) (Nat.zero_le _) (Nat.zero_le _) ?_
              replace hh := lt_of hh
              refine v_mmaxL dX2_result_146 ml_X2_82 y_J9_max_f86c9.2 y_J9_max_f86c9.1.2.1 y_J9_max_f86c9.1.1 (Nat.le_of_ble_eq_true rfl) (Nat.le_of_ble_eq_true rfl) (Nat.zero_le _) (Nat.zero_le _) ?_
              replace hh := lt_of hh
              obtain ⟨g31, hh⟩ := chk_some hh
              replace g31 := inb_in g31
              refine st_stack dX2_result_149 g31 ?_
              replace hh := lt_of hh
              refine v_iinc (v := _ + (1 : Int32)) 1 dX2_result_150 rfl rfl (by decide) rfl ?_
              replace hh := lt_of hh
              refine v_goto (tgt := 248) dX2_result_153 (by decide) ?_
              refine v_iinc (v := _ + (1 : Int32)) 6 dX2_result_248 rfl rfl (by decide) rfl ?_
              replace hh := lt_of hh
              refine v_goto (tgt := 4) dX2_result_251 (by decide) ?_
              exact v_sub [5, 6, 1, 0] rfl (ih _ _ _ hh)
        · replace hh := (if_pos c).symm.trans hh
          refine v_iconst dX2_result_52 (by decide : _ = (0 : Int32)) ?_
          refine v_iload_n 4 dX2_result_53 rfl rfl ?_
          refine v_iconst dX2_result_54 (by decide : _ = (1 : Int32)) ?_
          refine v_isub dX2_result_55 ?_
          refine v_mmax dX2_result_56 ml_X2_126 y_J9_max_7cf53.2 y_J9_max_7cf53.1.2.1 y_J9_max_7cf53.1.1 (Nat.le_of_ble_eq_true rfl) (Nat.le_of_ble_eq_true rfl) (Nat.zero_le _) (Nat.zero_le _) ?_
          replace hh := lt_of hh
          refine v_istore_n dX2_result_59 rfl (by decide) rfl ?_
          refine v_aload_n 3 dX2_result_60 rfl rfl ?_
          refine r_Rules_stack dX2_result_61 fl_X2_9 ?_
          refine v_iload_n 0 dX2_result_64 rfl rfl ?_
          obtain ⟨g36, hh⟩ := chk_some hh
          replace g36 := inb_in g36
          refine ld_stack dX2_result_65 g36 ?_
          refine v_lconst dX2_result_66 (by decide : _ = (0 : Int64)) ?_
          refine v_lcmp dX2_result_67 ?_
          refine v_if_ne (tgt := 82) dX2_result_68 (by decide) (fun c => ?_) (fun c => ?_)
          · replace hh := (if_neg c).symm.trans hh
            refine v_iload_n 5 dX2_result_82 rfl rfl ?_
            refine v_istore_n dX2_result_83 rfl (by decide) rfl ?_
            refine v_goto (tgt := 248) dX2_result_84 (by decide) ?_
            refine v_iinc (v := _ + (1 : Int32)) 0 dX2_result_248 rfl rfl (by decide) rfl ?_
            replace hh := lt_of hh
            refine v_goto (tgt := 4) dX2_result_251 (by decide) ?_
            exact v_sub [4, 5, 1, 0] rfl (ih _ _ _ hh)
          · replace hh := (if_pos c).symm.trans hh
            refine v_iload_n 5 dX2_result_71 rfl rfl ?_
            refine v_iload 1 dX2_result_72 rfl ?_
            refine v_iconst dX2_result_74 (by decide : _ = (1 : Int32)) ?_
            refine v_isub dX2_result_75 ?_
            refine v_mmax dX2_result_76 ml_X2_126 y_J9_max_7cf53.2 y_J9_max_7cf53.1.2.1 y_J9_max_7cf53.1.1 (Nat.le_of_ble_eq_true rfl) (Nat.le_of_ble_eq_true rfl) (Nat.zero_le _) (Nat.zero_le _) ?_
            replace hh := lt_of hh
            refine v_goto (tgt := 83) dX2_result_79 (by decide) ?_
            refine v_istore_n dX2_result_83 rfl (by decide) rfl ?_
            refine v_goto (tgt := 248) dX2_result_84 (by decide) ?_
            refine v_iinc (v := _ + (1 : Int32)) 0 dX2_result_248 rfl rfl (by decide) rfl ?_
            replace hh := lt_of hh
            refine v_goto (tgt := 4) dX2_result_251 (by decide) ?_
            exact v_sub [4, 5, 1, 0] rfl (ih _ _ _ hh)
      · replace hh := (if_pos c).symm.trans hh
        refine v_iload_n 5 dX2_result_33 rfl rfl ?_
        refine v_iload 0 dX2_result_34 rfl ?_
        refine v_iconst dX2_result_36 (by decide : _ = (1 : Int32)) ?_
        refine v_isub dX2_result_37 ?_
        refine v_mmax dX2_result_38 ml_X2_126 y_J9_max_7cf53.2 y_J9_max_7cf53.1.2.1 y_J9_max_7cf53.1.1 (Nat.le_of_ble_eq_true rfl) (Nat.le_of_ble_eq_true rfl) (Nat.zero_le _) (Nat.zero_le _) ?_
        replace hh := lt_of hh
        refine v_istore_n dX2_result_41 rfl (by decide) rfl ?_
        refine v_goto (tgt := 248) dX2_result_42 (by decide) ?_
        refine v_iinc (v := _ + (1 : Int32)) 0 dX2_result_248 rfl rfl (by decide) rfl ?_
        replace hh := lt_of hh
        refine v_goto (tgt := 4) dX2_result_251 (by decide) ?_
        exact v_sub [3, 4, 5, 0] rfl (ih _ _ _ hh)
def f_X2_result (N : Nat) (S : St) (lw : Nat) : Option (Int64 × St) :=
  f_X2_result_b4 N lw N (0 : Int32) (0 : Int32) S
set_option maxRecDepth 100000 in
set_option maxHeartbeats 4000000 in
theorem t_X2_result {l : Launch} {G : v_G} {N : Nat} {S : St}   {lw : Nat} {r : Int64 × St} (hh : f_X2_result N S lw = some r) : v_M l G yX2_result cX2_result 8 (some .long) 1 0 0 [.ref (v_B G + 259), .ref (da G lw)] (lay G S) (QL r.1 (lay G r.2)) := by
  refine v_entry (by decide) (Nat.le_of_ble_eq_true rfl) ?_
  unfold f_X2_result at hh
  show V l G yX2_result cX2_result 8 (some .long) (v_rm 1 0 0) (QL r.1 (lay G r.2)) 0 0 0 [(0, .ref (v_B G + 259)), (1, .ref (da G lw))] [] (lay G S)
  refine v_iconst dX2_result_0 (by decide : _ = (0 : Int32)) ?_
  refine v_istore_n dX2_result_1 rfl (by decide) rfl ?_
  refine v_iconst dX2_result_2 (by decide : _ = (0 : Int32)) ?_
  refine v_istore_n dX2_result_3 rfl (by decide) rfl ?_
  exact v_sub [2, 3, 1, 0] rfl (tb_X2_result_4 N _ _ _ hh)
def f_X2_amount (N : Nat) (j : Nat) (S : St) (lw : Nat) (x3 : Int32) (x4 : Int32) (x5 : Int32) : Option (Int32 × St) :=
  chk (inb x4 12) (
  lt (gI S 400 j x4.toNatClampNeg) fun v2 =>
  bnd (gN S lw) fun q3 =>
  if ((Int32.ofNat q3)) = (0 : Int32) then
  (some (v2 / (2 : Int32), S))
  else
  (lt (sR S 202 0 0 j) fun S4 =>
  lt (sI S4 203 0 0 x3) fun S5 =>
  lt (sI S5 204 0 0 x4) fun S6 =>
  chk (isz x5) (
  lt (sI S6 205 0 0 x5) fun S7 =>
  bnd (f_X2_result N S7 lw) fun q9 =>
 lt (if q9.1 < v2.toInt64 then q9.1 else v2.toInt64) fun v10 =>
  lt (if v10 < (0 : Int64) then (0 : Int64) else v10) fun v11 =>
  some (v11.toInt32, q9.2))))
set_option maxRecDepth 100000 in
set_option maxHeartbeats 4000000 in
theorem t_X2_amount {l : Launch} {G : v_G} {N : Nat} {S : St}  {j : Nat} (hj : j < 66) {lw : Nat} {x3 : Int32} {x4 : Int32} {x5 : Int32} {r : Int32 × St} (hh : f_X2_amount N j S lw x3 x4 x5 = some r) : v_M l G yX2_amount cX2_amount 7 (some .int) 2 0 0 [.ref (v_B G + 259), .ref (da G lw), .ref (v_B G + (so j)), .int x3, .int x4, .int x5] (lay G S) (QI r.1 (lay G r.2)) := by
  refine v_entry (by decide) (Nat.le_of_ble_eq_true rfl) ?_
  unfold f_X2_amount at hh
  show V l G yX2_amount cX2_amount 7 (some .int) (v_rm 2 0 0) (QI r.1 (lay G r.2)) 0 0 0 [(0, .ref (v_B G + 259)), (1, .ref (da G lw)), (2, .ref (v_B G + (so j))), (3, .int x3), (4, .int x4), (5, .int x5)] [] (lay G S)
  refine v_aload_n 2 dX2_amount_0 rfl rfl ?_
  refine r_Sheet_cells hj dX2_amount_1 fl_X2_26 ?_
  refine v_iload 4 dX2_amount_4 rfl ?_
  obtain ⟨g1, hh⟩ := chk_some hh
  replace g1 := inb_in g1
  refine ld_cells hj dX2_amount_6 g1 ?_
  refine v_istore dX2_amount_7 (by decide) rfl ?_
  replace hh := lt_of hh
  refine v_aload_n 2 dX2_amount_9 rfl rfl ?_
  obtain ⟨q3, eq3, hh⟩ := bnd_some hh
  refine ln_dyn eq3 dX2_amount_10 ?_
  refine v_if_ne (tgt := 19) dX2_amount_11 (by decide) (fun c => ?_) (fun c => ?_)
  · replace hh := (if_neg c).symm.trans hh
    refine v_aload_n 1 dX2_amount_19 rfl rfl ?_
    refine v_aload_n 3 dX2_amount_20 rfl rfl ?_
    refine w_Rules_sheet dX2_amount_21 fl_X2_25 ?_
    replace hh := lt_of hh
    refine v_aload_n 1 dX2_amount_24 rfl rfl ?_
    refine v_iload_n 4 dX2_amount_25 rfl rfl ?_
    refine w_Rules_hand dX2_amount_26 fl_X2_62 ?_
    replace hh := lt_of hh
    refine v_aload_n 1 dX2_amount_29 rfl rfl ?_
    refine v_iload 5 dX2_amount_30 rfl ?_
    refine w_Rules_cell dX2_amount_32 fl_X2_65 ?_
    replace hh := lt_of hh
    refine v_aload_n 1 dX2_amount_35 rfl rfl ?_
    refine v_iload 6 dX2_amount_36 rfl ?_
    obtain ⟨g8, hh⟩ := chk_some hh
    refine w_Rules_right dX2_amount_38 fl_X2_68 (isz_or g8) ?_
    replace hh := lt_of hh
    refine v_lconst dX2_amount_41 (by decide : _ = (0 : Int64)) ?_
    refine v_iload 0 dX2_amount_42 rfl ?_
    refine v_i2l dX2_amount_44 ?_
    refine v_aload_n 1 dX2_amount_45 rfl rfl ?_
    refine v_aload_n 2 dX2_amount_46 rfl rfl ?_
    obtain ⟨q9, eq9, hh⟩ := bnd_some hh
    refine v_callVl (t_X2_result eq9) dX2_amount_47 y_X2_result ml_X2_72 (ci := 1) rfl rfl (e_Rules) rfl rfl (Nat.le_of_ble_eq_true rfl) ⟨(Nat.le_of_ble_eq_true rfl), (Nat.le_of_ble_eq_true rfl)⟩ ⟨Nat.zero_le _, Nat.zero_le _⟩ ?_
    refine v_mminL dX2_amount_50 ml_X2_76 y_J9_min_f86c9.2 y_J9_min_f86c9.1.2.1 y_J9_min_f86c9.1.1 (Nat.le_of_ble_eq_true rfl) (Nat.le_of_ble_eq_true rfl) (Nat.zero_le _) (Nat.zero_le _) ?_
    replace hh := lt_of hh
    refine v_mmaxL dX2_amount_53 ml_X2_82 y_J9_max_f86c9.2 y_J9_max_f86c9.1.2.1 y_J9_max_f86c9.1.1 (Nat.le_of_ble_eq_true rfl) (Nat.le_of_ble_eq_true rfl) (Nat.zero_le _) (Nat.zero_le _) ?_
    replace hh := lt_of hh
    refine v_l2i dX2_amount_56 ?_
    obtain rfl := Option.some.inj hh
    exact v_iret dX2_amount_57 rfl (Nat.zero_le _) (Nat.zero_le _) ⟨rfl, rfl⟩
  · replace hh := (if_pos c).symm.trans hh
    refine v_iload 0 dX2_amount_14 rfl ?_
    refine v_iconst dX2_amount_16 (by decide : _ = (2 : Int32)) ?_
    refine v_idiv dX2_amount_17 (by decide) ?_
    obtain rfl := Option.some.inj hh
    exact v_iret dX2_amount_18 rfl (Nat.zero_le _) (Nat.zero_le _) ⟨rfl, rfl⟩
def f_X2_tearing (N : Nat) (j : Nat) (S : St) (x2 : Int32) : Option (Int32 × St) :=
  bnd (f_X8_tearsOf 0 S (gI S 809 0 0)) fun q1 =>
 bnd (gN S q1) fun q2 =>
  if ((Int32.ofNat q2)) = (0 : Int32) then
  (some ((3 : Int32), S))
  else
  (lt (sR S 202 0 0 j) fun S3 =>
  lt (sI S3 204 0 0 x2) fun S4 =>
  bnd (f_X2_result N S4 q1) fun q5 =>
 lt (if q5.1 < (99 : Int64) then q5.1 else (99 : Int64)) fun v6 =>
  lt (if v6 < (0 : Int64) then (0 : Int64) else v6) fun v7 =>
  some (v7.toInt32, q5.2))
set_option maxRecDepth 100000 in
set_option maxHeartbeats 4000000 in
theorem t_X2_tearing {l : Launch} {G : v_G} {N : Nat} {S : St}  {j : Nat} (hj : j < 66) {x2 : Int32} {r : Int32 × St} (hh : f_X2_tearing N j S x2 = some r) : v_M l G yX2_tearing cX2_tearing 4 (some .int) 2 0 0 [.ref (v_B G + 259), .ref (v_B G + (so j)), .int x2] (lay G S) (QI r.1 (lay G r.2)) := by
  refine v_entry (by decide) (Nat.le_of_ble_eq_true rfl) ?_
  unfold f_X2_tearing at hh
  show V l G yX2_tearing cX2_tearing 4 (some .int) (v_rm 2 0 0) (QI r.1 (lay G r.2)) 0 0 0 [(0, .ref (v_B G + 259)), (1, .ref (v_B G + (so j))), (2, .int x2)] [] (lay G S)
  refine v_aload_n 0 dX2_tearing_0 rfl rfl ?_
  refine r_Rules_world dX2_tearing_1 fl_X2_15 ?_
  refine v_aload_n 0 dX2_tearing_4 rfl rfl ?_
  refine r_Rules_world dX2_tearing_5 fl_X2_15 ?_
  refine r_World_law (by decide) dX2_tearing_8 fl_X2_32 ?_
  obtain ⟨q1, eq1, hh⟩ := bnd_some hh
  refine v_callVr (t_X8_tearsOf (by decide) eq1) dX2_tearing_11 y_X8_tearsOf ml_X2_85 (ci := 7) rfl rfl (e_World (by decide)) rfl rfl (Nat.le_of_ble_eq_true rfl) ⟨(Nat.le_of_ble_eq_true rfl), (Nat.le_of_ble_eq_true rfl)⟩ ⟨Nat.zero_le _, Nat.zero_le _⟩ ?_
  refine v_astore_n dX2_tearing_14 rfl (by decide) rfl ?_
  refine v_aload_n 0 dX2_tearing_15 rfl rfl ?_
  obtain ⟨q2, eq2, hh⟩ := bnd_some hh
  refine ln_dyn eq2 dX2_tearing_16 ?_
  refine v_if_ne (tgt := 22) dX2_tearing_17 (by decide) (fun c => ?_) (fun c => ?_)
  · replace hh := (if_neg c).symm.trans hh
    refine v_aload_n 1 dX2_tearing_22 rfl rfl ?_
    refine v_aload_n 2 dX2_tearing_23 rfl rfl ?_
    refine w_Rules_sheet dX2_tearing_24 fl_X2_25 ?_
    replace hh := lt_of hh
    refine v_aload_n 1 dX2_tearing_27 rfl rfl ?_
    refine v_iload_n 3 dX2_tearing_28 rfl rfl ?_
    refine w_Rules_cell dX2_tearing_29 fl_X2_65 ?_
    replace hh := lt_of hh
    refine v_lconst dX2_tearing_32 (by decide : _ = (0 : Int64)) ?_
    refine v_ldc2 dX2_tearing_33 col_X2_88 ?_
    refine v_aload_n 1 dX2_tearing_36 rfl rfl ?_
    refine v_aload_n 0 dX2_tearing_37 rfl rfl ?_
    obtain ⟨q5, eq5, hh⟩ := bnd_some hh
    refine v_callVl (t_X2_result eq5) dX2_tearing_38 y_X2_result ml_X2_72 (ci := 1) rfl rfl (e_Rules) rfl rfl (Nat.le_of_ble_eq_true rfl) ⟨(Nat.le_of_ble_eq_true rfl), (Nat.le_of_ble_eq_true rfl)⟩ ⟨Nat.zero_le _, Nat.zero_le _⟩ ?_
    refine v_mminL dX2_tearing_41 ml_X2_76 y_J9_min_f86c9.2 y_J9_min_f86c9.1.2.1 y_J9_min_f86c9.1.1 (Nat.le_of_ble_eq_true rfl) (Nat.le_of_ble_eq_true rfl) (Nat.zero_le _) (Nat.zero_le _) ?_
    replace hh := lt_of hh
    refine v_mmaxL dX2_tearing_44 ml_X2_82 y_J9_max_f86c9.2 y_J9_max_f86c9.1.2.1 y_J9_max_f86c9.1.1 (Nat.le_of_ble_eq_true rfl) (Nat.le_of_ble_eq_true rfl) (Nat.zero_le _) (Nat.zero_le _) ?_
    replace hh := lt_of hh
    refine v_l2i dX2_tearing_47 ?_
    obtain rfl := Option.some.inj hh
    exact v_iret dX2_tearing_48 rfl (Nat.zero_le _) (Nat.zero_le _) ⟨rfl, rfl⟩
  · replace hh := (if_pos c).symm.trans hh
    refine v_iconst dX2_tearing_20 (by decide : _ = (3 : Int32)) ?_
    obtain rfl := Option.some.inj hh
    exact v_iret dX2_tearing_21 rfl (Nat.zero_le _) (Nat.zero_le _) ⟨rfl, rfl⟩
def f_X2_push_b178 (N : Nat) (j : Nat) (x6 : Int32) (s0 : Int32) (s1 : Int32) (s2 : Int32) (S : St) : Option (Int32 × St) :=
  bnd (f_X4_write j S s2 (s1 + s0) x6) fun q12 =>
 some (x6, q12)
set_option maxRecDepth 100000 in
set_option maxHeartbeats 4000000 in
theorem tb_X2_push_178 {l : Launch} {G : v_G} {N : Nat}  {j : Nat} (hj : j < 66)  {r : Int32 × St}   : ∀ (x6 : Int32) (s0 : Int32) (s1 : Int32) (s2 : Int32) (S : St),  f_X2_push_b178 N j x6 s0 s1 s2 S = some r → V l G yX2_push cX2_push 9 (some .int) (v_rm 3 0 0) (QI r.1 (lay G r.2)) 0 0 178 [(6, .int x6)] [.int s0, .int s1, .int s2, .ref (v_B G + (so j))] (lay G S) := by
  intro x6 s0 s1 s2 S  hh
  unfold f_X2_push_b178 at hh
  refine v_iadd dX2_push_178 ?_
  refine v_iload 0 dX2_push_179 rfl ?_
  obtain ⟨q12, eq12, hh⟩ := bnd_some hh
  refine v_callVv (t_X4_write hj eq12) dX2_push_181 y_X4_write ml_X2_58 (ci := 3) rfl rfl (e_Sheet hj) rfl rfl (Nat.le_of_ble_eq_true rfl) ⟨(Nat.le_of_ble_eq_true rfl), (Nat.le_of_ble_eq_true rfl)⟩ ⟨Nat.zero_le _, Nat.zero_le _⟩ ?_
  refine v_iload 0 dX2_push_184 rfl ?_
  obtain rfl := Option.some.inj hh
  exact v_iret dX2_push_186 rfl (Nat.zero_le _) (Nat.zero_le _) ⟨rfl, rfl⟩
def f_X2_push_b163 (N : Nat) (j : Nat) (x2 : Int32) (x3 : Int32) (x4 : Int32) (x6 : Int32) (S : St) : Option (Int32 × St) :=
  if x4 = (0 : Int32) then
  (f_X2_push_b178 N j x6 (0 : Int32) ((2 : Int32) * x3) x2 S)
  else
  (f_X2_push_b178 N j x6 (1 : Int32) ((2 : Int32) * x3) x2 S)
set_option maxRecDepth 100000 in
set_option maxHeartbeats 4000000 in
theorem tb_X2_push_163 {l : Launch} {G : v_G} {N : Nat}  {j : Nat} (hj : j < 66)  {r : Int32 × St}   : ∀ (x2 : Int32) (x3 : Int32) (x4 : Int32) (x6 : Int32) (S : St),  f_X2_push_b163 N j x2 x3 x4 x6 S = some r → V l G yX2_push cX2_push 9 (some .int) (v_rm 3 0 0) (QI r.1 (lay G r.2)) 0 0 163 [(1, .ref (v_B G + (so j))), (2, .int x2), (3, .int x3), (4, .int x4), (6, .int x6)] [] (lay G S) := by
  intro x2 x3 x4 x6 S  hh
  unfold f_X2_push_b163 at hh
  refine v_aload_n 0 dX2_push_163 rfl rfl ?_
  refine v_iload_n 1 dX2_push_164 rfl rfl ?_
  refine v_iconst dX2_push_165 (by decide : _ = (2 : Int32)) ?_
  refine v_iload_n 2 dX2_push_166 rfl rfl ?_
  refine v_imul dX2_push_167 ?_
  refine v_iload 3 dX2_push_168 rfl ?_
  refine v_if_eq (tgt := 177) dX2_push_170 (by decide) (fun c => ?_) (fun c => ?_)
  · replace hh := (if_pos c).symm.trans hh
    refine v_iconst dX2_push_177 (by decide : _ = (0 : Int32)) ?_
    exact v_sub [4] rfl (tb_X2_push_178 hj _ _ _ _ _ hh)
  · replace hh := (if_neg c).symm.trans hh
    refine v_iconst dX2_push_173 (by decide : _ = (1 : Int32)) ?_
    refine v_goto (tgt := 178) dX2_push_174 (by decide) ?_
    exact v_sub [4] rfl (tb_X2_push_178 hj _ _ _ _ _ hh)
def f_X2_push_b136 (N : Nat) (j : Nat) (x2 : Int32) (x3 : Int32) (x4 : Int32) (x6 : Int32) (S : St) : Option (Int32 × St) :=
  chk (inb x3 12) (
  bnd (f_X2_tearing N j S x3) fun q11 =>
 if q11.1 ≤ (gI S 400 j x3.toNatClampNeg) then
  (f_X2_push_b163 N j x2 x3 x4 x6 q11.2)
  else
  (lt (sI q11.2 404 j 0 ((gI q11.2 404 j 0) ||| ((1 : Int32) <<< (x3 &&& 31)))) fun S13 =>
  f_X2_push_b163 N j x2 x3 x4 x6 S13))
set_option maxRecDepth 100000 in
set_option maxHeartbeats 4000000 in
theorem tb_X2_push_136 {l : Launch} {G : v_G} {N : Nat}  {j : Nat} (hj : j < 66)  {r : Int32 × St}   : ∀ (x2 : Int32) (x3 : Int32) (x4 : Int32) (x6 : Int32) (S : St),  f_X2_push_b136 N j x2 x3 x4 x6 S = some r → V l G yX2_push cX2_push 9 (some .int) (v_rm 3 0 0) (QI r.1 (lay G r.2)) 0 0 136 [(0, .ref (v_B G + 259)), (1, .ref (v_B G + (so j))), (2, .int x2), (3, .int x3), (4, .int x4), (6, .int x6)] [] (lay G S) := by
  intro x2 x3 x4 x6 S  hh
  unfold f_X2_push_b136 at hh
  refine v_aload_n 1 dX2_push_136 rfl rfl ?_
  refine r_Sheet_cells hj dX2_push_137 fl_X2_26 ?_
  refine v_iload_n 3 dX2_push_140 rfl rfl ?_
  obtain ⟨g10, hh⟩ := chk_some hh
  replace g10 := inb_in g10
  refine ld_cells hj dX2_push_141 g10 ?_
  refine v_aload_n 0 dX2_push_142 rfl rfl ?_
  refine v_aload_n 1 dX2_push_143 rfl rfl ?_
  refine v_iload_n 3 dX2_push_144 rfl rfl ?_
  obtain ⟨q11, eq11, hh⟩ := bnd_some hh
  refine v_callVi (t_X2_tearing hj eq11) dX2_push_145 y_X2_tearing ml_X2_51 (ci := 1) rfl rfl (e_Rules) rfl rfl (Nat.le_of_ble_eq_true rfl) ⟨(Nat.le_of_ble_eq_true rfl), (Nat.le_of_ble_eq_true rfl)⟩ ⟨Nat.zero_le _, Nat.zero_le _⟩ ?_
  refine v_icmp_ge (tgt := 163) dX2_push_148 (by decide) (fun c => ?_) (fun c => ?_)
  · replace hh := (if_pos c).symm.trans hh
    exact v_sub [1, 2, 3, 4, 5] rfl (tb_X2_push_163 hj _ _ _ _ _ hh)
  · replace hh := (if_neg c).symm.trans hh
    refine v_aload_n 1 dX2_push_151 rfl rfl ?_
    refine v_dup dX2_push_152 rfl ?_
    refine r_Sheet_torn hj dX2_push_153 fl_X2_55 ?_
    refine v_iconst dX2_push_156 (by decide : _ = (1 : Int32)) ?_
    refine v_iload_n 3 dX2_push_157 rfl rfl ?_
    refine v_ishl dX2_push_158 ?_
    refine v_ior dX2_push_159 ?_
    refine w_Sheet_torn hj dX2_push_160 fl_X2_55 ?_
    replace hh := lt_of hh
    exact v_sub [1, 2, 3, 4, 5] rfl (tb_X2_push_163 hj _ _ _ _ _ hh)
def f_X2_push_b133 (N : Nat) (j : Nat) (x2 : Int32) (x3 : Int32) (x4 : Int32) (x6 : Int32) (s0 : Int32) (s1 : Int32) (S : St) : Option (Int32 × St) :=
  bnd (f_X4_carryTowns N j S s1 s0) fun q14 =>
 f_X2_push_b136 N j x2 x3 x4 x6 q14
set_option maxRecDepth 100000 in
set_option maxHeartbeats 4000000 in
theorem tb_X2_push_133 {l : Launch} {G : v_G} {N : Nat}  {j : Nat} (hj : j < 66)  {r : Int32 × St}   : ∀ (x2 : Int32) (x3 : Int32) (x4 : Int32) (x6 : Int32) (s0 : Int32) (s1 : Int32) (S : St),  f_X2_push_b133 N j x2 x3 x4 x6 s0 s1 S = some r → V l G yX2_push cX2_push 9 (some .int) (v_rm 3 0 0) (QI r.1 (lay G r.2)) 0 0 133 [(0, .ref (v_B G + 259)), (1, .ref (v_B G + (so j))), (2, .int x2), (3, .int x3), (4, .int x4), (6, .int x6)] [.int s0, .int s1, .ref (v_B G + (so j))] (lay G S) := by
  intro x2 x3 x4 x6 s0 s1 S  hh
  unfold f_X2_push_b133 at hh
  obtain ⟨q14, eq14, hh⟩ := bnd_some hh
  refine v_callVv (t_X4_carryTowns hj eq14) dX2_push_133 y_X4_carryTowns ml_X2_47 (ci := 3) rfl rfl (e_Sheet hj) rfl rfl (Nat.le_of_ble_eq_true rfl) ⟨(Nat.le_of_ble_eq_true rfl), (Nat.le_of_ble_eq_true rfl)⟩ ⟨Nat.zero_le _, Nat.zero_le _⟩ ?_
  exact v_sub [0, 1, 2, 3, 4, 5] rfl (tb_X2_push_136 hj _ _ _ _ _ hh)
def f_X2_push_b110 (N : Nat) (j : Nat) (x2 : Int32) (x3 : Int32) (x4 : Int32) (x5 : Int32) (x6 : Int32) (x7 : Int32) (x8 : Int32) (S : St) : Option (Int32 × St) :=
  if x6 ≤ (x5 - x6) then
  (f_X2_push_b136 N j x2 x3 x4 x6 S)
  else
  (if x8 = (0 : Int32) then
  (f_X2_push_b133 N j x2 x3 x4 x6 x7 x3 S)
  else
  (f_X2_push_b133 N j x2 x3 x4 x6 (-1 : Int32) x3 S))
set_option maxRecDepth 100000 in
set_option maxHeartbeats 4000000 in
theorem tb_X2_push_110 {l : Launch} {G : v_G} {N : Nat}  {j : Nat} (hj : j < 66)  {r : Int32 × St}   : ∀ (x2 : Int32) (x3 : Int32) (x4 : Int32) (x5 : Int32) (x6 : Int32) (x7 : Int32) (x8 : Int32) (S : St),  f_X2_push_b110 N j x2 x3 x4 x5 x6 x7 x8 S = some r → V l G yX2_push cX2_push 9 (some .int) (v_rm 3 0 0) (QI r.1 (lay G r.2)) 0 0 110 [(0, .ref (v_B G + 259)), (1, .ref (v_B G + (so j))), (2, .int x2), (3, .int x3), (4, .int x4), (5, .int x5), (6, .int x6), (7, .int x7), (8, .int x8)] [] (lay G S) := by
  intro x2 x3 x4 x5 x6 x7 x8 S  hh
  unfold f_X2_push_b110 at hh
  refine v_iload 6 dX2_push_110 rfl ?_
  refine v_iload 5 dX2_push_112 rfl ?_
  refine v_iload 6 dX2_push_114 rfl ?_
  refine v_isub dX2_push_116 ?_
  refine v_icmp_le (tgt := 136) dX2_push_117 (by decide) (fun c => ?_) (fun c => ?_)
  · replace hh := (if_pos c).symm.trans hh
    exact v_sub [0, 1, 2, 3, 4, 6] rfl (tb_X2_push_136 hj _ _ _ _ _ hh)
  · replace hh := (if_neg c).symm.trans hh
    refine v_aload_n 1 dX2_push_120 rfl rfl ?_
    refine v_iload_n 3 dX2_push_121 rfl rfl ?_
    refine v_iload 8 dX2_push_122 rfl ?_
    refine v_if_eq (tgt := 131) dX2_push_124 (by decide) (fun c => ?_) (fun c => ?_)
    · replace hh := (if_pos c).symm.trans hh
      refine v_iload 7 dX2_push_131 rfl ?_
      exact v_sub [0, 1, 2, 3, 4, 6] rfl (tb_X2_push_133 hj _ _ _ _ _ _ _ hh)
    · replace hh := (if_neg c).symm.trans hh
      refine v_iconst dX2_push_127 (by decide : _ = (-1 : Int32)) ?_
      refine v_goto (tgt := 133) dX2_push_128 (by decide) ?_
      exact v_sub [0, 1, 2, 3, 4, 6] rfl (tb_X2_push_133 hj _ _ _ _ _ _ _ hh)
def f_X2_push_b66 (N : Nat) (j : Nat) (x2 : Int32) (x3 : Int32) (x4 : Int32) (x5 : Int32) (x6 : Int32) (x7 : Int32) (s0 : Int32) (S : St) : Option (Int32 × St) :=
  chk (inb x3 12) (
  lt (sI S 400 j x3.toNatClampNeg (x5 - x6)) fun S6 =>
  if s0 = (0 : Int32) then
  (chk (inb x7 12) (
  chk (inb x7 12) (
  lt (sI S6 400 j x7.toNatClampNeg ((gI S6 400 j x7.toNatClampNeg) + x6)) fun S9 =>
  f_X2_push_b110 N j x2 x3 x4 x5 x6 x7 s0 S9)))
  else
  (lt (sI S6 405 j 0 ((gI S6 405 j 0) + x6)) fun S15 =>
  f_X2_push_b110 N j x2 x3 x4 x5 x6 x7 s0 S15))
set_option maxRecDepth 100000 in
set_option maxHeartbeats 4000000 in
theorem tb_X2_push_66 {l : Launch} {G : v_G} {N : Nat}  {j : Nat} (hj : j < 66)  {r : Int32 × St}   : ∀ (x2 : Int32) (x3 : Int32) (x4 : Int32) (x5 : Int32) (x6 : Int32) (x7 : Int32) (s0 : Int32) (S : St),  f_X2_push_b66 N j x2 x3 x4 x5 x6 x7 s0 S = some r → V l G yX2_push cX2_push 9 (some .int) (v_rm 3 0 0) (QI r.1 (lay G r.2)) 0 0 66 [(0, .ref (v_B G + 259)), (1, .ref (v_B G + (so j))), (2, .int x2), (3, .int x3), (4, .int x4), (5, .int x5), (6, .int x6), (7, .int x7)] [.int s0] (lay G S) := by
  intro x2 x3 x4 x5 x6 x7 s0 S  hh
  unfold f_X2_push_b66 at hh
  refine v_istore dX2_push_66 (by decide) rfl ?_
  refine v_aload_n 2 dX2_push_68 rfl rfl ?_
  refine r_Sheet_cells hj dX2_push_69 fl_X2_26 ?_
  refine v_iload_n 4 dX2_push_72 rfl rfl ?_
  refine v_iload 6 dX2_push_73 rfl ?_
  refine v_iload 7 dX2_push_75 rfl ?_
  refine v_isub dX2_push_77 ?_
  obtain ⟨g5, hh⟩ := chk_some hh
  replace g5 := inb_in g5
  refine st_cells hj dX2_push_78 g5 ?_
  replace hh := lt_of hh
  refine v_iload 0 dX2_push_79 rfl ?_
  refine v_if_eq (tgt := 98) dX2_push_81 (by decide) (fun c => ?_) (fun c => ?_)
  · replace hh := (if_pos c).symm.trans hh
    refine v_aload_n 2 dX2_push_98 rfl rfl ?_
    refine r_Sheet_cells hj dX2_push_99 fl_X2_26 ?_
    refine v_iload 8 dX2_push_102 rfl ?_
    refine v_dup2 dX2_push_104 rfl rfl ?_
    obtain ⟨g7, hh⟩ := chk_some hh
    replace g7 := inb_in g7
    refine ld_cells hj dX2_push_105 g7 ?_
    refine v_iload 7 dX2_push_106 rfl ?_
    refine v_iadd dX2_push_108 ?_
    obtain ⟨g8, hh⟩ := chk_some hh
    replace g8 := inb_in g8
    refine st_cells hj dX2_push_109 g8 ?_
    replace hh := lt_of hh
    exact v_sub [1, 2, 3, 4, 5, 6, 7, 8, 0] rfl (tb_X2_push_110 hj _ _ _ _ _ _ _ _ hh)
  · replace hh := (if_neg c).symm.trans hh
    refine v_aload_n 2 dX2_push_84 rfl rfl ?_
    refine v_dup dX2_push_85 rfl ?_
    refine r_Sheet_edge hj dX2_push_86 fl_X2_44 ?_
    refine v_iload 7 dX2_push_89 rfl ?_
    refine v_iadd dX2_push_91 ?_
    refine w_Sheet_edge hj dX2_push_92 fl_X2_44 ?_
    replace hh := lt_of hh
    refine v_goto (tgt := 110) dX2_push_95 (by decide) ?_
    exact v_sub [1, 2, 3, 4, 5, 6, 7, 8, 0] rfl (tb_X2_push_110 hj _ _ _ _ _ _ _ _ hh)
def f_X2_push_b61 (N : Nat) (j : Nat) (x2 : Int32) (x3 : Int32) (x4 : Int32) (x5 : Int32) (x6 : Int32) (x7 : Int32) (S : St) : Option (Int32 × St) :=
  f_X2_push_b66 N j x2 x3 x4 x5 x6 x7 (1 : Int32) S
set_option maxRecDepth 100000 in
set_option maxHeartbeats 4000000 in
theorem tb_X2_push_61 {l : Launch} {G : v_G} {N : Nat}  {j : Nat} (hj : j < 66)  {r : Int32 × St}   : ∀ (x2 : Int32) (x3 : Int32) (x4 : Int32) (x5 : Int32) (x6 : Int32) (x7 : Int32) (S : St),  f_X2_push_b61 N j x2 x3 x4 x5 x6 x7 S = some r → V l G yX2_push cX2_push 9 (some .int) (v_rm 3 0 0) (QI r.1 (lay G r.2)) 0 0 61 [(0, .ref (v_B G + 259)), (1, .ref (v_B G + (so j))), (2, .int x2), (3, .int x3), (4, .int x4), (5, .int x5), (6, .int x6), (7, .int x7)] [] (lay G S) := by
  intro x2 x3 x4 x5 x6 x7 S  hh
  unfold f_X2_push_b61 at hh
  refine v_iconst dX2_push_61 (by decide : _ = (1 : Int32)) ?_
  refine v_goto (tgt := 66) dX2_push_62 (by decide) ?_
  exact v_sub [0, 1, 2, 3, 4, 5, 6, 7] rfl (tb_X2_push_66 hj _ _ _ _ _ _ _ _ hh)
def f_X2_push_b47 (N : Nat) (j : Nat) (x2 : Int32) (x3 : Int32) (x4 : Int32) (x5 : Int32) (x6 : Int32) (s0 : Int32) (S : St) : Option (Int32 × St) :=
  if s0 < (0 : Int32) then
  (f_X2_push_b61 N j x2 x3 x4 x5 x6 s0 S)
  else
  (if s0 < (12 : Int32) then
  (f_X2_push_b66 N j x2 x3 x4 x5 x6 s0 (0 : Int32) S)
  else
  (f_X2_push_b61 N j x2 x3 x4 x5 x6 s0 S))
set_option maxRecDepth 100000 in
set_option maxHeartbeats 4000000 in
theorem tb_X2_push_47 {l : Launch} {G : v_G} {N : Nat}  {j : Nat} (hj : j < 66)  {r : Int32 × St}   : ∀ (x2 : Int32) (x3 : Int32) (x4 : Int32) (x5 : Int32) (x6 : Int32) (s0 : Int32) (S : St),  f_X2_push_b47 N j x2 x3 x4 x5 x6 s0 S = some r → V l G yX2_push cX2_push 9 (some .int) (v_rm 3 0 0) (QI r.1 (lay G r.2)) 0 0 47 [(0, .ref (v_B G + 259)), (1, .ref (v_B G + (so j))), (2, .int x2), (3, .int x3), (4, .int x4), (5, .int x5), (6, .int x6)] [.int s0] (lay G S) := by
  intro x2 x3 x4 x5 x6 s0 S  hh
  unfold f_X2_push_b47 at hh
  refine v_istore dX2_push_47 (by decide) rfl ?_
  refine v_iload 0 dX2_push_49 rfl ?_
  refine v_if_lt (tgt := 61) dX2_push_51 (by decide) (fun c => ?_) (fun c => ?_)
  · replace hh := (if_pos c).symm.trans hh
    exact v_sub [1, 2, 3, 4, 5, 6, 7, 0] rfl (tb_X2_push_61 hj _ _ _ _ _ _ _ hh)
  · replace hh := (if_neg c).symm.trans hh
    refine v_iload 0 dX2_push_54 rfl ?_
    refine v_bipush dX2_push_56 (by decide : _ = (12 : Int32)) ?_
    refine v_icmp_lt (tgt := 65) dX2_push_58 (by decide) (fun c => ?_) (fun c => ?_)
    · replace hh := (if_pos c).symm.trans hh
      refine v_iconst dX2_push_65 (by decide : _ = (0 : Int32)) ?_
      exact v_sub [1, 2, 3, 4, 5, 6, 7, 0] rfl (tb_X2_push_66 hj _ _ _ _ _ _ _ _ hh)
    · replace hh := (if_neg c).symm.trans hh
      exact v_sub [1, 2, 3, 4, 5, 6, 7, 0] rfl (tb_X2_push_61 hj _ _ _ _ _ _ _ hh)
def f_X2_push (N : Nat) (j : Nat) (S : St) (x2 : Int32) (x3 : Int32) (x4 : Int32) : Option (Int32 × St) :=
  chk (inb x3 12) (
  lt (gI S 400 j x3.toNatClampNeg) fun v2 =>
  bnd (f_X8_movesOf 0 S (gI S 809 0 0)) fun q3 =>
 bnd (f_X2_amount N j S q3 x2 x3 x4) fun q4 =>
 if x4 = (0 : Int32) then
  (f_X2_push_b47 N j x2 x3 x4 v2 q4.1 (x3 - (1 : Int32)) q4.2)
  else
  (f_X2_push_b47 N j x2 x3 x4 v2 q4.1 (x3 + (1 : Int32)) q4.2))
set_option maxRecDepth 100000 in
set_option maxHeartbeats 4000000 in
theorem t_X2_push {l : Launch} {G : v_G} {N : Nat} {S : St}  {j : Nat} (hj : j < 66) {x2 : Int32} {x3 : Int32} {x4 : Int32} {r : Int32 × St} (hh : f_X2_push N j S x2 x3 x4 = some r) : v_M l G yX2_push cX2_push 9 (some .int) 3 0 0 [.ref (v_B G + 259), .ref (v_B G + (so j)), .int x2, .int x3, .int x4] (lay G S) (QI r.1 (lay G r.2)) := by
  refine v_entry (by decide) (Nat.le_of_ble_eq_true rfl) ?_
  unfold f_X2_push at hh
  show V l G yX2_push cX2_push 9 (some .int) (v_rm 3 0 0) (QI r.1 (lay G r.2)) 0 0 0 [(0, .ref (v_B G + 259)), (1, .ref (v_B G + (so j))), (2, .int x2), (3, .int x3), (4, .int x4)] [] (lay G S)
  refine v_aload_n 1 dX2_push_0 rfl rfl ?_
  refine r_Sheet_cells hj dX2_push_1 fl_X2_26 ?_
  refine v_iload_n 3 dX2_push_4 rfl rfl ?_
  obtain ⟨g1, hh⟩ := chk_some hh
  replace g1 := inb_in g1
  refine ld_cells hj dX2_push_5 g1 ?_
  refine v_istore dX2_push_6 (by decide) rfl ?_
  replace hh := lt_of hh
  refine v_aload_n 1 dX2_push_8 rfl rfl ?_
  refine v_aload_n 1 dX2_push_9 rfl rfl ?_
  refine r_Rules_world dX2_push_10 fl_X2_15 ?_
  refine v_aload_n 1 dX2_push_13 rfl rfl ?_
  refine r_Rules_world dX2_push_14 fl_X2_15 ?_
  refine r_World_law (by decide) dX2_push_17 fl_X2_32 ?_
  obtain ⟨q3, eq3, hh⟩ := bnd_some hh
  refine v_callVr (t_X8_movesOf (by decide) eq3) dX2_push_20 y_X8_movesOf ml_X2_36 (ci := 7) rfl rfl (e_World (by decide)) rfl rfl (Nat.le_of_ble_eq_true rfl) ⟨(Nat.le_of_ble_eq_true rfl), (Nat.le_of_ble_eq_true rfl)⟩ ⟨Nat.zero_le _, Nat.zero_le _⟩ ?_
  refine v_aload_n 2 dX2_push_23 rfl rfl ?_
  refine v_iload_n 3 dX2_push_24 rfl rfl ?_
  refine v_iload_n 4 dX2_push_25 rfl rfl ?_
  refine v_iload 5 dX2_push_26 rfl ?_
  obtain ⟨q4, eq4, hh⟩ := bnd_some hh
  refine v_callVi (t_X2_amount hj eq4) dX2_push_28 y_X2_amount ml_X2_40 (ci := 1) rfl rfl (e_Rules) rfl rfl (Nat.le_of_ble_eq_true rfl) ⟨(Nat.le_of_ble_eq_true rfl), (Nat.le_of_ble_eq_true rfl)⟩ ⟨Nat.zero_le _, Nat.zero_le _⟩ ?_
  refine v_istore dX2_push_31 (by decide) rfl ?_
  refine v_iload 6 dX2_push_33 rfl ?_
  refine v_if_eq (tgt := 44) dX2_push_35 (by decide) (fun c => ?_) (fun c => ?_)
  · replace hh := (if_pos c).symm.trans hh
    refine v_iload_n 5 dX2_push_44 rfl rfl ?_
    refine v_iconst dX2_push_45 (by decide : _ = (1 : Int32)) ?_
    refine v_isub dX2_push_46 ?_
    exact v_sub [2, 3, 4, 5, 6, 1, 0] rfl (tb_X2_push_47 hj _ _ _ _ _ _ _ hh)
  · replace hh := (if_neg c).symm.trans hh
    refine v_iload_n 5 dX2_push_38 rfl rfl ?_
    refine v_iconst dX2_push_39 (by decide : _ = (1 : Int32)) ?_
    refine v_iadd dX2_push_40 ?_
    refine v_goto (tgt := 47) dX2_push_41 (by decide) ?_
    exact v_sub [2, 3, 4, 5, 6, 1, 0] rfl (tb_X2_push_47 hj _ _ _ _ _ _ _ hh)
def f_X2_passTurn_b63 (N : Nat) (j : Nat)  (S : St) : Option (St) :=
  lt (sI S 407 j 0 ((gI S 407 j 0) + (1 : Int32))) fun S1 =>
  some S1
set_option maxRecDepth 100000 in
set_option maxHeartbeats 4000000 in
theorem tb_X2_passTurn_63 {l : Launch} {G : v_G} {N : Nat}  {j : Nat} (hj : j < 66)  {r : St}   : ∀  (S : St),  f_X2_passTurn_b63 N j  S = some r → V l G yX2_passTurn cX2_passTurn 4 (none) (v_rm 4 0 0) (QV (lay G r)) 0 0 63 [(1, .ref (v_B G + (so j)))] [] (lay G S) := by
  intro  S  hh
  unfold f_X2_passTurn_b63 at hh
  refine v_aload_n 0 dX2_passTurn_63 rfl rfl ?_
  refine v_dup dX2_passTurn_64 rfl ?_
  refine r_Sheet_turn hj dX2_passTurn_65 fl_X2_97 ?_
  refine v_iconst dX2_passTurn_68 (by decide : _ = (1 : Int32)) ?_
  refine v_iadd dX2_passTurn_69 ?_
  refine w_Sheet_turn hj dX2_passTurn_70 fl_X2_97 ?_
  replace hh := lt_of hh
  obtain rfl := Option.some.inj hh
  exact v_vret dX2_passTurn_73 rfl (Nat.zero_le _) (Nat.zero_le _) ⟨rfl, rfl⟩
def f_X2_passTurn_b33 (N : Nat) (j : Nat) (x2 : Int32) (s0 : Int32) (S : St) : Option (St) :=
  chk (inb x2 12) (
  if (gI S 400 j x2.toNatClampNeg) ≤ (0 : Int32) then
  (f_X2_passTurn_b63 N j S)
  else
  (chk (nz (gI S 805 0 0)) (
  bnd (f_X2_push N j S ((gI S 407 j 0) - (gI S 407 j 0) / (gI S 805 0 0) * (gI S 805 0 0)) x2 s0) fun q6 =>
 f_X2_passTurn_b63 N j q6.2)))
set_option maxRecDepth 100000 in
set_option maxHeartbeats 4000000 in
theorem tb_X2_passTurn_33 {l : Launch} {G : v_G} {N : Nat}  {j : Nat} (hj : j < 66)  {r : St}   : ∀ (x2 : Int32) (s0 : Int32) (S : St),  f_X2_passTurn_b33 N j x2 s0 S = some r → V l G yX2_passTurn cX2_passTurn 4 (none) (v_rm 4 0 0) (QV (lay G r)) 0 0 33 [(0, .ref (v_B G + 259)), (1, .ref (v_B G + (so j))), (2, .int x2)] [.int s0] (lay G S) := by
  intro x2 s0 S  hh
  unfold f_X2_passTurn_b33 at hh
  refine v_istore_n dX2_passTurn_33 rfl (by decide) rfl ?_
  refine v_aload_n 2 dX2_passTurn_34 rfl rfl ?_
  refine r_Sheet_cells hj dX2_passTurn_35 fl_X2_26 ?_
  refine v_iload_n 3 dX2_passTurn_38 rfl rfl ?_
  obtain ⟨g5, hh⟩ := chk_some hh
  replace g5 := inb_in g5
  refine ld_cells hj dX2_passTurn_39 g5 ?_
  refine v_if_le (tgt := 63) dX2_passTurn_40 (by decide) (fun c => ?_) (fun c => ?_)
  · replace hh := (if_pos c).symm.trans hh
    exact v_sub [2] rfl (tb_X2_passTurn_63 hj _ hh)
  · replace hh := (if_neg c).symm.trans hh
    refine v_aload_n 1 dX2_passTurn_43 rfl rfl ?_
    refine v_aload_n 2 dX2_passTurn_44 rfl rfl ?_
    refine v_aload_n 2 dX2_passTurn_45 rfl rfl ?_
    refine r_Sheet_turn hj dX2_passTurn_46 fl_X2_97 ?_
    refine v_aload_n 1 dX2_passTurn_49 rfl rfl ?_
    refine r_Rules_world dX2_passTurn_50 fl_X2_15 ?_
    refine r_World_hands (by decide) dX2_passTurn_53 fl_X2_90 ?_
    obtain ⟨g, hh⟩ := chk_some hh
    refine v_irem dX2_passTurn_56 (nz_ne g) ?_
    refine v_iload_n 3 dX2_passTurn_57 rfl rfl ?_
    refine v_iload_n 0 dX2_passTurn_58 rfl rfl ?_
    obtain ⟨q6, eq6, hh⟩ := bnd_some hh
    refine v_callVi (t_X2_push hj eq6) dX2_passTurn_59 y_X2_push ml_X2_100 (ci := 1) rfl rfl (e_Rules) rfl rfl (Nat.le_of_ble_eq_true rfl) ⟨(Nat.le_of_ble_eq_true rfl), (Nat.le_of_ble_eq_true rfl)⟩ ⟨Nat.zero_le _, Nat.zero_le _⟩ ?_
    refine v_pop dX2_passTurn_62 rfl ?_
    exact v_sub [2] rfl (tb_X2_passTurn_63 hj _ hh)
def f_X2_passTurn (N : Nat) (j : Nat) (S : St)  : Option (St) :=
  if (gI S 805 0 0) ≤ (0 : Int32) then
  (f_X2_passTurn_b63 N j S)
  else
  (bnd (f_X4_drawn j S ) fun q2 =>
 lt (q2.1 - q2.1 / (12 : Int32) * (12 : Int32)) fun v3 =>
  bnd (f_X4_drawn j q2.2 ) fun q4 =>
 if (q4.1 - q4.1 / (2 : Int32) * (2 : Int32)) = (1 : Int32) then
  (f_X2_passTurn_b33 N j v3 (1 : Int32) q4.2)
  else
  (f_X2_passTurn_b33 N j v3 (0 : Int32) q4.2))
set_option maxRecDepth 100000 in
set_option maxHeartbeats 4000000 in
theorem t_X2_passTurn {l : Launch} {G : v_G} {N : Nat} {S : St}  {j : Nat} (hj : j < 66)  {r : St} (hh : f_X2_passTurn N j S  = some r) : v_M l G yX2_passTurn cX2_passTurn 4 (none) 4 0 0 [.ref (v_B G + 259), .ref (v_B G + (so j))] (lay G S) (QV (lay G r)) := by
  refine v_entry (by decide) (Nat.le_of_ble_eq_true rfl) ?_
  unfold f_X2_passTurn at hh
  show V l G yX2_passTurn cX2_passTurn 4 (none) (v_rm 4 0 0) (QV (lay G r)) 0 0 0 [(0, .ref (v_B G + 259)), (1, .ref (v_B G + (so j)))] [] (lay G S)
  refine v_aload_n 0 dX2_passTurn_0 rfl rfl ?_
  refine r_Rules_world dX2_passTurn_1 fl_X2_15 ?_
  refine r_World_hands (by decide) dX2_passTurn_4 fl_X2_90 ?_
  refine v_if_le (tgt := 63) dX2_passTurn_7 (by decide) (fun c => ?_) (fun c => ?_)
  · replace hh := (if_pos c).symm.trans hh
    exact v_sub [1] rfl (tb_X2_passTurn_63 hj _ hh)
  · replace hh := (if_neg c).symm.trans hh
    refine v_aload_n 1 dX2_passTurn_10 rfl rfl ?_
    obtain ⟨q2, eq2, hh⟩ := bnd_some hh
    refine v_callVi (t_X4_drawn hj eq2) dX2_passTurn_11 y_X4_drawn ml_X2_93 (ci := 3) rfl rfl (e_Sheet hj) rfl rfl (Nat.le_of_ble_eq_true rfl) ⟨(Nat.le_of_ble_eq_true rfl), (Nat.le_of_ble_eq_true rfl)⟩ ⟨Nat.zero_le _, Nat.zero_le _⟩ ?_
    refine v_bipush dX2_passTurn_14 (by decide : _ = (12 : Int32)) ?_
    refine v_irem dX2_passTurn_16 (by decide) ?_
    refine v_istore_n dX2_passTurn_17 rfl (by decide) rfl ?_
    replace hh := lt_of hh
    refine v_aload_n 2 dX2_passTurn_18 rfl rfl ?_
    obtain ⟨q4, eq4, hh⟩ := bnd_some hh
    refine v_callVi (t_X4_drawn hj eq4) dX2_passTurn_19 y_X4_drawn ml_X2_93 (ci := 3) rfl rfl (e_Sheet hj) rfl rfl (Nat.le_of_ble_eq_true rfl) ⟨(Nat.le_of_ble_eq_true rfl), (Nat.le_of_ble_eq_true rfl)⟩ ⟨Nat.zero_le _, Nat.zero_le _⟩ ?_
    refine v_iconst dX2_passTurn_22 (by decide : _ = (2 : Int32)) ?_
    refine v_irem dX2_passTurn_23 (by decide) ?_
    refine v_iconst dX2_passTurn_24 (by decide : _ = (1 : Int32)) ?_
    refine v_icmp_ne (tgt := 32) dX2_passTurn_25 (by decide) (fun c => ?_) (fun c => ?_)
    · replace hh := (if_neg c).symm.trans hh
      refine v_iconst dX2_passTurn_32 (by decide : _ = (0 : Int32)) ?_
      exact v_sub [1, 2, 0] rfl (tb_X2_passTurn_33 hj _ _ _ hh)
    · replace hh := (if_pos c).symm.trans hh
      refine v_iconst dX2_passTurn_28 (by decide : _ = (1 : Int32)) ?_
      refine v_goto (tgt := 33) dX2_passTurn_29 (by decide) ?_
      exact v_sub [1, 2, 0] rfl (tb_X2_passTurn_33 hj _ _ _ hh)
def f_X2_passYear_b91 (N : Nat) (j : Nat) (s0 : Int32) (s1 : Int32) (s2 : Int32) (S : St) : Option (St) :=
  bnd (f_X2_push N j S s2 s1 s0) fun q4 =>
 some q4.2
set_option maxRecDepth 100000 in
set_option maxHeartbeats 4000000 in
theorem tb_X2_passYear_91 {l : Launch} {G : v_G} {N : Nat}  {j : Nat} (hj : j < 66)  {r : St}   : ∀ (s0 : Int32) (s1 : Int32) (s2 : Int32) (S : St),  f_X2_passYear_b91 N j s0 s1 s2 S = some r → V l G yX2_passYear cX2_passYear 4 (none) (v_rm 5 0 0) (QV (lay G r)) 0 0 91 [] [.int s0, .int s1, .int s2, .ref (v_B G + (so j)), .ref (v_B G + 259)] (lay G S) := by
  intro s0 s1 s2 S  hh
  unfold f_X2_passYear_b91 at hh
  obtain ⟨q4, eq4, hh⟩ := bnd_some hh
  refine v_callVi (t_X2_push hj eq4) dX2_passYear_91 y_X2_push ml_X2_100 (ci := 1) rfl rfl (e_Rules) rfl rfl (Nat.le_of_ble_eq_true rfl) ⟨(Nat.le_of_ble_eq_true rfl), (Nat.le_of_ble_eq_true rfl)⟩ ⟨Nat.zero_le _, Nat.zero_le _⟩ ?_
  refine v_pop dX2_passYear_94 rfl ?_
  refine v_goto (tgt := 148) dX2_passYear_95 (by decide) ?_
  obtain rfl := Option.some.inj hh
  exact v_vret dX2_passYear_148 rfl (Nat.zero_le _) (Nat.zero_le _) ⟨rfl, rfl⟩
def f_X2_passYear_b48 (N : Nat) (j : Nat) (x2 : Int32) (x3 : Int32) (S : St) : Option (St) :=
  if (gI S 805 0 0) ≤ (0 : Int32) then
  (some S)
  else
  (chk (inb x3 12) (
  if (gI S 400 j x3.toNatClampNeg) ≤ (0 : Int32) then
  (some S)
  else
  (chk (nz (gI S 805 0 0)) (
  if (x2 - x2 / (4 : Int32) * (4 : Int32)) ≤ (1 : Int32) then
  (f_X2_passYear_b91 N j (0 : Int32) x3 (x2 - x2 / (gI S 805 0 0) * (gI S 805 0 0)) S)
  else
  (f_X2_passYear_b91 N j (1 : Int32) x3 (x2 - x2 / (gI S 805 0 0) * (gI S 805 0 0)) S)))))
set_option maxRecDepth 100000 in
set_option maxHeartbeats 4000000 in
theorem tb_X2_passYear_48 {l : Launch} {G : v_G} {N : Nat}  {j : Nat} (hj : j < 66)  {r : St}   : ∀ (x2 : Int32) (x3 : Int32) (S : St),  f_X2_passYear_b48 N j x2 x3 S = some r → V l G yX2_passYear cX2_passYear 4 (none) (v_rm 5 0 0) (QV (lay G r)) 0 0 48 [(0, .ref (v_B G + 259)), (1, .ref (v_B G + (so j))), (2, .int x2), (3, .int x3)] [] (lay G S) := by
  intro x2 x3 S  hh
  unfold f_X2_passYear_b48 at hh
  refine v_aload_n 0 dX2_passYear_48 rfl rfl ?_
  refine r_Rules_world dX2_passYear_49 fl_X2_15 ?_
  refine r_World_hands (by decide) dX2_passYear_52 fl_X2_90 ?_
  refine v_if_le (tgt := 148) dX2_passYear_55 (by decide) (fun c => ?_) (fun c => ?_)
  · replace hh := (if_pos c).symm.trans hh
    obtain rfl := Option.some.inj hh
    exact v_vret dX2_passYear_148 rfl (Nat.zero_le _) (Nat.zero_le _) ⟨rfl, rfl⟩
  · replace hh := (if_neg c).symm.trans hh
    refine v_aload_n 1 dX2_passYear_58 rfl rfl ?_
    refine r_Sheet_cells hj dX2_passYear_59 fl_X2_26 ?_
    refine v_iload_n 3 dX2_passYear_62 rfl rfl ?_
    obtain ⟨g3, hh⟩ := chk_some hh
    replace g3 := inb_in g3
    refine ld_cells hj dX2_passYear_63 g3 ?_
    refine v_if_le (tgt := 148) dX2_passYear_64 (by decide) (fun c => ?_) (fun c => ?_)
    · replace hh := (if_pos c).symm.trans hh
      obtain rfl := Option.some.inj hh
      exact v_vret dX2_passYear_148 rfl (Nat.zero_le _) (Nat.zero_le _) ⟨rfl, rfl⟩
    · replace hh := (if_neg c).symm.trans hh
      refine v_aload_n 0 dX2_passYear_67 rfl rfl ?_
      refine v_aload_n 1 dX2_passYear_68 rfl rfl ?_
      refine v_iload_n 2 dX2_passYear_69 rfl rfl ?_
      refine v_aload_n 0 dX2_passYear_70 rfl rfl ?_
      refine r_Rules_world dX2_passYear_71 fl_X2_15 ?_
      refine r_World_hands (by decide) dX2_passYear_74 fl_X2_90 ?_
      obtain ⟨g, hh⟩ := chk_some hh
      refine v_irem dX2_passYear_77 (nz_ne g) ?_
      refine v_iload_n 3 dX2_passYear_78 rfl rfl ?_
      refine v_iload_n 2 dX2_passYear_79 rfl rfl ?_
      refine v_iconst dX2_passYear_80 (by decide : _ = (4 : Int32)) ?_
      refine v_irem dX2_passYear_81 (by decide) ?_
      refine v_iconst dX2_passYear_82 (by decide : _ = (1 : Int32)) ?_
      refine v_icmp_le (tgt := 90) dX2_passYear_83 (by decide) (fun c => ?_) (fun c => ?_)
      · replace hh := (if_pos c).symm.trans hh
        refine v_iconst dX2_passYear_90 (by decide : _ = (0 : Int32)) ?_
        exact v_sub [] rfl (tb_X2_passYear_91 hj _ _ _ _ hh)
      · replace hh := (if_neg c).symm.trans hh
        refine v_iconst dX2_passYear_86 (by decide : _ = (1 : Int32)) ?_
        refine v_goto (tgt := 91) dX2_passYear_87 (by decide) ?_
        exact v_sub [] rfl (tb_X2_passYear_91 hj _ _ _ _ hh)
def f_X2_passYear (N : Nat) (j : Nat) (S : St)  : Option (St) :=
  bnd (f_X4_drawn j S ) fun q1 =>
 lt ((q1.1 / (6 : Int32)) - (q1.1 / (6 : Int32)) / (12 : Int32) * (12 : Int32)) fun v2 =>
  if (q1.1 - q1.1 / (6 : Int32) * (6 : Int32)) = (0 : Int32) then
  (f_X2_passYear_b48 N j q1.1 v2 q1.2)
  else if (q1.1 - q1.1 / (6 : Int32) * (6 : Int32)) = (1 : Int32) then
  (f_X2_passYear_b48 N j q1.1 v2 q1.2)
  else if (q1.1 - q1.1 / (6 : Int32) * (6 : Int32)) = (2 : Int32) then
  (bnd (f_X4_cutOff j q1.2 ) fun q5 =>
 some q5)
  else if (q1.1 - q1.1 / (6 : Int32) * (6 : Int32)) = (3 : Int32) then
  (bnd (f_X4_canMend j q1.2 v2 ((1 : Int32) + (q1.1 - q1.1 / (9 : Int32) * (9 : Int32)))) fun q6 =>
 if q6 = (0 : Int32) then
  (some q1.2)
  else
  (bnd (f_X4_mend j q1.2 v2 ((1 : Int32) + (q1.1 - q1.1 / (9 : Int32) * (9 : Int32)))) fun q7 =>
 some q7))
  else (if (9999 : Int32) ≤ (gI q1.2 407 j 0) then
  (some q1.2)
  else
  (bnd (f_X2_passTurn N j q1.2 ) fun q8 =>
 some q8))
set_option maxRecDepth 100000 in
set_option maxHeartbeats 4000000 in
theorem t_X2_passYear {l : Launch} {G : v_G} {N : Nat} {S : St}  {j : Nat} (hj : j < 66)  {r : St} (hh : f_X2_passYear N j S  = some r) : v_M l G yX2_passYear cX2_passYear 4 (none) 5 0 0 [.ref (v_B G + 259), .ref (v_B G + (so j))] (lay G S) (QV (lay G r)) := by
  refine v_entry (by decide) (Nat.le_of_ble_eq_true rfl) ?_
  unfold f_X2_passYear at hh
  show V l G yX2_passYear cX2_passYear 4 (none) (v_rm 5 0 0) (QV (lay G r)) 0 0 0 [(0, .ref (v_B G + 259)), (1, .ref (v_B G + (so j)))] [] (lay G S)
  refine v_aload_n 1 dX2_passYear_0 rfl rfl ?_
  obtain ⟨q1, eq1, hh⟩ := bnd_some hh
  refine v_callVi (t_X4_drawn hj eq1) dX2_passYear_1 y_X4_drawn ml_X2_93 (ci := 3) rfl rfl (e_Sheet hj) rfl rfl (Nat.le_of_ble_eq_true rfl) ⟨(Nat.le_of_ble_eq_true rfl), (Nat.le_of_ble_eq_true rfl)⟩ ⟨Nat.zero_le _, Nat.zero_le _⟩ ?_
  refine v_istore_n dX2_passYear_4 rfl (by decide) rfl ?_
  refine v_iload_n 0 dX2_passYear_5 rfl rfl ?_
  refine v_bipush dX2_passYear_6 (by decide : _ = (6 : Int32)) ?_
  refine v_idiv dX2_passYear_8 (by decide) ?_
  refine v_bipush dX2_passYear_9 (by decide : _ = (12 : Int32)) ?_
  refine v_irem dX2_passYear_11 (by decide) ?_
  refine v_istore_n dX2_passYear_12 rfl (by decide) rfl ?_
  replace hh := lt_of hh
  refine v_iload_n 1 dX2_passYear_13 rfl rfl ?_
  refine v_bipush dX2_passYear_14 (by decide : _ = (6 : Int32)) ?_
  refine v_irem dX2_passYear_16 (by decide) ?_
  refine sw_if hh (fun c0 hh => ?_) (fun c0 hh => ?_)
  · skip
    refine v_tableIn (tgt := 48) dX2_passYear_17 (by rw [c0]; decide) (by rw [c0]; decide) (by rw [c0] <;> rfl) (by decide) ?_
    exact v_sub [2, 3, 1, 0] rfl (tb_X2_passYear_48 hj _ _ _ hh)
  · skip
    refine sw_if hh (fun c1 hh => ?_) (fun c1 hh => ?_)
    · skip
      refine v_tableIn (tgt := 48) dX2_passYear_17 (by rw [c1]; decide) (by rw [c1]; decide) (by rw [c1] <;> rfl) (by decide) ?_
      exact v_sub [2, 3, 1, 0] rfl (tb_X2_passYear_48 hj _ _ _ hh)
    · skip
      refine sw_if hh (fun c2 hh => ?_) (fun c2 hh => ?_)
      · skip
        refine v_tableIn (tgt := 98) dX2_passYear_17 (by rw [c2]; decide) (by rw [c2]; decide) (by rw [c2] <;> rfl) (by decide) ?_
        refine v_aload_n 3 dX2_passYear_98 rfl rfl ?_
        obtain ⟨q5, eq5, hh⟩ := bnd_some hh
        refine v_callVv (t_X4_cutOff hj eq5) dX2_passYear_99 y_X4_cutOff ml_X2_104 (ci := 3) rfl rfl (e_Sheet hj) rfl rfl (Nat.le_of_ble_eq_true rfl) ⟨(Nat.le_of_ble_eq_true rfl), (Nat.le_of_ble_eq_true rfl)⟩ ⟨Nat.zero_le _, Nat.zero_le _⟩ ?_
        refine v_goto (tgt := 148) dX2_passYear_102 (by decide) ?_
        obtain rfl := Option.some.inj hh
        exact v_vret dX2_passYear_148 rfl (Nat.zero_le _) (Nat.zero_le _) ⟨rfl, rfl⟩
      · skip
        refine sw_if hh (fun c3 hh => ?_) (fun c3 hh => ?_)
        · skip
          refine v_tableIn (tgt := 105) dX2_passYear_17 (by rw [c3]; decide) (by rw [c3]; decide) (by rw [c3] <;> rfl) (by decide) ?_
          refine v_aload_n 3 dX2_passYear_105 rfl rfl ?_
          refine v_iload_n 0 dX2_passYear_106 rfl rfl ?_
          refine v_iconst dX2_passYear_107 (by decide : _ = (1 : Int32)) ?_
          refine v_iload_n 1 dX2_passYear_108 rfl rfl ?_
          refine v_bipush dX2_passYear_109 (by decide : _ = (9 : Int32)) ?_
          refine v_irem dX2_passYear_111 (by decide) ?_
          refine v_iadd dX2_passYear_112 ?_
          obtain ⟨q6, eq6, hh⟩ := bnd_some hh
          refine v_callVi (t_X4_canMend hj eq6) dX2_passYear_113 y_X4_canMend ml_X2_107 (ci := 3) rfl rfl (e_Sheet hj) rfl rfl (Nat.le_of_ble_eq_true rfl) ⟨(Nat.le_of_ble_eq_true rfl), (Nat.le_of_ble_eq_true rfl)⟩ ⟨Nat.zero_le _, Nat.zero_le _⟩ ?_
          refine v_if_eq (tgt := 148) dX2_passYear_116 (by decide) (fun c => ?_) (fun c => ?_)
          · replace hh := (if_pos c).symm.trans hh
            obtain rfl := Option.some.inj hh
            exact v_vret dX2_passYear_148 rfl (Nat.zero_le _) (Nat.zero_le _) ⟨rfl, rfl⟩
          · replace hh := (if_neg c).symm.trans hh
            refine v_aload_n 3 dX2_passYear_119 rfl rfl ?_
            refine v_iload_n 0 dX2_passYear_120 rfl rfl ?_
            refine v_iconst dX2_passYear_121 (by decide : _ = (1 : Int32)) ?_
            refine v_iload_n 1 dX2_passYear_122 rfl rfl ?_
            refine v_bipush dX2_passYear_123 (by decide : _ = (9 : Int32)) ?_
            refine v_irem dX2_passYear_125 (by decide) ?_
            refine v_iadd dX2_passYear_126 ?_
            obtain ⟨q7, eq7, hh⟩ := bnd_some hh
            refine v_callVv (t_X4_mend hj eq7) dX2_passYear_127 y_X4_mend ml_X2_111 (ci := 3) rfl rfl (e_Sheet hj) rfl rfl (Nat.le_of_ble_eq_true rfl) ⟨(Nat.le_of_ble_eq_true rfl), (Nat.le_of_ble_eq_true rfl)⟩ ⟨Nat.zero_le _, Nat.zero_le _⟩ ?_
            refine v_goto (tgt := 148) dX2_passYear_130 (by decide) ?_
            obtain rfl := Option.some.inj hh
            exact v_vret dX2_passYear_148 rfl (Nat.zero_le _) (Nat.zero_le _) ⟨rfl, rfl⟩
        · skip
          refine v_tableOut (tgt := 133) dX2_passYear_17 (sw_out 4 (by decide) (fun k hk => match k, hk with | 0, _ => fun h => c0 (h.trans (by decide)) | 1, _ => fun h => c1 (h.trans (by decide)) | 2, _ => fun h => c2 (h.trans (by decide)) | 3, _ => fun h => c3 (h.trans (by decide)) | k + 4, hk => absurd hk (by omega))) (by decide) ?_
          refine v_aload_n 3 dX2_passYear_133 rfl rfl ?_
          refine r_Sheet_turn hj dX2_passYear_134 fl_X2_97 ?_
          refine v_sipush dX2_passYear_137 (by decide : _ = (9999 : Int32)) ?_
          refine v_icmp_ge (tgt := 148) dX2_passYear_140 (by decide) (fun c => ?_) (fun c => ?_)
          · replace hh := (if_pos c).symm.trans hh
            obtain rfl := Option.some.inj hh
            exact v_vret dX2_passYear_148 rfl (Nat.zero_le _) (Nat.zero_le _) ⟨rfl, rfl⟩
          · replace hh := (if_neg c).symm.trans hh
            refine v_aload_n 2 dX2_passYear_143 rfl rfl ?_
            refine v_aload_n 3 dX2_passYear_144 rfl rfl ?_
            obtain ⟨q8, eq8, hh⟩ := bnd_some hh
            refine v_callVv (t_X2_passTurn hj eq8) dX2_passYear_145 y_X2_passTurn ml_X2_114 (ci := 1) rfl rfl (e_Rules) rfl rfl (Nat.le_of_ble_eq_true rfl) ⟨(Nat.le_of_ble_eq_true rfl), (Nat.le_of_ble_eq_true rfl)⟩ ⟨Nat.zero_le _, Nat.zero_le _⟩ ?_
            obtain rfl := Option.some.inj hh
            exact v_vret dX2_passYear_148 rfl (Nat.zero_le _) (Nat.zero_le _) ⟨rfl, rfl⟩
def f_X2_isLawOfAllSaid_b20 (N : Nat) : Nat → Nat → Int32 → St → Option (Int32 × St)
  | 0, _, _, _ => none
  | n + 1, q2, x4, S =>
  if ((3 : Int32) * (gI S 811 0 0)) ≤ x4 then
  (some ((1 : Int32), S))
  else
  (if (24 : Int32) ≤ (x4 + (2 : Int32)) then
  (some ((1 : Int32), S))
  else
  (chk (inb x4 24) (
  chk (inb (x4 + (1 : Int32)) 24) (
  bnd (f_X2_amount N 0 S q2 (gI S 810 0 x4.toNatClampNeg) (gI S 810 0 (x4 + (1 : Int32)).toNatClampNeg) (1 : Int32)) fun q4 =>
 chk (inb (x4 + (2 : Int32)) 24) (
  if q4.1 = (gI q4.2 810 0 (x4 + (2 : Int32)).toNatClampNeg) then
  (lt (x4 + (3 : Int32)) fun v6 =>
  f_X2_isLawOfAllSaid_b20 N n q2 v6 q4.2)
  else
  (some ((0 : Int32), q4.2)))))))
set_option maxRecDepth 100000 in
set_option maxHeartbeats 4000000 in
theorem tb_X2_isLawOfAllSaid_20 {l : Launch} {G : v_G} {N : Nat}    {r : Int32 × St}   : ∀ (n : Nat) (q2 : Nat) (x4 : Int32) (S : St),  f_X2_isLawOfAllSaid_b20 N n q2 x4 S = some r → V l G yX2_isLawOfAllSaid cX2_isLawOfAllSaid 5 (some .boolean) (v_rm 3 0 0) (QI r.1 (lay G r.2)) 0 0 20 [(0, .ref (v_B G + 259)), (2, .ref (da G q2)), (3, .ref (v_B G + (9 + 129 * 0))), (4, .int x4)] [] (lay G S) := by
  intro n
  induction n with
  | zero =>
    intro q2 x4 S  hh
    rw [f_X2_isLawOfAllSaid_b20] at hh
    cases hh
  | succ n ih =>
    intro q2 x4 S  hh
    rw [f_X2_isLawOfAllSaid_b20] at hh
    refine v_iload 3 dX2_isLawOfAllSaid_20 rfl ?_
    refine v_iconst dX2_isLawOfAllSaid_22 (by decide : _ = (3 : Int32)) ?_
    refine v_aload_n 0 dX2_isLawOfAllSaid_23 rfl rfl ?_
    refine r_Rules_world dX2_isLawOfAllSaid_24 fl_X2_15 ?_
    refine r_World_saidCount (by decide) dX2_isLawOfAllSaid_27 fl_X2_121 ?_
    refine v_imul dX2_isLawOfAllSaid_30 ?_
    refine v_icmp_ge (tgt := 83) dX2_isLawOfAllSaid_31 (by decide) (fun c => ?_) (fun c => ?_)
    · replace hh := (if_pos c).symm.trans hh
      refine v_iconst dX2_isLawOfAllSaid_83 (by decide : _ = (1 : Int32)) ?_
      obtain rfl := Option.some.inj hh
      exact v_zret dX2_isLawOfAllSaid_84 rfl (zb (by decide)).1 (Nat.zero_le _) (Nat.zero_le _) ⟨rfl, rfl⟩
    · replace hh := (if_neg c).symm.trans hh
      refine v_iload 3 dX2_isLawOfAllSaid_34 rfl ?_
      refine v_iconst dX2_isLawOfAllSaid_36 (by decide : _ = (2 : Int32)) ?_
      refine v_iadd dX2_isLawOfAllSaid_37 ?_
      refine v_aload_n 2 dX2_isLawOfAllSaid_38 rfl rfl ?_
      refine ln_said (by decide) dX2_isLawOfAllSaid_39 ?_
      refine v_icmp_ge (tgt := 83) dX2_isLawOfAllSaid_40 (by decide) (fun c => ?_) (fun c => ?_)
      · replace hh := (if_pos c).symm.trans hh
        refine v_iconst dX2_isLawOfAllSaid_83 (by decide : _ = (1 : Int32)) ?_
        obtain rfl := Option.some.inj hh
        exact v_zret dX2_isLawOfAllSaid_84 rfl (zb (by decide)).1 (Nat.zero_le _) (Nat.zero_le _) ⟨rfl, rfl⟩
      · replace hh := (if_neg c).symm.trans hh
        refine v_aload_n 0 dX2_isLawOfAllSaid_43 rfl rfl ?_
        refine v_aload_n 1 dX2_isLawOfAllSaid_44 rfl rfl ?_
        refine v_aload_n 0 dX2_isLawOfAllSaid_45 rfl rfl ?_
        refine r_Rules_world dX2_isLawOfAllSaid_46 fl_X2_15 ?_
        refine r_World_sheet (by decide) dX2_isLawOfAllSaid_49 fl_X2_19 ?_
        refine v_aload_n 2 dX2_isLawOfAllSaid_52 rfl rfl ?_
        refine v_iload 3 dX2_isLawOfAllSaid_53 rfl ?_
        obtain ⟨g2, hh⟩ := chk_some hh
        replace g2 := inb_in g2
        refine ld_said (by decide) dX2_isLawOfAllSaid_55 g2 ?_
        refine v_aload_n 2 dX2_isLawOfAllSaid_56 rfl rfl ?_
        refine v_iload 3 dX2_isLawOfAllSaid_57 rfl ?_
        refine v_iconst dX2_isLawOfAllSaid_59 (by decide : _ = (1 : Int32)) ?_
        refine v_iadd dX2_isLawOfAllSaid_60 ?_
        obtain ⟨g3, hh⟩ := chk_some hh
        replace g3 := inb_in g3
        refine ld_said (by decide) dX2_isLawOfAllSaid_61 g3 ?_
        refine v_iconst dX2_isLawOfAllSaid_62 (by decide : _ = (1 : Int32)) ?_
        obtain ⟨q4, eq4, hh⟩ := bnd_some hh
        refine v_callVi (t_X2_amount (by decide) eq4) dX2_isLawOfAllSaid_63 y_X2_amount ml_X2_40 (ci := 1) rfl rfl (e_Rules) rfl rfl (Nat.le_of_ble_eq_true rfl) ⟨(Nat.le_of_ble_eq_true rfl), (Nat.le_of_ble_eq_true rfl)⟩ ⟨Nat.zero_le _, Nat.zero_le _⟩ ?_
        refine v_aload_n 2 dX2_isLawOfAllSaid_66 rfl rfl ?_
        refine v_iload 3 dX2_isLawOfAllSaid_67 rfl ?_
        refine v_iconst dX2_isLawOfAllSaid_69 (by decide : _ = (2 : Int32)) ?_
        refine v_iadd dX2_isLawOfAllSaid_70 ?_
        obtain ⟨g5, hh⟩ := chk_some hh
        replace g5 := inb_in g5
        refine ld_said (by decide) dX2_isLawOfAllSaid_71 g5 ?_
        refine v_icmp_eq (tgt := 77) dX2_isLawOfAllSaid_72 (by decide) (fun c => ?_) (fun c => ?_)
        · replace hh := (if_pos c).symm.trans hh
          refine v_iinc (v := _ + (3 : Int32)) 3 dX2_isLawOfAllSaid_77 rfl rfl (by decide) rfl ?_
          replace hh := lt_of hh
          refine v_goto (tgt := 20) dX2_isLawOfAllSaid_80 (by decide) ?_
          exact v_sub [1, 2, 3, 0] rfl (ih _ _ _ hh)
        · replace hh := (if_neg c).symm.trans hh
          refine v_iconst dX2_isLawOfAllSaid_75 (by decide : _ = (0 : Int32)) ?_
          obtain rfl := Option.some.inj hh
          exact v_zret dX2_isLawOfAllSaid_76 rfl (zb (by decide)).1 (Nat.zero_le _) (Nat.zero_le _) ⟨rfl, rfl⟩
def f_X2_isLawOfAllSaid (N : Nat) (S : St) (x1 : Int32) : Option (Int32 × St) :=
  bnd (f_X8_movesOf 0 S x1) fun q1 =>
 f_X2_isLawOfAllSaid_b20 N N q1 (0 : Int32) S
set_option maxRecDepth 100000 in
set_option maxHeartbeats 4000000 in
theorem t_X2_isLawOfAllSaid {l : Launch} {G : v_G} {N : Nat} {S : St}   {x1 : Int32} {r : Int32 × St} (hh : f_X2_isLawOfAllSaid N S x1 = some r) : v_M l G yX2_isLawOfAllSaid cX2_isLawOfAllSaid 5 (some .boolean) 3 0 0 [.ref (v_B G + 259), .int x1] (lay G S) (QI r.1 (lay G r.2)) := by
  refine v_entry (by decide) (Nat.le_of_ble_eq_true rfl) ?_
  unfold f_X2_isLawOfAllSaid at hh
  show V l G yX2_isLawOfAllSaid cX2_isLawOfAllSaid 5 (some .boolean) (v_rm 3 0 0) (QI r.1 (lay G r.2)) 0 0 0 [(0, .ref (v_B G + 259)), (1, .int x1)] [] (lay G S)
  refine v_aload_n 0 dX2_isLawOfAllSaid_0 rfl rfl ?_
  refine r_Rules_world dX2_isLawOfAllSaid_1 fl_X2_15 ?_
  refine v_iload_n 1 dX2_isLawOfAllSaid_4 rfl rfl ?_
  obtain ⟨q1, eq1, hh⟩ := bnd_some hh
  refine v_callVr (t_X8_movesOf (by decide) eq1) dX2_isLawOfAllSaid_5 y_X8_movesOf ml_X2_36 (ci := 7) rfl rfl (e_World (by decide)) rfl rfl (Nat.le_of_ble_eq_true rfl) ⟨(Nat.le_of_ble_eq_true rfl), (Nat.le_of_ble_eq_true rfl)⟩ ⟨Nat.zero_le _, Nat.zero_le _⟩ ?_
  refine v_astore_n dX2_isLawOfAllSaid_8 rfl (by decide) rfl ?_
  refine v_aload_n 1 dX2_isLawOfAllSaid_9 rfl rfl ?_
  refine r_Rules_world dX2_isLawOfAllSaid_10 fl_X2_15 ?_
  refine r_World_said (by decide) dX2_isLawOfAllSaid_13 fl_X2_118 ?_
  refine v_astore_n dX2_isLawOfAllSaid_16 rfl (by decide) rfl ?_
  refine v_iconst dX2_isLawOfAllSaid_17 (by decide : _ = (0 : Int32)) ?_
  refine v_istore dX2_isLawOfAllSaid_18 (by decide) rfl ?_
  exact v_sub [3, 2, 1, 0] rfl (tb_X2_isLawOfAllSaid_20 N _ _ _ hh)
