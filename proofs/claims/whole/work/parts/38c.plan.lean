def f_X7_isPlan_b29 (rec : Nat → Int32 → Int32 → Int32 → Int32 → St → Option (Int32 × St)) (N : Nat) (x5 : Int32) (S : St) : Option (Int32 × St) :=
  if x5 = (0 : Int32) then
  (some ((1 : Int32), S))
  else
  (some ((0 : Int32), S))
set_option maxRecDepth 100000 in
set_option maxHeartbeats 4000000 in
theorem tb_X7_isPlan_29 {l : Launch} {G : v_G} {N : Nat} {d : Nat} (hd3 : 5 ≤ d) {rec : Nat → Int32 → Int32 → Int32 → Int32 → St → Option (Int32 × St)} (hg0 : ∀ (x1 x2 x3 x4 : Int32) (S : St) (r : Int32 × St), rec 0 x1 x2 x3 x4 S = some r → v_M l G yX7_isPlan cX7_isPlan 9 (some .boolean) d 0 0 [.ref (v_B G + 261), .int x1, .int x2, .int x3, .int x4] (lay G S) (QI r.1 (lay G r.2)))   {r : Int32 × St}   : ∀ (x5 : Int32) (S : St),  f_X7_isPlan_b29 rec N x5 S = some r → V l G yX7_isPlan cX7_isPlan 9 (some .boolean) (v_rm (d + 1) 0 0) (QI r.1 (lay G r.2)) 0 0 29 [(5, .int x5)] [] (lay G S) := by
  intro x5 S  hh
  unfold f_X7_isPlan_b29 at hh
  refine v_iload 0 dX7_isPlan_29 rfl ?_
  refine v_if_ne (tgt := 38) dX7_isPlan_31 (by decide) (fun c => ?_) (fun c => ?_)
  · replace hh := (if_neg c).symm.trans hh
    refine v_iconst dX7_isPlan_38 (by decide : _ = (0 : Int32)) ?_
    obtain rfl := Option.some.inj hh
    exact v_zret dX7_isPlan_39 rfl (zb (by decide)).1 (Nat.zero_le _) (Nat.zero_le _) ⟨rfl, rfl⟩
  · replace hh := (if_pos c).symm.trans hh
    refine v_iconst dX7_isPlan_34 (by decide : _ = (1 : Int32)) ?_
    refine v_goto (tgt := 39) dX7_isPlan_35 (by decide) ?_
    obtain rfl := Option.some.inj hh
    exact v_zret dX7_isPlan_39 rfl (zb (by decide)).1 (Nat.zero_le _) (Nat.zero_le _) ⟨rfl, rfl⟩
def f_X7_isPlan_b94 (rec58 : (Int32 → Int32 → Int32 → Int32 → Int32 → Int32 → St → Option (Int32 × St))) (rec : Nat → Int32 → Int32 → Int32 → Int32 → St → Option (Int32 × St)) (N : Nat) (x1 : Int32) (x2 : Int32) (x3 : Int32) (x4 : Int32) (x6 : Int32) (x7 : Int32) (s0 : Int32) (S : St) : Option (Int32 × St) :=
  if s0 = (0 : Int32) then
  (lt (x7 + (1 : Int32)) fun v3 =>
  rec58 x1 x2 x3 x4 x6 v3 S)
  else
  (bnd (f_X7_tried N S x1 x3 x7) fun q4 =>
 if q4.1 = (0 : Int32) then
  (lt (x7 + (1 : Int32)) fun v5 =>
  rec58 x1 x2 x3 x4 x6 v5 q4.2)
  else
  (chk (inb (x1 + (1 : Int32)) 4) (
  chk (inb x1 4) (
  if (gI q4.2 404 (62 + (x1 + (1 : Int32)).toNatClampNeg) 0) = (gI q4.2 404 (62 + x1.toNatClampNeg) 0) then
  (chk (inb x1 3) (
  lt (sI q4.2 704 0 x1.toNatClampNeg x7) fun S10 =>
  bnd (rec 0 (x1 + (1 : Int32)) x2 x3 x4 S10) fun q11 =>
  if q11.1 = (0 : Int32) then
  (lt (x7 + (1 : Int32)) fun v12 =>
  rec58 x1 x2 x3 x4 x6 v12 q11.2)
  else
  (some ((1 : Int32), q11.2))))
  else
  (lt (x7 + (1 : Int32)) fun v8 =>
  rec58 x1 x2 x3 x4 x6 v8 q4.2)))))
set_option maxRecDepth 100000 in
set_option maxHeartbeats 4000000 in
theorem tb_X7_isPlan_94 {l : Launch} {G : v_G} {N : Nat} {d : Nat} (hd3 : 5 ≤ d) {rec : Nat → Int32 → Int32 → Int32 → Int32 → St → Option (Int32 × St)} (hg0 : ∀ (x1 x2 x3 x4 : Int32) (S : St) (r : Int32 × St), rec 0 x1 x2 x3 x4 S = some r → v_M l G yX7_isPlan cX7_isPlan 9 (some .boolean) d 0 0 [.ref (v_B G + 261), .int x1, .int x2, .int x3, .int x4] (lay G S) (QI r.1 (lay G r.2)))   {r : Int32 × St} {rec58 : (Int32 → Int32 → Int32 → Int32 → Int32 → Int32 → St → Option (Int32 × St))} (hrec58 : ∀ (x1 : Int32) (x2 : Int32) (x3 : Int32) (x4 : Int32) (x6 : Int32) (x7 : Int32) (S : St),  rec58 x1 x2 x3 x4 x6 x7 S = some r → V l G yX7_isPlan cX7_isPlan 9 (some .boolean) (v_rm (d + 1) 0 0) (QI r.1 (lay G r.2)) 0 0 58 [(0, .ref (v_B G + 261)), (1, .int x1), (2, .int x2), (3, .int x3), (4, .int x4), (6, .int x6), (7, .int x7)] [] (lay G S)) : ∀ (x1 : Int32) (x2 : Int32) (x3 : Int32) (x4 : Int32) (x6 : Int32) (x7 : Int32) (s0 : Int32) (S : St),  f_X7_isPlan_b94 rec58 rec N x1 x2 x3 x4 x6 x7 s0 S = some r → V l G yX7_isPlan cX7_isPlan 9 (some .boolean) (v_rm (d + 1) 0 0) (QI r.1 (lay G r.2)) 0 0 94 [(0, .ref (v_B G + 261)), (1, .int x1), (2, .int x2), (3, .int x3), (4, .int x4), (6, .int x6), (7, .int x7)] [.int s0] (lay G S) := by
  intro x1 x2 x3 x4 x6 x7 s0 S  hh
  unfold f_X7_isPlan_b94 at hh
  refine v_istore dX7_isPlan_94 (by decide) rfl ?_
  refine v_iload 0 dX7_isPlan_96 rfl ?_
  refine v_if_eq (tgt := 159) dX7_isPlan_98 (by decide) (fun c => ?_) (fun c => ?_)
  · replace hh := (if_pos c).symm.trans hh
    refine v_iinc (v := _ + (1 : Int32)) 7 dX7_isPlan_159 rfl rfl (by decide) rfl ?_
    replace hh := lt_of hh
    refine v_goto (tgt := 58) dX7_isPlan_162 (by decide) ?_
    exact v_sub [2, 3, 4, 5, 6, 7, 0] rfl (hrec58 _ _ _ _ _ _ _ hh)
  · replace hh := (if_neg c).symm.trans hh
    refine v_aload_n 1 dX7_isPlan_101 rfl rfl ?_
    refine v_iload_n 2 dX7_isPlan_102 rfl rfl ?_
    refine v_iload_n 4 dX7_isPlan_103 rfl rfl ?_
    refine v_iload 7 dX7_isPlan_104 rfl ?_
    obtain ⟨q4, eq4, hh⟩ := bnd_some hh
    refine v_callVi (t_X7_tried eq4) dX7_isPlan_106 y_X7_tried ml_X7_62 (ci := 6) rfl rfl (e_Trials) rfl rfl (Nat.le_of_ble_eq_true rfl) ⟨by show _ ≤ d + 1; omega, by show _ ≤ 64 * (d + 1); omega⟩ ⟨Nat.zero_le _, Nat.zero_le _⟩ ?_
    refine v_if_eq (tgt := 159) dX7_isPlan_109 (by decide) (fun c => ?_) (fun c => ?_)
    · replace hh := (if_pos c).symm.trans hh
      refine v_iinc (v := _ + (1 : Int32)) 7 dX7_isPlan_159 rfl rfl (by decide) rfl ?_
      replace hh := lt_of hh
      refine v_goto (tgt := 58) dX7_isPlan_162 (by decide) ?_
      exact v_sub [2, 3, 4, 5, 6, 7, 0] rfl (hrec58 _ _ _ _ _ _ _ hh)
    · replace hh := (if_neg c).symm.trans hh
      refine v_aload_n 1 dX7_isPlan_112 rfl rfl ?_
      refine r_Trials_tries dX7_isPlan_113 fl_X7_11 ?_
      refine v_iload_n 2 dX7_isPlan_116 rfl rfl ?_
      refine v_iconst dX7_isPlan_117 (by decide : _ = (1 : Int32)) ?_
      refine v_iadd dX7_isPlan_118 ?_
      obtain ⟨g6, hh⟩ := chk_some hh
      replace g6 := inb_in g6
      refine ld_tries dX7_isPlan_119 g6 ?_
      refine r_Sheet_torn (ix_tries g6) dX7_isPlan_120 fl_X7_72 ?_
      refine v_aload_n 1 dX7_isPlan_123 rfl rfl ?_
      refine r_Trials_tries dX7_isPlan_124 fl_X7_11 ?_
      refine v_iload_n 2 dX7_isPlan_127 rfl rfl ?_
      obtain ⟨g7, hh⟩ := chk_some hh
      replace g7 := inb_in g7
      refine ld_tries dX7_isPlan_128 g7 ?_
      refine r_Sheet_torn (ix_tries g7) dX7_isPlan_129 fl_X7_72 ?_
      refine v_icmp_ne (tgt := 159) dX7_isPlan_132 (by decide) (fun c => ?_) (fun c => ?_)
      · replace hh := (if_neg c).symm.trans hh
        refine v_iinc (v := _ + (1 : Int32)) 7 dX7_isPlan_159 rfl rfl (by decide) rfl ?_
        replace hh := lt_of hh
        refine v_goto (tgt := 58) dX7_isPlan_162 (by decide) ?_
        exact v_sub [2, 3, 4, 5, 6, 7, 0] rfl (hrec58 _ _ _ _ _ _ _ hh)
      · replace hh := (if_pos c).symm.trans hh
        refine v_aload_n 1 dX7_isPlan_135 rfl rfl ?_
        refine r_Trials_found dX7_isPlan_136 fl_X7_17 ?_
        refine v_iload_n 2 dX7_isPlan_139 rfl rfl ?_
        refine v_iload 7 dX7_isPlan_140 rfl ?_
        obtain ⟨g9, hh⟩ := chk_some hh
        replace g9 := inb_in g9
        refine st_found dX7_isPlan_142 g9 ?_
        replace hh := lt_of hh
        refine v_aload_n 1 dX7_isPlan_143 rfl rfl ?_
        refine v_iload_n 2 dX7_isPlan_144 rfl rfl ?_
        refine v_iconst dX7_isPlan_145 (by decide : _ = (1 : Int32)) ?_
        refine v_iadd dX7_isPlan_146 ?_
        refine v_iload_n 3 dX7_isPlan_147 rfl rfl ?_
        refine v_iload_n 4 dX7_isPlan_148 rfl rfl ?_
        refine v_iload 5 dX7_isPlan_149 rfl ?_
        obtain ⟨q11, eq11, hh⟩ := bnd_some hh
        refine v_callVi (hg0 _ _ _ _ _ _ eq11) dX7_isPlan_151 y_X7_isPlan ml_X7_75 (ci := 6) rfl rfl e_Trials rfl rfl (Nat.le_of_ble_eq_true rfl) ⟨Nat.le_refl _, by show _ ≤ 64 * (d + 1); omega⟩ ⟨Nat.zero_le _, Nat.zero_le _⟩ ?_
        refine v_if_eq (tgt := 159) dX7_isPlan_154 (by decide) (fun c => ?_) (fun c => ?_)
        · replace hh := (if_pos c).symm.trans hh
          refine v_iinc (v := _ + (1 : Int32)) 7 dX7_isPlan_159 rfl rfl (by decide) rfl ?_
          replace hh := lt_of hh
          refine v_goto (tgt := 58) dX7_isPlan_162 (by decide) ?_
          exact v_sub [2, 3, 4, 5, 6, 7, 0] rfl (hrec58 _ _ _ _ _ _ _ hh)
        · replace hh := (if_neg c).symm.trans hh
          refine v_iconst dX7_isPlan_157 (by decide : _ = (1 : Int32)) ?_
          obtain rfl := Option.some.inj hh
          exact v_zret dX7_isPlan_158 rfl (zb (by decide)).1 (Nat.zero_le _) (Nat.zero_le _) ⟨rfl, rfl⟩
def f_X7_isPlan_b89 (rec58 : (Int32 → Int32 → Int32 → Int32 → Int32 → Int32 → St → Option (Int32 × St))) (rec : Nat → Int32 → Int32 → Int32 → Int32 → St → Option (Int32 × St)) (N : Nat) (x1 : Int32) (x2 : Int32) (x3 : Int32) (x4 : Int32) (x6 : Int32) (x7 : Int32) (S : St) : Option (Int32 × St) :=
  f_X7_isPlan_b94 rec58 rec N x1 x2 x3 x4 x6 x7 (1 : Int32) S
set_option maxRecDepth 100000 in
set_option maxHeartbeats 4000000 in
theorem tb_X7_isPlan_89 {l : Launch} {G : v_G} {N : Nat} {d : Nat} (hd3 : 5 ≤ d) {rec : Nat → Int32 → Int32 → Int32 → Int32 → St → Option (Int32 × St)} (hg0 : ∀ (x1 x2 x3 x4 : Int32) (S : St) (r : Int32 × St), rec 0 x1 x2 x3 x4 S = some r → v_M l G yX7_isPlan cX7_isPlan 9 (some .boolean) d 0 0 [.ref (v_B G + 261), .int x1, .int x2, .int x3, .int x4] (lay G S) (QI r.1 (lay G r.2)))   {r : Int32 × St} {rec58 : (Int32 → Int32 → Int32 → Int32 → Int32 → Int32 → St → Option (Int32 × St))} (hrec58 : ∀ (x1 : Int32) (x2 : Int32) (x3 : Int32) (x4 : Int32) (x6 : Int32) (x7 : Int32) (S : St),  rec58 x1 x2 x3 x4 x6 x7 S = some r → V l G yX7_isPlan cX7_isPlan 9 (some .boolean) (v_rm (d + 1) 0 0) (QI r.1 (lay G r.2)) 0 0 58 [(0, .ref (v_B G + 261)), (1, .int x1), (2, .int x2), (3, .int x3), (4, .int x4), (6, .int x6), (7, .int x7)] [] (lay G S)) : ∀ (x1 : Int32) (x2 : Int32) (x3 : Int32) (x4 : Int32) (x6 : Int32) (x7 : Int32) (S : St),  f_X7_isPlan_b89 rec58 rec N x1 x2 x3 x4 x6 x7 S = some r → V l G yX7_isPlan cX7_isPlan 9 (some .boolean) (v_rm (d + 1) 0 0) (QI r.1 (lay G r.2)) 0 0 89 [(0, .ref (v_B G + 261)), (1, .int x1), (2, .int x2), (3, .int x3), (4, .int x4), (6, .int x6), (7, .int x7)] [] (lay G S) := by
  intro x1 x2 x3 x4 x6 x7 S  hh
  unfold f_X7_isPlan_b89 at hh
  refine v_iconst dX7_isPlan_89 (by decide : _ = (1 : Int32)) ?_
  refine v_goto (tgt := 94) dX7_isPlan_90 (by decide) ?_
  exact v_sub [0, 1, 2, 3, 4, 5, 6] rfl (tb_X7_isPlan_94 hd3 hg0 hrec58 _ _ _ _ _ _ _ _ hh)
def f_X7_isPlan_b58 (rec : Nat → Int32 → Int32 → Int32 → Int32 → St → Option (Int32 × St)) (N : Nat) : Nat → Int32 → Int32 → Int32 → Int32 → Int32 → Int32 → St → Option (Int32 × St)
  | 0, _, _, _, _, _, _, _ => none
  | n + 1, x1, x2, x3, x4, x6, x7, S =>
  if (24 : Int32) ≤ x7 then
  (some ((0 : Int32), S))
  else
  (if x6 = (0 : Int32) then
  (f_X7_isPlan_b89 (f_X7_isPlan_b58 rec N n) rec N x1 x2 x3 x4 x6 x7 S)
  else
  (chk (inb x1 4) (
  chk (inb (x7 / (2 : Int32)) 12) (
  if (gI S 400 (62 + x1.toNatClampNeg) (x7 / (2 : Int32)).toNatClampNeg) ≤ x4 then
  (f_X7_isPlan_b94 (f_X7_isPlan_b58 rec N n) rec N x1 x2 x3 x4 x6 x7 (0 : Int32) S)
  else
  (f_X7_isPlan_b89 (f_X7_isPlan_b58 rec N n) rec N x1 x2 x3 x4 x6 x7 S)))))
set_option maxRecDepth 100000 in
set_option maxHeartbeats 4000000 in
theorem tb_X7_isPlan_58 {l : Launch} {G : v_G} {N : Nat} {d : Nat} (hd3 : 5 ≤ d) {rec : Nat → Int32 → Int32 → Int32 → Int32 → St → Option (Int32 × St)} (hg0 : ∀ (x1 x2 x3 x4 : Int32) (S : St) (r : Int32 × St), rec 0 x1 x2 x3 x4 S = some r → v_M l G yX7_isPlan cX7_isPlan 9 (some .boolean) d 0 0 [.ref (v_B G + 261), .int x1, .int x2, .int x3, .int x4] (lay G S) (QI r.1 (lay G r.2)))   {r : Int32 × St}   : ∀ (n : Nat) (x1 : Int32) (x2 : Int32) (x3 : Int32) (x4 : Int32) (x6 : Int32) (x7 : Int32) (S : St),  f_X7_isPlan_b58 rec N n x1 x2 x3 x4 x6 x7 S = some r → V l G yX7_isPlan cX7_isPlan 9 (some .boolean) (v_rm (d + 1) 0 0) (QI r.1 (lay G r.2)) 0 0 58 [(0, .ref (v_B G + 261)), (1, .int x1), (2, .int x2), (3, .int x3), (4, .int x4), (6, .int x6), (7, .int x7)] [] (lay G S) := by
  intro n
  induction n with
  | zero =>
    intro x1 x2 x3 x4 x6 x7 S  hh
    rw [f_X7_isPlan_b58] at hh
    cases hh
  | succ n ih =>
    intro x1 x2 x3 x4 x6 x7 S  hh
    rw [f_X7_isPlan_b58] at hh
    refine v_iload 6 dX7_isPlan_58 rfl ?_
    refine v_bipush dX7_isPlan_60 (by decide : _ = (24 : Int32)) ?_
    refine v_icmp_ge (tgt := 165) dX7_isPlan_62 (by decide) (fun c => ?_) (fun c => ?_)
    · replace hh := (if_pos c).symm.trans hh
      refine v_iconst dX7_isPlan_165 (by decide : _ = (0 : Int32)) ?_
      obtain rfl := Option.some.inj hh
      exact v_zret dX7_isPlan_166 rfl (zb (by decide)).1 (Nat.zero_le _) (Nat.zero_le _) ⟨rfl, rfl⟩
    · replace hh := (if_neg c).symm.trans hh
      refine v_iload 5 dX7_isPlan_65 rfl ?_
      refine v_if_eq (tgt := 89) dX7_isPlan_67 (by decide) (fun c => ?_) (fun c => ?_)
      · replace hh := (if_pos c).symm.trans hh
        exact v_sub [0, 1, 2, 3, 4, 5, 6] rfl (tb_X7_isPlan_89 hd3 hg0 (fun _ _ _ _ _ _ _ hh => ih _ _ _ _ _ _ _ hh) _ _ _ _ _ _ _ hh)
      · replace hh := (if_neg c).symm.trans hh
        refine v_aload_n 0 dX7_isPlan_70 rfl rfl ?_
        refine r_Trials_tries dX7_isPlan_71 fl_X7_11 ?_
        refine v_iload_n 1 dX7_isPlan_74 rfl rfl ?_
        obtain ⟨g13, hh⟩ := chk_some hh
        replace g13 := inb_in g13
        refine ld_tries dX7_isPlan_75 g13 ?_
        refine r_Sheet_cells (ix_tries g13) dX7_isPlan_76 fl_X7_52 ?_
        refine v_iload 6 dX7_isPlan_79 rfl ?_
        refine v_iconst dX7_isPlan_81 (by decide : _ = (2 : Int32)) ?_
        refine v_idiv dX7_isPlan_82 (by decide) ?_
        obtain ⟨g14, hh⟩ := chk_some hh
        replace g14 := inb_in g14
        refine ld_cells (ix_tries g13) dX7_isPlan_83 g14 ?_
        refine v_iload 4 dX7_isPlan_84 rfl ?_
        refine v_icmp_le (tgt := 93) dX7_isPlan_86 (by decide) (fun c => ?_) (fun c => ?_)
        · replace hh := (if_pos c).symm.trans hh
          refine v_iconst dX7_isPlan_93 (by decide : _ = (0 : Int32)) ?_
          exact v_sub [0, 1, 2, 3, 4, 5, 6] rfl (tb_X7_isPlan_94 hd3 hg0 (fun _ _ _ _ _ _ _ hh => ih _ _ _ _ _ _ _ hh) _ _ _ _ _ _ _ _ hh)
        · replace hh := (if_neg c).symm.trans hh
          exact v_sub [0, 1, 2, 3, 4, 5, 6] rfl (tb_X7_isPlan_89 hd3 hg0 (fun _ _ _ _ _ _ _ hh => ih _ _ _ _ _ _ _ hh) _ _ _ _ _ _ _ hh)
def fg_X7_isPlan (rec : Nat → Int32 → Int32 → Int32 → Int32 → St → Option (Int32 × St)) (N : Nat) (S : St) (x1 : Int32) (x2 : Int32) (x3 : Int32) (x4 : Int32) : Option (Int32 × St) :=
  chk (inb x1 4) (
  bnd (f_X3_cellsAbove N (62 + x1.toNatClampNeg) S x4) fun q2 =>
 if x2 ≤ x1 then
  (f_X7_isPlan_b29 rec N q2 S)
  else
  (if q2 ≤ (x2 - x1) then
  (if q2 = (x2 - x1) then
  (f_X7_isPlan_b58 rec N N x1 x2 x3 x4 (1 : Int32) (0 : Int32) S)
  else
  (f_X7_isPlan_b58 rec N N x1 x2 x3 x4 (0 : Int32) (0 : Int32) S))
  else
  (f_X7_isPlan_b29 rec N q2 S)))
set_option maxRecDepth 100000 in
set_option maxHeartbeats 4000000 in
theorem tg_X7_isPlan {l : Launch} {G : v_G} {N : Nat} {S : St} {d : Nat} (hd3 : 5 ≤ d) {rec : Nat → Int32 → Int32 → Int32 → Int32 → St → Option (Int32 × St)} (hg0 : ∀ (x1 x2 x3 x4 : Int32) (S : St) (r : Int32 × St), rec 0 x1 x2 x3 x4 S = some r → v_M l G yX7_isPlan cX7_isPlan 9 (some .boolean) d 0 0 [.ref (v_B G + 261), .int x1, .int x2, .int x3, .int x4] (lay G S) (QI r.1 (lay G r.2)))  {x1 : Int32} {x2 : Int32} {x3 : Int32} {x4 : Int32} {r : Int32 × St} (hh : fg_X7_isPlan rec N S x1 x2 x3 x4 = some r) : v_M l G yX7_isPlan cX7_isPlan 9 (some .boolean) (d + 1) 0 0 [.ref (v_B G + 261), .int x1, .int x2, .int x3, .int x4] (lay G S) (QI r.1 (lay G r.2)) := by
  refine v_entry (by decide) (Nat.le_of_ble_eq_true rfl) ?_
  unfold fg_X7_isPlan at hh
  show V l G yX7_isPlan cX7_isPlan 9 (some .boolean) (v_rm (d + 1) 0 0) (QI r.1 (lay G r.2)) 0 0 0 [(0, .ref (v_B G + 261)), (1, .int x1), (2, .int x2), (3, .int x3), (4, .int x4)] [] (lay G S)
  refine v_aload_n 0 dX7_isPlan_0 rfl rfl ?_
  refine r_Trials_tries dX7_isPlan_1 fl_X7_11 ?_
  refine v_iload_n 1 dX7_isPlan_4 rfl rfl ?_
  obtain ⟨g1, hh⟩ := chk_some hh
  replace g1 := inb_in g1
  refine ld_tries dX7_isPlan_5 g1 ?_
  refine r_Sheet_cells (ix_tries g1) dX7_isPlan_6 fl_X7_52 ?_
  refine v_iload 4 dX7_isPlan_9 rfl ?_
  obtain ⟨q2, eq2, hh⟩ := bnd_some hh
  refine v_callSi (t_X3_cellsAbove (ix_tries g1) eq2) dX7_isPlan_11 y_X3_cellsAbove ml_X7_79 rfl rfl (Nat.le_of_ble_eq_true rfl) ⟨by show _ ≤ d + 1; omega, by show _ ≤ 64 * (d + 1); omega⟩ ⟨Nat.zero_le _, Nat.zero_le _⟩ ?_
  refine v_istore dX7_isPlan_14 (by decide) rfl ?_
  refine v_iload_n 2 dX7_isPlan_16 rfl rfl ?_
  refine v_iload_n 3 dX7_isPlan_17 rfl rfl ?_
  refine v_icmp_ge (tgt := 29) dX7_isPlan_18 (by decide) (fun c => ?_) (fun c => ?_)
  · replace hh := (if_pos c).symm.trans hh
    exact v_sub [0] rfl (tb_X7_isPlan_29 hd3 hg0 _ _ hh)
  · replace hh := (if_neg c).symm.trans hh
    refine v_iload 0 dX7_isPlan_21 rfl ?_
    refine v_iload_n 3 dX7_isPlan_23 rfl rfl ?_
    refine v_iload_n 2 dX7_isPlan_24 rfl rfl ?_
    refine v_isub dX7_isPlan_25 ?_
    refine v_icmp_le (tgt := 40) dX7_isPlan_26 (by decide) (fun c => ?_) (fun c => ?_)
    · replace hh := (if_pos c).symm.trans hh
      refine v_iload 0 dX7_isPlan_40 rfl ?_
      refine v_iload_n 3 dX7_isPlan_42 rfl rfl ?_
      refine v_iload_n 2 dX7_isPlan_43 rfl rfl ?_
      refine v_isub dX7_isPlan_44 ?_
      refine v_icmp_ne (tgt := 52) dX7_isPlan_45 (by decide) (fun c => ?_) (fun c => ?_)
      · replace hh := (if_neg c).symm.trans hh
        refine v_iconst dX7_isPlan_52 (by decide : _ = (0 : Int32)) ?_
        refine v_istore dX7_isPlan_53 (by decide) rfl ?_
        refine v_iconst dX7_isPlan_55 (by decide : _ = (0 : Int32)) ?_
        refine v_istore dX7_isPlan_56 (by decide) rfl ?_
        exact v_sub [3, 4, 5, 6, 7, 1, 0] rfl (tb_X7_isPlan_58 hd3 hg0 N _ _ _ _ _ _ _ hh)
      · replace hh := (if_pos c).symm.trans hh
        refine v_iconst dX7_isPlan_48 (by decide : _ = (1 : Int32)) ?_
        refine v_goto (tgt := 53) dX7_isPlan_49 (by decide) ?_
        refine v_istore dX7_isPlan_53 (by decide) rfl ?_
        refine v_iconst dX7_isPlan_55 (by decide : _ = (0 : Int32)) ?_
        refine v_istore dX7_isPlan_56 (by decide) rfl ?_
        exact v_sub [3, 4, 5, 6, 7, 1, 0] rfl (tb_X7_isPlan_58 hd3 hg0 N _ _ _ _ _ _ _ hh)
    · replace hh := (if_neg c).symm.trans hh
      exact v_sub [0] rfl (tb_X7_isPlan_29 hd3 hg0 _ _ hh)
def F_pl (N : Nat) : Nat → Nat → Int32 → Int32 → Int32 → Int32 → St → Option (Int32 × St)
  | 0, _, _, _, _, _, _ => none
  | n + 1, k, x1, x2, x3, x4, S => match k with
    | 0 => fg_X7_isPlan (F_pl N n) N S x1 x2 x3 x4
    | _ => none
theorem T_pl {l : Launch} {G : v_G} {N : Nat} : ∀ n : Nat, (∀ (x1 x2 x3 x4 : Int32) (S : St) (r : Int32 × St), F_pl N n 0 x1 x2 x3 x4 S = some r → v_M l G yX7_isPlan cX7_isPlan 9 (some .boolean) (n + 5) 0 0 [.ref (v_B G + 261), .int x1, .int x2, .int x3, .int x4] (lay G S) (QI r.1 (lay G r.2))) ∧ True := by
  intro n
  induction n with
  | zero =>
    refine ⟨?_, trivial⟩ <;> (intro x1 x2 x3 x4 S r hh; rw [F_pl] at hh; cases hh)
  | succ n ih =>
    obtain ⟨i0, -⟩ := ih
    refine ⟨?_, trivial⟩
    · intro x1 x2 x3 x4 S r hh
      rw [F_pl] at hh
      exact tg_X7_isPlan (d := n + 5) (by omega) i0 hh
def f_X7_isPlan (N : Nat) (S : St) (x1 x2 x3 x4 : Int32) : Option (Int32 × St) := F_pl N 8 0 x1 x2 x3 x4 S
theorem t_X7_isPlan {l : Launch} {G : v_G} {N : Nat} {S : St} {x1 x2 x3 x4 : Int32} {r : Int32 × St} (hh : f_X7_isPlan N S x1 x2 x3 x4 = some r) : v_M l G yX7_isPlan cX7_isPlan 9 (some .boolean) 13 0 0 [.ref (v_B G + 261), .int x1, .int x2, .int x3, .int x4] (lay G S) (QI r.1 (lay G r.2)) := (T_pl 8).1 _ _ _ _ _ _ hh
