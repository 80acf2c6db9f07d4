def f_X1_sum_b40 (rec10 : (Int32 → Int32 → Int32 → Int32 → St → Option (Int32 × St))) (rec : Nat → Int32 → Int32 → St → Option (Int32 × St)) (N : Nat) (x1 : Int32) (x2 : Int32) (x4 : Int32) (S : St) : Option (Int32 × St) :=
  lt (gI S 105 0 0) fun v2 =>
  bnd (f_X1_advance S ) fun q3 =>
 bnd (rec 1 x1 x2 q3) fun q4 =>
  bnd (f_X1_add q4.2 v2 (0 : Int32)) fun q5 =>
 lt (x4 + (1 : Int32)) fun v6 =>
  rec10 x1 x2 q4.1 v6 q5
set_option maxRecDepth 100000 in
set_option maxHeartbeats 4000000 in
theorem tb_X1_sum_40 {l : Launch} {G : v_G} {N : Nat} {d : Nat} (hd3 : 4 ≤ d) {rec : Nat → Int32 → Int32 → St → Option (Int32 × St)} (hg0 : ∀ (x1 x2 : Int32) (S : St) (r : Int32 × St), rec 0 x1 x2 S = some r → v_M l G yX1_sum cX1_sum 6 (some .boolean) d 0 0 [.ref (v_B G + 288), .int x1, .int x2] (lay G S) (QI r.1 (lay G r.2))) (hg1 : ∀ (x1 x2 : Int32) (S : St) (r : Int32 × St), rec 1 x1 x2 S = some r → v_M l G yX1_product cX1_product 6 (some .boolean) d 0 0 [.ref (v_B G + 288), .int x1, .int x2] (lay G S) (QI r.1 (lay G r.2))) (hg2 : ∀ (x1 x2 : Int32) (S : St) (r : Int32 × St), rec 2 x1 x2 S = some r → v_M l G yX1_one cX1_one 4 (some .boolean) d 0 0 [.ref (v_B G + 288), .int x1, .int x2] (lay G S) (QI r.1 (lay G r.2))) (hg3 : ∀ (x1 x2 : Int32) (S : St) (r : Int32 × St), rec 3 x1 x2 S = some r → v_M l G yX1_choice cX1_choice 5 (some .boolean) d 0 0 [.ref (v_B G + 288), .int x1, .int x2] (lay G S) (QI r.1 (lay G r.2))) (hg4 : ∀ (x1 x2 : Int32) (S : St) (r : Int32 × St), rec 4 x1 x2 S = some r → v_M l G yX1_either cX1_either 5 (some .boolean) d 0 0 [.ref (v_B G + 288), .int x1, .int x2] (lay G S) (QI r.1 (lay G r.2))) (hg5 : ∀ (x1 x2 : Int32) (S : St) (r : Int32 × St), rec 5 x1 x2 S = some r → v_M l G yX1_both cX1_both 5 (some .boolean) d 0 0 [.ref (v_B G + 288), .int x1, .int x2] (lay G S) (QI r.1 (lay G r.2))) (hg6 : ∀ (x1 x2 : Int32) (S : St) (r : Int32 × St), rec 6 x1 x2 S = some r → v_M l G yX1_ask cX1_ask 4 (some .boolean) d 0 0 [.ref (v_B G + 288), .int x1, .int x2] (lay G S) (QI r.1 (lay G r.2)))   {r : Int32 × St} {rec10 : (Int32 → Int32 → Int32 → Int32 → St → Option (Int32 × St))} (hrec10 : ∀ (x1 : Int32) (x2 : Int32) (x3 : Int32) (x4 : Int32) (S : St),  rec10 x1 x2 x3 x4 S = some r → V l G yX1_sum cX1_sum 6 (some .boolean) (v_rm (d + 1) 0 0) (QI r.1 (lay G r.2)) 0 0 10 [(0, .ref (v_B G + 288)), (1, .int x1), (2, .int x2), (3, .int x3), (4, .int x4)] [] (lay G S)) : ∀ (x1 : Int32) (x2 : Int32) (x4 : Int32) (S : St),  f_X1_sum_b40 rec10 rec N x1 x2 x4 S = some r → V l G yX1_sum cX1_sum 6 (some .boolean) (v_rm (d + 1) 0 0) (QI r.1 (lay G r.2)) 0 0 40 [(0, .ref (v_B G + 288)), (1, .int x1), (2, .int x2), (4, .int x4)] [] (lay G S) := by
  intro x1 x2 x4 S  hh
  unfold f_X1_sum_b40 at hh
  refine v_aload_n 0 dX1_sum_40 rfl rfl ?_
  refine r_Reader_token dX1_sum_41 fl_X1_58 ?_
  refine v_istore dX1_sum_44 (by decide) rfl ?_
  replace hh := lt_of hh
  refine v_aload_n 1 dX1_sum_46 rfl rfl ?_
  obtain ⟨q3, eq3, hh⟩ := bnd_some hh
  refine v_callVv (t_X1_advance eq3) dX1_sum_47 y_X1_advance ml_X1_89 (ci := 0) rfl rfl (e_Reader) rfl rfl (Nat.le_of_ble_eq_true rfl) ⟨by show _ ≤ d + 1; omega, by show _ ≤ 64 * (d + 1); omega⟩ ⟨Nat.zero_le _, Nat.zero_le _⟩ ?_
  refine v_aload_n 1 dX1_sum_50 rfl rfl ?_
  refine v_iload_n 2 dX1_sum_51 rfl rfl ?_
  refine v_iload_n 3 dX1_sum_52 rfl rfl ?_
  obtain ⟨q4, eq4, hh⟩ := bnd_some hh
  refine v_callVi (hg1 _ _ _ _ eq4) dX1_sum_53 y_X1_product ml_X1_115 (ci := 0) rfl rfl e_Reader rfl rfl (Nat.le_of_ble_eq_true rfl) ⟨Nat.le_refl _, by show _ ≤ 64 * (d + 1); omega⟩ ⟨Nat.zero_le _, Nat.zero_le _⟩ ?_
  refine v_istore_n dX1_sum_56 rfl (by decide) rfl ?_
  refine v_aload_n 2 dX1_sum_57 rfl rfl ?_
  refine v_iload 1 dX1_sum_58 rfl ?_
  refine v_iconst dX1_sum_60 (by decide : _ = (0 : Int32)) ?_
  obtain ⟨q5, eq5, hh⟩ := bnd_some hh
  refine v_callVv (t_X1_add eq5) dX1_sum_61 y_X1_add ml_X1_118 (ci := 0) rfl rfl (e_Reader) rfl rfl (Nat.le_of_ble_eq_true rfl) ⟨by show _ ≤ d + 1; omega, by show _ ≤ 64 * (d + 1); omega⟩ ⟨Nat.zero_le _, Nat.zero_le _⟩ ?_
  refine v_iinc (v := _ + (1 : Int32)) 5 dX1_sum_64 rfl rfl (by decide) rfl ?_
  replace hh := lt_of hh
  refine v_goto (tgt := 10) dX1_sum_67 (by decide) ?_
  exact v_sub [3, 4, 5, 1, 0] rfl (hrec10 _ _ _ _ _ hh)
def f_X1_sum_b10 (rec : Nat → Int32 → Int32 → St → Option (Int32 × St)) (N : Nat) : Nat → Int32 → Int32 → Int32 → Int32 → St → Option (Int32 × St)
  | 0, _, _, _, _, _ => none
  | n + 1, x1, x2, x3, x4, S =>
  if (300 : Int32) ≤ x4 then
  (chk (isz x3) (some (x3, S)))
  else
  (if x3 = (0 : Int32) then
  (chk (isz x3) (some (x3, S)))
  else
  (if (gI S 105 0 0) = (32 : Int32) then
  (f_X1_sum_b40 (f_X1_sum_b10 rec N n) rec N x1 x2 x4 S)
  else
  (if (gI S 105 0 0) = (33 : Int32) then
  (f_X1_sum_b40 (f_X1_sum_b10 rec N n) rec N x1 x2 x4 S)
  else
  (chk (isz x3) (some (x3, S))))))
set_option maxRecDepth 100000 in
set_option maxHeartbeats 4000000 in
theorem tb_X1_sum_10 {l : Launch} {G : v_G} {N : Nat} {d : Nat} (hd3 : 4 ≤ d) {rec : Nat → Int32 → Int32 → St → Option (Int32 × St)} (hg0 : ∀ (x1 x2 : Int32) (S : St) (r : Int32 × St), rec 0 x1 x2 S = some r → v_M l G yX1_sum cX1_sum 6 (some .boolean) d 0 0 [.ref (v_B G + 288), .int x1, .int x2] (lay G S) (QI r.1 (lay G r.2))) (hg1 : ∀ (x1 x2 : Int32) (S : St) (r : Int32 × St), rec 1 x1 x2 S = some r → v_M l G yX1_product cX1_product 6 (some .boolean) d 0 0 [.ref (v_B G + 288), .int x1, .int x2] (lay G S) (QI r.1 (lay G r.2))) (hg2 : ∀ (x1 x2 : Int32) (S : St) (r : Int32 × St), rec 2 x1 x2 S = some r → v_M l G yX1_one cX1_one 4 (some .boolean) d 0 0 [.ref (v_B G + 288), .int x1, .int x2] (lay G S) (QI r.1 (lay G r.2))) (hg3 : ∀ (x1 x2 : Int32) (S : St) (r : Int32 × St), rec 3 x1 x2 S = some r → v_M l G yX1_choice cX1_choice 5 (some .boolean) d 0 0 [.ref (v_B G + 288), .int x1, .int x2] (lay G S) (QI r.1 (lay G r.2))) (hg4 : ∀ (x1 x2 : Int32) (S : St) (r : Int32 × St), rec 4 x1 x2 S = some r → v_M l G yX1_either cX1_either 5 (some .boolean) d 0 0 [.ref (v_B G + 288), .int x1, .int x2] (lay G S) (QI r.1 (lay G r.2))) (hg5 : ∀ (x1 x2 : Int32) (S : St) (r : Int32 × St), rec 5 x1 x2 S = some r → v_M l G yX1_both cX1_both 5 (some .boolean) d 0 0 [.ref (v_B G + 288), .int x1, .int x2] (lay G S) (QI r.1 (lay G r.2))) (hg6 : ∀ (x1 x2 : Int32) (S : St) (r : Int32 × St), rec 6 x1 x2 S = some r → v_M l G yX1_ask cX1_ask 4 (some .boolean) d 0 0 [.ref (v_B G + 288), .int x1, .int x2] (lay G S) (QI r.1 (lay G r.2)))   {r : Int32 × St}   : ∀ (n : Nat) (x1 : Int32) (x2 : Int32) (x3 : Int32) (x4 : Int32) (S : St),  f_X1_sum_b10 rec N n x1 x2 x3 x4 S = some r → V l G yX1_sum cX1_sum 6 (some .boolean) (v_rm (d + 1) 0 0) (QI r.1 (lay G r.2)) 0 0 10 [(0, .ref (v_B G + 288)), (1, .int x1), (2, .int x2), (3, .int x3), (4, .int x4)] [] (lay G S) := by
  intro n
  induction n with
  | zero =>
    intro x1 x2 x3 x4 S  hh
    rw [f_X1_sum_b10] at hh
    cases hh
  | succ n ih =>
    intro x1 x2 x3 x4 S  hh
    rw [f_X1_sum_b10] at hh
    refine v_iload 4 dX1_sum_10 rfl ?_
    refine v_sipush dX1_sum_12 (by decide : _ = (300 : Int32)) ?_
    refine v_icmp_ge (tgt := 70) dX1_sum_15 (by decide) (fun c => ?_) (fun c => ?_)
    · replace hh := (if_pos c).symm.trans hh
      refine v_iload_n 3 dX1_sum_70 rfl rfl ?_
      obtain ⟨g, hh⟩ := chk_some hh
      obtain rfl := Option.some.inj hh
      exact v_zret dX1_sum_71 rfl (zb (isz_or g)).1 (Nat.zero_le _) (Nat.zero_le _) ⟨rfl, rfl⟩
    · replace hh := (if_neg c).symm.trans hh
      refine v_iload_n 3 dX1_sum_18 rfl rfl ?_
      refine v_if_eq (tgt := 70) dX1_sum_19 (by decide) (fun c => ?_) (fun c => ?_)
      · replace hh := (if_pos c).symm.trans hh
        refine v_iload_n 3 dX1_sum_70 rfl rfl ?_
        obtain ⟨g, hh⟩ := chk_some hh
        obtain rfl := Option.some.inj hh
        exact v_zret dX1_sum_71 rfl (zb (isz_or g)).1 (Nat.zero_le _) (Nat.zero_le _) ⟨rfl, rfl⟩
      · replace hh := (if_neg c).symm.trans hh
        refine v_aload_n 0 dX1_sum_22 rfl rfl ?_
        refine r_Reader_token dX1_sum_23 fl_X1_58 ?_
        refine v_bipush dX1_sum_26 (by decide : _ = (32 : Int32)) ?_
        refine v_icmp_eq (tgt := 40) dX1_sum_28 (by decide) (fun c => ?_) (fun c => ?_)
        · replace hh := (if_pos c).symm.trans hh
          exact v_sub [0, 1, 2, 4] rfl (tb_X1_sum_40 hd3 hg0 hg1 hg2 hg3 hg4 hg5 hg6 (fun _ _ _ _ _ hh => ih _ _ _ _ _ hh) _ _ _ _ hh)
        · replace hh := (if_neg c).symm.trans hh
          refine v_aload_n 0 dX1_sum_31 rfl rfl ?_
          refine r_Reader_token dX1_sum_32 fl_X1_58 ?_
          refine v_bipush dX1_sum_35 (by decide : _ = (33 : Int32)) ?_
          refine v_icmp_ne (tgt := 70) dX1_sum_37 (by decide) (fun c => ?_) (fun c => ?_)
          · replace hh := (if_neg c).symm.trans hh
            refine v_iload_n 3 dX1_sum_70 rfl rfl ?_
            obtain ⟨g, hh⟩ := chk_some hh
            obtain rfl := Option.some.inj hh
            exact v_zret dX1_sum_71 rfl (zb (isz_or g)).1 (Nat.zero_le _) (Nat.zero_le _) ⟨rfl, rfl⟩
          · replace hh := (if_pos c).symm.trans hh
            exact v_sub [0, 1, 2, 4] rfl (tb_X1_sum_40 hd3 hg0 hg1 hg2 hg3 hg4 hg5 hg6 (fun _ _ _ _ _ hh => ih _ _ _ _ _ hh) _ _ _ _ hh)
def fg_X1_sum (rec : Nat → Int32 → Int32 → St → Option (Int32 × St)) (N : Nat) (S : St) (x1 : Int32) (x2 : Int32) : Option (Int32 × St) :=
  bnd (rec 1 x1 x2 S) fun q1 =>
  f_X1_sum_b10 rec N N x1 x2 q1.1 (0 : Int32) q1.2
set_option maxRecDepth 100000 in
set_option maxHeartbeats 4000000 in
theorem tg_X1_sum {l : Launch} {G : v_G} {N : Nat} {S : St} {d : Nat} (hd3 : 4 ≤ d) {rec : Nat → Int32 → Int32 → St → Option (Int32 × St)} (hg0 : ∀ (x1 x2 : Int32) (S : St) (r : Int32 × St), rec 0 x1 x2 S = some r → v_M l G yX1_sum cX1_sum 6 (some .boolean) d 0 0 [.ref (v_B G + 288), .int x1, .int x2] (lay G S) (QI r.1 (lay G r.2))) (hg1 : ∀ (x1 x2 : Int32) (S : St) (r : Int32 × St), rec 1 x1 x2 S = some r → v_M l G yX1_product cX1_product 6 (some .boolean) d 0 0 [.ref (v_B G + 288), .int x1, .int x2] (lay G S) (QI r.1 (lay G r.2))) (hg2 : ∀ (x1 x2 : Int32) (S : St) (r : Int32 × St), rec 2 x1 x2 S = some r → v_M l G yX1_one cX1_one 4 (some .boolean) d 0 0 [.ref (v_B G + 288), .int x1, .int x2] (lay G S) (QI r.1 (lay G r.2))) (hg3 : ∀ (x1 x2 : Int32) (S : St) (r : Int32 × St), rec 3 x1 x2 S = some r → v_M l G yX1_choice cX1_choice 5 (some .boolean) d 0 0 [.ref (v_B G + 288), .int x1, .int x2] (lay G S) (QI r.1 (lay G r.2))) (hg4 : ∀ (x1 x2 : Int32) (S : St) (r : Int32 × St), rec 4 x1 x2 S = some r → v_M l G yX1_either cX1_either 5 (some .boolean) d 0 0 [.ref (v_B G + 288), .int x1, .int x2] (lay G S) (QI r.1 (lay G r.2))) (hg5 : ∀ (x1 x2 : Int32) (S : St) (r : Int32 × St), rec 5 x1 x2 S = some r → v_M l G yX1_both cX1_both 5 (some .boolean) d 0 0 [.ref (v_B G + 288), .int x1, .int x2] (lay G S) (QI r.1 (lay G r.2))) (hg6 : ∀ (x1 x2 : Int32) (S : St) (r : Int32 × St), rec 6 x1 x2 S = some r → v_M l G yX1_ask cX1_ask 4 (some .boolean) d 0 0 [.ref (v_B G + 288), .int x1, .int x2] (lay G S) (QI r.1 (lay G r.2)))  {x1 : Int32} {x2 : Int32} {r : Int32 × St} (hh : fg_X1_sum rec N S x1 x2 = some r) : v_M l G yX1_sum cX1_sum 6 (some .boolean) (d + 1) 0 0 [.ref (v_B G + 288), .int x1, .int x2] (lay G S) (QI r.1 (lay G r.2)) := by
  refine v_entry (by decide) (Nat.le_of_ble_eq_true rfl) ?_
  unfold fg_X1_sum at hh
  show V l G yX1_sum cX1_sum 6 (some .boolean) (v_rm (d + 1) 0 0) (QI r.1 (lay G r.2)) 0 0 0 [(0, .ref (v_B G + 288)), (1, .int x1), (2, .int x2)] [] (lay G S)
  refine v_aload_n 0 dX1_sum_0 rfl rfl ?_
  refine v_iload_n 1 dX1_sum_1 rfl rfl ?_
  refine v_iload_n 2 dX1_sum_2 rfl rfl ?_
  obtain ⟨q1, eq1, hh⟩ := bnd_some hh
  refine v_callVi (hg1 _ _ _ _ eq1) dX1_sum_3 y_X1_product ml_X1_115 (ci := 0) rfl rfl e_Reader rfl rfl (Nat.le_of_ble_eq_true rfl) ⟨Nat.le_refl _, by show _ ≤ 64 * (d + 1); omega⟩ ⟨Nat.zero_le _, Nat.zero_le _⟩ ?_
  refine v_istore_n dX1_sum_6 rfl (by decide) rfl ?_
  refine v_iconst dX1_sum_7 (by decide : _ = (0 : Int32)) ?_
  refine v_istore dX1_sum_8 (by decide) rfl ?_
  exact v_sub [2, 3, 4, 1, 0] rfl (tb_X1_sum_10 hd3 hg0 hg1 hg2 hg3 hg4 hg5 hg6 N _ _ _ _ _ hh)
def f_X1_product_b40 (rec10 : (Int32 → Int32 → Int32 → Int32 → St → Option (Int32 × St))) (rec : Nat → Int32 → Int32 → St → Option (Int32 × St)) (N : Nat) (x1 : Int32) (x2 : Int32) (x4 : Int32) (S : St) : Option (Int32 × St) :=
  lt (gI S 105 0 0) fun v2 =>
  bnd (f_X1_advance S ) fun q3 =>
 bnd (rec 2 x1 x2 q3) fun q4 =>
  bnd (f_X1_add q4.2 v2 (0 : Int32)) fun q5 =>
 lt (x4 + (1 : Int32)) fun v6 =>
  rec10 x1 x2 q4.1 v6 q5
set_option maxRecDepth 100000 in
set_option maxHeartbeats 4000000 in
theorem tb_X1_product_40 {l : Launch} {G : v_G} {N : Nat} {d : Nat} (hd3 : 4 ≤ d) {rec : Nat → Int32 → Int32 → St → Option (Int32 × St)} (hg0 : ∀ (x1 x2 : Int32) (S : St) (r : Int32 × St), rec 0 x1 x2 S = some r → v_M l G yX1_sum cX1_sum 6 (some .boolean) d 0 0 [.ref (v_B G + 288), .int x1, .int x2] (lay G S) (QI r.1 (lay G r.2))) (hg1 : ∀ (x1 x2 : Int32) (S : St) (r : Int32 × St), rec 1 x1 x2 S = some r → v_M l G yX1_product cX1_product 6 (some .boolean) d 0 0 [.ref (v_B G + 288), .int x1, .int x2] (lay G S) (QI r.1 (lay G r.2))) (hg2 : ∀ (x1 x2 : Int32) (S : St) (r : Int32 × St), rec 2 x1 x2 S = some r → v_M l G yX1_one cX1_one 4 (some .boolean) d 0 0 [.ref (v_B G + 288), .int x1, .int x2] (lay G S) (QI r.1 (lay G r.2))) (hg3 : ∀ (x1 x2 : Int32) (S : St) (r : Int32 × St), rec 3 x1 x2 S = some r → v_M l G yX1_choice cX1_choice 5 (some .boolean) d 0 0 [.ref (v_B G + 288), .int x1, .int x2] (lay G S) (QI r.1 (lay G r.2))) (hg4 : ∀ (x1 x2 : Int32) (S : St) (r : Int32 × St), rec 4 x1 x2 S = some r → v_M l G yX1_either cX1_either 5 (some .boolean) d 0 0 [.ref (v_B G + 288), .int x1, .int x2] (lay G S) (QI r.1 (lay G r.2))) (hg5 : ∀ (x1 x2 : Int32) (S : St) (r : Int32 × St), rec 5 x1 x2 S = some r → v_M l G yX1_both cX1_both 5 (some .boolean) d 0 0 [.ref (v_B G + 288), .int x1, .int x2] (lay G S) (QI r.1 (lay G r.2))) (hg6 : ∀ (x1 x2 : Int32) (S : St) (r : Int32 × St), rec 6 x1 x2 S = some r → v_M l G yX1_ask cX1_ask 4 (some .boolean) d 0 0 [.ref (v_B G + 288), .int x1, .int x2] (lay G S) (QI r.1 (lay G r.2)))   {r : Int32 × St} {rec10 : (Int32 → Int32 → Int32 → Int32 → St → Option (Int32 × St))} (hrec10 : ∀ (x1 : Int32) (x2 : Int32) (x3 : Int32) (x4 : Int32) (S : St),  rec10 x1 x2 x3 x4 S = some r → V l G yX1_product cX1_product 6 (some .boolean) (v_rm (d + 1) 0 0) (QI r.1 (lay G r.2)) 0 0 10 [(0, .ref (v_B G + 288)), (1, .int x1), (2, .int x2), (3, .int x3), (4, .int x4)] [] (lay G S)) : ∀ (x1 : Int32) (x2 : Int32) (x4 : Int32) (S : St),  f_X1_product_b40 rec10 rec N x1 x2 x4 S = some r → V l G yX1_product cX1_product 6 (some .boolean) (v_rm (d + 1) 0 0) (QI r.1 (lay G r.2)) 0 0 40 [(0, .ref (v_B G + 288)), (1, .int x1), (2, .int x2), (4, .int x4)] [] (lay G S) := by
  intro x1 x2 x4 S  hh
  unfold f_X1_product_b40 at hh
  refine v_aload_n 0 dX1_product_40 rfl rfl ?_
  refine r_Reader_token dX1_product_41 fl_X1_58 ?_
  refine v_istore dX1_product_44 (by decide) rfl ?_
  replace hh := lt_of hh
  refine v_aload_n 1 dX1_product_46 rfl rfl ?_
  obtain ⟨q3, eq3, hh⟩ := bnd_some hh
  refine v_callVv (t_X1_advance eq3) dX1_product_47 y_X1_advance ml_X1_89 (ci := 0) rfl rfl (e_Reader) rfl rfl (Nat.le_of_ble_eq_true rfl) ⟨by show _ ≤ d + 1; omega, by show _ ≤ 64 * (d + 1); omega⟩ ⟨Nat.zero_le _, Nat.zero_le _⟩ ?_
  refine v_aload_n 1 dX1_product_50 rfl rfl ?_
  refine v_iload_n 2 dX1_product_51 rfl rfl ?_
  refine v_iload_n 3 dX1_product_52 rfl rfl ?_
  obtain ⟨q4, eq4, hh⟩ := bnd_some hh
  refine v_callVi (hg2 _ _ _ _ eq4) dX1_product_53 y_X1_one ml_X1_122 (ci := 0) rfl rfl e_Reader rfl rfl (Nat.le_of_ble_eq_true rfl) ⟨Nat.le_refl _, by show _ ≤ 64 * (d + 1); omega⟩ ⟨Nat.zero_le _, Nat.zero_le _⟩ ?_
  refine v_istore_n dX1_product_56 rfl (by decide) rfl ?_
  refine v_aload_n 2 dX1_product_57 rfl rfl ?_
  refine v_iload 1 dX1_product_58 rfl ?_
  refine v_iconst dX1_product_60 (by decide : _ = (0 : Int32)) ?_
  obtain ⟨q5, eq5, hh⟩ := bnd_some hh
  refine v_callVv (t_X1_add eq5) dX1_product_61 y_X1_add ml_X1_118 (ci := 0) rfl rfl (e_Reader) rfl rfl (Nat.le_of_ble_eq_true rfl) ⟨by show _ ≤ d + 1; omega, by show _ ≤ 64 * (d + 1); omega⟩ ⟨Nat.zero_le _, Nat.zero_le _⟩ ?_
  refine v_iinc (v := _ + (1 : Int32)) 5 dX1_product_64 rfl rfl (by decide) rfl ?_
  replace hh := lt_of hh
  refine v_goto (tgt := 10) dX1_product_67 (by decide) ?_
  exact v_sub [3, 4, 5, 1, 0] rfl (hrec10 _ _ _ _ _ hh)
def f_X1_product_b10 (rec : Nat → Int32 → Int32 → St → Option (Int32 × St)) (N : Nat) : Nat → Int32 → Int32 → Int32 → Int32 → St → Option (Int32 × St)
  | 0, _, _, _, _, _ => none
  | n + 1, x1, x2, x3, x4, S =>
  if (300 : Int32) ≤ x4 then
  (chk (isz x3) (some (x3, S)))
  else
  (if x3 = (0 : Int32) then
  (chk (isz x3) (some (x3, S)))
  else
  (if (gI S 105 0 0) = (34 : Int32) then
  (f_X1_product_b40 (f_X1_product_b10 rec N n) rec N x1 x2 x4 S)
  else
  (if (gI S 105 0 0) = (35 : Int32) then
  (f_X1_product_b40 (f_X1_product_b10 rec N n) rec N x1 x2 x4 S)
  else
  (chk (isz x3) (some (x3, S))))))
set_option maxRecDepth 100000 in
set_option maxHeartbeats 4000000 in
theorem tb_X1_product_10 {l : Launch} {G : v_G} {N : Nat} {d : Nat} (hd3 : 4 ≤ d) {rec : Nat → Int32 → Int32 → St → Option (Int32 × St)} (hg0 : ∀ (x1 x2 : Int32) (S : St) (r : Int32 × St), rec 0 x1 x2 S = some r → v_M l G yX1_sum cX1_sum 6 (some .boolean) d 0 0 [.ref (v_B G + 288), .int x1, .int x2] (lay G S) (QI r.1 (lay G r.2))) (hg1 : ∀ (x1 x2 : Int32) (S : St) (r : Int32 × St), rec 1 x1 x2 S = some r → v_M l G yX1_product cX1_product 6 (some .boolean) d 0 0 [.ref (v_B G + 288), .int x1, .int x2] (lay G S) (QI r.1 (lay G r.2))) (hg2 : ∀ (x1 x2 : Int32) (S : St) (r : Int32 × St), rec 2 x1 x2 S = some r → v_M l G yX1_one cX1_one 4 (some .boolean) d 0 0 [.ref (v_B G + 288), .int x1, .int x2] (lay G S) (QI r.1 (lay G r.2))) (hg3 : ∀ (x1 x2 : Int32) (S : St) (r : Int32 × St), rec 3 x1 x2 S = some r → v_M l G yX1_choice cX1_choice 5 (some .boolean) d 0 0 [.ref (v_B G + 288), .int x1, .int x2] (lay G S) (QI r.1 (lay G r.2))) (hg4 : ∀ (x1 x2 : Int32) (S : St) (r : Int32 × St), rec 4 x1 x2 S = some r → v_M l G yX1_either cX1_either 5 (some .boolean) d 0 0 [.ref (v_B G + 288), .int x1, .int x2] (lay G S) (QI r.1 (lay G r.2))) (hg5 : ∀ (x1 x2 : Int32) (S : St) (r : Int32 × St), rec 5 x1 x2 S = some r → v_M l G yX1_both cX1_both 5 (some .boolean) d 0 0 [.ref (v_B G + 288), .int x1, .int x2] (lay G S) (QI r.1 (lay G r.2))) (hg6 : ∀ (x1 x2 : Int32) (S : St) (r : Int32 × St), rec 6 x1 x2 S = some r → v_M l G yX1_ask cX1_ask 4 (some .boolean) d 0 0 [.ref (v_B G + 288), .int x1, .int x2] (lay G S) (QI r.1 (lay G r.2)))   {r : Int32 × St}   : ∀ (n : Nat) (x1 : Int32) (x2 : Int32) (x3 : Int32) (x4 : Int32) (S : St),  f_X1_product_b10 rec N n x1 x2 x3 x4 S = some r → V l G yX1_product cX1_product 6 (some .boolean) (v_rm (d + 1) 0 0) (QI r.1 (lay G r.2)) 0 0 10 [(0, .ref (v_B G + 288)), (1, .int x1), (2, .int x2), (3, .int x3), (4, .int x4)] [] (lay G S) := by
  intro n
  induction n with
  | zero =>
    intro x1 x2 x3 x4 S  hh
    rw [f_X1_product_b10] at hh
    cases hh
  | succ n ih =>
    intro x1 x2 x3 x4 S  hh
    rw [f_X1_product_b10] at hh
    refine v_iload 4 dX1_product_10 rfl ?_
    refine v_sipush dX1_product_12 (by decide : _ = (300 : Int32)) ?_
    refine v_icmp_ge (tgt := 70) dX1_product_15 (by decide) (fun c => ?_) (fun c => ?_)
    · replace hh := (if_pos c).symm.trans hh
      refine v_iload_n 3 dX1_product_70 rfl rfl ?_
      obtain ⟨g, hh⟩ := chk_some hh
      obtain rfl := Option.some.inj hh
      exact v_zret dX1_product_71 rfl (zb (isz_or g)).1 (Nat.zero_le _) (Nat.zero_le _) ⟨rfl, rfl⟩
    · replace hh := (if_neg c).symm.trans hh
      refine v_iload_n 3 dX1_product_18 rfl rfl ?_
      refine v_if_eq (tgt := 70) dX1_product_19 (by decide) (fun c => ?_) (fun c => ?_)
      · replace hh := (if_pos c).symm.trans hh
        refine v_iload_n 3 dX1_product_70 rfl rfl ?_
        obtain ⟨g, hh⟩ := chk_some hh
        obtain rfl := Option.some.inj hh
        exact v_zret dX1_product_71 rfl (zb (isz_or g)).1 (Nat.zero_le _) (Nat.zero_le _) ⟨rfl, rfl⟩
      · replace hh := (if_neg c).symm.trans hh
        refine v_aload_n 0 dX1_product_22 rfl rfl ?_
        refine r_Reader_token dX1_product_23 fl_X1_58 ?_
        refine v_bipush dX1_product_26 (by decide : _ = (34 : Int32)) ?_
        refine v_icmp_eq (tgt := 40) dX1_product_28 (by decide) (fun c => ?_) (fun c => ?_)
        · replace hh := (if_pos c).symm.trans hh
          exact v_sub [0, 1, 2, 4] rfl (tb_X1_product_40 hd3 hg0 hg1 hg2 hg3 hg4 hg5 hg6 (fun _ _ _ _ _ hh => ih _ _ _ _ _ hh) _ _ _ _ hh)
        · replace hh := (if_neg c).symm.trans hh
          refine v_aload_n 0 dX1_product_31 rfl rfl ?_
          refine r_Reader_token dX1_product_32 fl_X1_58 ?_
          refine v_bipush dX1_product_35 (by decide : _ = (35 : Int32)) ?_
          refine v_icmp_ne (tgt := 70) dX1_product_37 (by decide) (fun c => ?_) (fun c => ?_)
          · replace hh := (if_neg c).symm.trans hh
            refine v_iload_n 3 dX1_product_70 rfl rfl ?_
            obtain ⟨g, hh⟩ := chk_some hh
            obtain rfl := Option.some.inj hh
            exact v_zret dX1_product_71 rfl (zb (isz_or g)).1 (Nat.zero_le _) (Nat.zero_le _) ⟨rfl, rfl⟩
          · replace hh := (if_pos c).symm.trans hh
            exact v_sub [0, 1, 2, 4] rfl (tb_X1_product_40 hd3 hg0 hg1 hg2 hg3 hg4 hg5 hg6 (fun _ _ _ _ _ hh => ih _ _ _ _ _ hh) _ _ _ _ hh)
def fg_X1_product (rec : Nat → Int32 → Int32 → St → Option (Int32 × St)) (N : Nat) (S : St) (x1 : Int32) (x2 : Int32) : Option (Int32 × St) :=
  bnd (rec 2 x1 x2 S) fun q1 =>
  f_X1_product_b10 rec N N x1 x2 q1.1 (0 : Int32) q1.2
set_option maxRecDepth 100000 in
set_option maxHeartbeats 4000000 in
theorem tg_X1_product {l : Launch} {G : v_G} {N : Nat} {S : St} {d : Nat} (hd3 : 4 ≤ d) {rec : Nat → Int32 → Int32 → St → Option (Int32 × St)} (hg0 : ∀ (x1 x2 : Int32) (S : St) (r : Int32 × St), rec 0 x1 x2 S = some r → v_M l G yX1_sum cX1_sum 6 (some .boolean) d 0 0 [.ref (v_B G + 288), .int x1, .int x2] (lay G S) (QI r.1 (lay G r.2))) (hg1 : ∀ (x1 x2 : Int32) (S : St) (r : Int32 × St), rec 1 x1 x2 S = some r → v_M l G yX1_product cX1_product 6 (some .boolean) d 0 0 [.ref (v_B G + 288), .int x1, .int x2] (lay G S) (QI r.1 (lay G r.2))) (hg2 : ∀ (x1 x2 : Int32) (S : St) (r : Int32 × St), rec 2 x1 x2 S = some r → v_M l G yX1_one cX1_one 4 (some .boolean) d 0 0 [.ref (v_B G + 288), .int x1, .int x2] (lay G S) (QI r.1 (lay G r.2))) (hg3 : ∀ (x1 x2 : Int32) (S : St) (r : Int32 × St), rec 3 x1 x2 S = some r → v_M l G yX1_choice cX1_choice 5 (some .boolean) d 0 0 [.ref (v_B G + 288), .int x1, .int x2] (lay G S) (QI r.1 (lay G r.2))) (hg4 : ∀ (x1 x2 : Int32) (S : St) (r : Int32 × St), rec 4 x1 x2 S = some r → v_M l G yX1_either cX1_either 5 (some .boolean) d 0 0 [.ref (v_B G + 288), .int x1, .int x2] (lay G S) (QI r.1 (lay G r.2))) (hg5 : ∀ (x1 x2 : Int32) (S : St) (r : Int32 × St), rec 5 x1 x2 S = some r → v_M l G yX1_both cX1_both 5 (some .boolean) d 0 0 [.ref (v_B G + 288), .int x1, .int x2] (lay G S) (QI r.1 (lay G r.2))) (hg6 : ∀ (x1 x2 : Int32) (S : St) (r : Int32 × St), rec 6 x1 x2 S = some r → v_M l G yX1_ask cX1_ask 4 (some .boolean) d 0 0 [.ref (v_B G + 288), .int x1, .int x2] (lay G S) (QI r.1 (lay G r.2)))  {x1 : Int32} {x2 : Int32} {r : Int32 × St} (hh : fg_X1_product rec N S x1 x2 = some r) : v_M l G yX1_product cX1_product 6 (some .boolean) (d + 1) 0 0 [.ref (v_B G + 288), .int x1, .int x2] (lay G S) (QI r.1 (lay G r.2)) := by
  refine v_entry (by decide) (Nat.le_of_ble_eq_true rfl) ?_
  unfold fg_X1_product at hh
  show V l G yX1_product cX1_product 6 (some .boolean) (v_rm (d + 1) 0 0) (QI r.1 (lay G r.2)) 0 0 0 [(0, .ref (v_B G + 288)), (1, .int x1), (2, .int x2)] [] (lay G S)
  refine v_aload_n 0 dX1_product_0 rfl rfl ?_
  refine v_iload_n 1 dX1_product_1 rfl rfl ?_
  refine v_iload_n 2 dX1_product_2 rfl rfl ?_
  obtain ⟨q1, eq1, hh⟩ := bnd_some hh
  refine v_callVi (hg2 _ _ _ _ eq1) dX1_product_3 y_X1_one ml_X1_122 (ci := 0) rfl rfl e_Reader rfl rfl (Nat.le_of_ble_eq_true rfl) ⟨Nat.le_refl _, by show _ ≤ 64 * (d + 1); omega⟩ ⟨Nat.zero_le _, Nat.zero_le _⟩ ?_
  refine v_istore_n dX1_product_6 rfl (by decide) rfl ?_
  refine v_iconst dX1_product_7 (by decide : _ = (0 : Int32)) ?_
  refine v_istore dX1_product_8 (by decide) rfl ?_
  exact v_sub [2, 3, 4, 1, 0] rfl (tb_X1_product_10 hd3 hg0 hg1 hg2 hg3 hg4 hg5 hg6 N _ _ _ _ _ hh)
def f_X1_one_b212 (rec : Nat → Int32 → Int32 → St → Option (Int32 × St)) (N : Nat) (x3 : Int32) (S : St) : Option (Int32 × St) :=
  bnd (f_X1_adds S x3 (0 : Int32)) fun q2 =>
 chk (isz q2.1) (some (q2.1, q2.2))
set_option maxRecDepth 100000 in
set_option maxHeartbeats 4000000 in
theorem tb_X1_one_212 {l : Launch} {G : v_G} {N : Nat} {d : Nat} (hd3 : 4 ≤ d) {rec : Nat → Int32 → Int32 → St → Option (Int32 × St)} (hg0 : ∀ (x1 x2 : Int32) (S : St) (r : Int32 × St), rec 0 x1 x2 S = some r → v_M l G yX1_sum cX1_sum 6 (some .boolean) d 0 0 [.ref (v_B G + 288), .int x1, .int x2] (lay G S) (QI r.1 (lay G r.2))) (hg1 : ∀ (x1 x2 : Int32) (S : St) (r : Int32 × St), rec 1 x1 x2 S = some r → v_M l G yX1_product cX1_product 6 (some .boolean) d 0 0 [.ref (v_B G + 288), .int x1, .int x2] (lay G S) (QI r.1 (lay G r.2))) (hg2 : ∀ (x1 x2 : Int32) (S : St) (r : Int32 × St), rec 2 x1 x2 S = some r → v_M l G yX1_one cX1_one 4 (some .boolean) d 0 0 [.ref (v_B G + 288), .int x1, .int x2] (lay G S) (QI r.1 (lay G r.2))) (hg3 : ∀ (x1 x2 : Int32) (S : St) (r : Int32 × St), rec 3 x1 x2 S = some r → v_M l G yX1_choice cX1_choice 5 (some .boolean) d 0 0 [.ref (v_B G + 288), .int x1, .int x2] (lay G S) (QI r.1 (lay G r.2))) (hg4 : ∀ (x1 x2 : Int32) (S : St) (r : Int32 × St), rec 4 x1 x2 S = some r → v_M l G yX1_either cX1_either 5 (some .boolean) d 0 0 [.ref (v_B G + 288), .int x1, .int x2] (lay G S) (QI r.1 (lay G r.2))) (hg5 : ∀ (x1 x2 : Int32) (S : St) (r : Int32 × St), rec 5 x1 x2 S = some r → v_M l G yX1_both cX1_both 5 (some .boolean) d 0 0 [.ref (v_B G + 288), .int x1, .int x2] (lay G S) (QI r.1 (lay G r.2))) (hg6 : ∀ (x1 x2 : Int32) (S : St) (r : Int32 × St), rec 6 x1 x2 S = some r → v_M l G yX1_ask cX1_ask 4 (some .boolean) d 0 0 [.ref (v_B G + 288), .int x1, .int x2] (lay G S) (QI r.1 (lay G r.2)))   {r : Int32 × St}   : ∀ (x3 : Int32) (S : St),  f_X1_one_b212 rec N x3 S = some r → V l G yX1_one cX1_one 4 (some .boolean) (v_rm (d + 1) 0 0) (QI r.1 (lay G r.2)) 0 0 212 [(0, .ref (v_B G + 288)), (3, .int x3)] [] (lay G S) := by
  intro x3 S  hh
  unfold f_X1_one_b212 at hh
  refine v_aload_n 0 dX1_one_212 rfl rfl ?_
  refine v_iload_n 1 dX1_one_213 rfl rfl ?_
  refine v_iconst dX1_one_214 (by decide : _ = (0 : Int32)) ?_
  obtain ⟨q2, eq2, hh⟩ := bnd_some hh
  refine v_callVi (t_X1_adds eq2) dX1_one_215 y_X1_adds ml_X1_125 (ci := 0) rfl rfl (e_Reader) rfl rfl (Nat.le_of_ble_eq_true rfl) ⟨by show _ ≤ d + 1; omega, by show _ ≤ 64 * (d + 1); omega⟩ ⟨Nat.zero_le _, Nat.zero_le _⟩ ?_
  obtain ⟨g, hh⟩ := chk_some hh
  obtain rfl := Option.some.inj hh
  exact v_zret dX1_one_218 rfl (zb (isz_or g)).1 (Nat.zero_le _) (Nat.zero_le _) ⟨rfl, rfl⟩
def f_X1_one_b337 (rec : Nat → Int32 → Int32 → St → Option (Int32 × St)) (N : Nat)  (S : St) : Option (Int32 × St) :=
  bnd (f_X1_faulty S (1 : Int32)) fun q3 =>
 chk (isz q3.1) (some (q3.1, q3.2))
set_option maxRecDepth 100000 in
set_option maxHeartbeats 4000000 in
theorem tb_X1_one_337 {l : Launch} {G : v_G} {N : Nat} {d : Nat} (hd3 : 4 ≤ d) {rec : Nat → Int32 → Int32 → St → Option (Int32 × St)} (hg0 : ∀ (x1 x2 : Int32) (S : St) (r : Int32 × St), rec 0 x1 x2 S = some r → v_M l G yX1_sum cX1_sum 6 (some .boolean) d 0 0 [.ref (v_B G + 288), .int x1, .int x2] (lay G S) (QI r.1 (lay G r.2))) (hg1 : ∀ (x1 x2 : Int32) (S : St) (r : Int32 × St), rec 1 x1 x2 S = some r → v_M l G yX1_product cX1_product 6 (some .boolean) d 0 0 [.ref (v_B G + 288), .int x1, .int x2] (lay G S) (QI r.1 (lay G r.2))) (hg2 : ∀ (x1 x2 : Int32) (S : St) (r : Int32 × St), rec 2 x1 x2 S = some r → v_M l G yX1_one cX1_one 4 (some .boolean) d 0 0 [.ref (v_B G + 288), .int x1, .int x2] (lay G S) (QI r.1 (lay G r.2))) (hg3 : ∀ (x1 x2 : Int32) (S : St) (r : Int32 × St), rec 3 x1 x2 S = some r → v_M l G yX1_choice cX1_choice 5 (some .boolean) d 0 0 [.ref (v_B G + 288), .int x1, .int x2] (lay G S) (QI r.1 (lay G r.2))) (hg4 : ∀ (x1 x2 : Int32) (S : St) (r : Int32 × St), rec 4 x1 x2 S = some r → v_M l G yX1_either cX1_either 5 (some .boolean) d 0 0 [.ref (v_B G + 288), .int x1, .int x2] (lay G S) (QI r.1 (lay G r.2))) (hg5 : ∀ (x1 x2 : Int32) (S : St) (r : Int32 × St), rec 5 x1 x2 S = some r → v_M l G yX1_both cX1_both 5 (some .boolean) d 0 0 [.ref (v_B G + 288), .int x1, .int x2] (lay G S) (QI r.1 (lay G r.2))) (hg6 : ∀ (x1 x2 : Int32) (S : St) (r : Int32 × St), rec 6 x1 x2 S = some r → v_M l G yX1_ask cX1_ask 4 (some .boolean) d 0 0 [.ref (v_B G + 288), .int x1, .int x2] (lay G S) (QI r.1 (lay G r.2)))   {r : Int32 × St}   : ∀  (S : St),  f_X1_one_b337 rec N  S = some r → V l G yX1_one cX1_one 4 (some .boolean) (v_rm (d + 1) 0 0) (QI r.1 (lay G r.2)) 0 0 337 [(0, .ref (v_B G + 288))] [] (lay G S) := by
  intro  S  hh
  unfold f_X1_one_b337 at hh
  refine v_aload_n 0 dX1_one_337 rfl rfl ?_
  refine v_iconst dX1_one_338 (by decide : _ = (1 : Int32)) ?_
  obtain ⟨q3, eq3, hh⟩ := bnd_some hh
  refine v_callVi (t_X1_faulty eq3) dX1_one_339 y_X1_faulty ml_X1_85 (ci := 0) rfl rfl (e_Reader) rfl rfl (Nat.le_of_ble_eq_true rfl) ⟨by show _ ≤ d + 1; omega, by show _ ≤ 64 * (d + 1); omega⟩ ⟨Nat.zero_le _, Nat.zero_le _⟩ ?_
  obtain ⟨g, hh⟩ := chk_some hh
  obtain rfl := Option.some.inj hh
  exact v_zret dX1_one_342 rfl (zb (isz_or g)).1 (Nat.zero_le _) (Nat.zero_le _) ⟨rfl, rfl⟩
def f_X1_one_b219 (rec : Nat → Int32 → Int32 → St → Option (Int32 × St)) (N : Nat) (x1 : Int32) (x3 : Int32) (S : St) : Option (Int32 × St) :=
  if x1 = (0 : Int32) then
  (bnd (f_X1_adds S x3 (0 : Int32)) fun q5 =>
 chk (isz q5.1) (some (q5.1, q5.2)))
  else
  (bnd (f_X1_faulty S (5 : Int32)) fun q4 =>
 chk (isz q4.1) (some (q4.1, q4.2)))
set_option maxRecDepth 100000 in
set_option maxHeartbeats 4000000 in
theorem tb_X1_one_219 {l : Launch} {G : v_G} {N : Nat} {d : Nat} (hd3 : 4 ≤ d) {rec : Nat → Int32 → Int32 → St → Option (Int32 × St)} (hg0 : ∀ (x1 x2 : Int32) (S : St) (r : Int32 × St), rec 0 x1 x2 S = some r → v_M l G yX1_sum cX1_sum 6 (some .boolean) d 0 0 [.ref (v_B G + 288), .int x1, .int x2] (lay G S) (QI r.1 (lay G r.2))) (hg1 : ∀ (x1 x2 : Int32) (S : St) (r : Int32 × St), rec 1 x1 x2 S = some r → v_M l G yX1_product cX1_product 6 (some .boolean) d 0 0 [.ref (v_B G + 288), .int x1, .int x2] (lay G S) (QI r.1 (lay G r.2))) (hg2 : ∀ (x1 x2 : Int32) (S : St) (r : Int32 × St), rec 2 x1 x2 S = some r → v_M l G yX1_one cX1_one 4 (some .boolean) d 0 0 [.ref (v_B G + 288), .int x1, .int x2] (lay G S) (QI r.1 (lay G r.2))) (hg3 : ∀ (x1 x2 : Int32) (S : St) (r : Int32 × St), rec 3 x1 x2 S = some r → v_M l G yX1_choice cX1_choice 5 (some .boolean) d 0 0 [.ref (v_B G + 288), .int x1, .int x2] (lay G S) (QI r.1 (lay G r.2))) (hg4 : ∀ (x1 x2 : Int32) (S : St) (r : Int32 × St), rec 4 x1 x2 S = some r → v_M l G yX1_either cX1_either 5 (some .boolean) d 0 0 [.ref (v_B G + 288), .int x1, .int x2] (lay G S) (QI r.1 (lay G r.2))) (hg5 : ∀ (x1 x2 : Int32) (S : St) (r : Int32 × St), rec 5 x1 x2 S = some r → v_M l G yX1_both cX1_both 5 (some .boolean) d 0 0 [.ref (v_B G + 288), .int x1, .int x2] (lay G S) (QI r.1 (lay G r.2))) (hg6 : ∀ (x1 x2 : Int32) (S : St) (r : Int32 × St), rec 6 x1 x2 S = some r → v_M l G yX1_ask cX1_ask 4 (some .boolean) d 0 0 [.ref (v_B G + 288), .int x1, .int x2] (lay G S) (QI r.1 (lay G r.2)))   {r : Int32 × St}   : ∀ (x1 : Int32) (x3 : Int32) (S : St),  f_X1_one_b219 rec N x1 x3 S = some r → V l G yX1_one cX1_one 4 (some .boolean) (v_rm (d + 1) 0 0) (QI r.1 (lay G r.2)) 0 0 219 [(0, .ref (v_B G + 288)), (1, .int x1), (3, .int x3)] [] (lay G S) := by
  intro x1 x3 S  hh
  unfold f_X1_one_b219 at hh
  refine v_iload_n 1 dX1_one_219 rfl rfl ?_
  refine v_if_ne (tgt := 232) dX1_one_220 (by decide) (fun c => ?_) (fun c => ?_)
  · replace hh := (if_neg c).symm.trans hh
    refine v_aload_n 0 dX1_one_232 rfl rfl ?_
    refine v_iconst dX1_one_233 (by decide : _ = (5 : Int32)) ?_
    obtain ⟨q4, eq4, hh⟩ := bnd_some hh
    refine v_callVi (t_X1_faulty eq4) dX1_one_234 y_X1_faulty ml_X1_85 (ci := 0) rfl rfl (e_Reader) rfl rfl (Nat.le_of_ble_eq_true rfl) ⟨by show _ ≤ d + 1; omega, by show _ ≤ 64 * (d + 1); omega⟩ ⟨Nat.zero_le _, Nat.zero_le _⟩ ?_
    obtain ⟨g, hh⟩ := chk_some hh
    obtain rfl := Option.some.inj hh
    exact v_zret dX1_one_237 rfl (zb (isz_or g)).1 (Nat.zero_le _) (Nat.zero_le _) ⟨rfl, rfl⟩
  · replace hh := (if_pos c).symm.trans hh
    refine v_aload_n 0 dX1_one_223 rfl rfl ?_
    refine v_iload_n 2 dX1_one_224 rfl rfl ?_
    refine v_iconst dX1_one_225 (by decide : _ = (0 : Int32)) ?_
    obtain ⟨q5, eq5, hh⟩ := bnd_some hh
    refine v_callVi (t_X1_adds eq5) dX1_one_226 y_X1_adds ml_X1_125 (ci := 0) rfl rfl (e_Reader) rfl rfl (Nat.le_of_ble_eq_true rfl) ⟨by show _ ≤ d + 1; omega, by show _ ≤ 64 * (d + 1); omega⟩ ⟨Nat.zero_le _, Nat.zero_le _⟩ ?_
    refine v_goto (tgt := 237) dX1_one_229 (by decide) ?_
    obtain ⟨g, hh⟩ := chk_some hh
    obtain rfl := Option.some.inj hh
    exact v_zret dX1_one_237 rfl (zb (isz_or g)).1 (Nat.zero_le _) (Nat.zero_le _) ⟨rfl, rfl⟩
def f_X1_one_b331 (rec : Nat → Int32 → Int32 → St → Option (Int32 × St)) (N : Nat) (s0 : Int32) (S : St) : Option (Int32 × St) :=
  bnd (f_X1_add S s0 (0 : Int32)) fun q10 =>
 some ((1 : Int32), q10)
set_option maxRecDepth 100000 in
set_option maxHeartbeats 4000000 in
theorem tb_X1_one_331 {l : Launch} {G : v_G} {N : Nat} {d : Nat} (hd3 : 4 ≤ d) {rec : Nat → Int32 → Int32 → St → Option (Int32 × St)} (hg0 : ∀ (x1 x2 : Int32) (S : St) (r : Int32 × St), rec 0 x1 x2 S = some r → v_M l G yX1_sum cX1_sum 6 (some .boolean) d 0 0 [.ref (v_B G + 288), .int x1, .int x2] (lay G S) (QI r.1 (lay G r.2))) (hg1 : ∀ (x1 x2 : Int32) (S : St) (r : Int32 × St), rec 1 x1 x2 S = some r → v_M l G yX1_product cX1_product 6 (some .boolean) d 0 0 [.ref (v_B G + 288), .int x1, .int x2] (lay G S) (QI r.1 (lay G r.2))) (hg2 : ∀ (x1 x2 : Int32) (S : St) (r : Int32 × St), rec 2 x1 x2 S = some r → v_M l G yX1_one cX1_one 4 (some .boolean) d 0 0 [.ref (v_B G + 288), .int x1, .int x2] (lay G S) (QI r.1 (lay G r.2))) (hg3 : ∀ (x1 x2 : Int32) (S : St) (r : Int32 × St), rec 3 x1 x2 S = some r → v_M l G yX1_choice cX1_choice 5 (some .boolean) d 0 0 [.ref (v_B G + 288), .int x1, .int x2] (lay G S) (QI r.1 (lay G r.2))) (hg4 : ∀ (x1 x2 : Int32) (S : St) (r : Int32 × St), rec 4 x1 x2 S = some r → v_M l G yX1_either cX1_either 5 (some .boolean) d 0 0 [.ref (v_B G + 288), .int x1, .int x2] (lay G S) (QI r.1 (lay G r.2))) (hg5 : ∀ (x1 x2 : Int32) (S : St) (r : Int32 × St), rec 5 x1 x2 S = some r → v_M l G yX1_both cX1_both 5 (some .boolean) d 0 0 [.ref (v_B G + 288), .int x1, .int x2] (lay G S) (QI r.1 (lay G r.2))) (hg6 : ∀ (x1 x2 : Int32) (S : St) (r : Int32 × St), rec 6 x1 x2 S = some r → v_M l G yX1_ask cX1_ask 4 (some .boolean) d 0 0 [.ref (v_B G + 288), .int x1, .int x2] (lay G S) (QI r.1 (lay G r.2)))   {r : Int32 × St}   : ∀ (s0 : Int32) (S : St),  f_X1_one_b331 rec N s0 S = some r → V l G yX1_one cX1_one 4 (some .boolean) (v_rm (d + 1) 0 0) (QI r.1 (lay G r.2)) 0 0 331 [] [.int s0, .ref (v_B G + 288)] (lay G S) := by
  intro s0 S  hh
  unfold f_X1_one_b331 at hh
  refine v_iconst dX1_one_331 (by decide : _ = (0 : Int32)) ?_
  obtain ⟨q10, eq10, hh⟩ := bnd_some hh
  refine v_callVv (t_X1_add eq10) dX1_one_332 y_X1_add ml_X1_118 (ci := 0) rfl rfl (e_Reader) rfl rfl (Nat.le_of_ble_eq_true rfl) ⟨by show _ ≤ d + 1; omega, by show _ ≤ 64 * (d + 1); omega⟩ ⟨Nat.zero_le _, Nat.zero_le _⟩ ?_
  refine v_iconst dX1_one_335 (by decide : _ = (1 : Int32)) ?_
  obtain rfl := Option.some.inj hh
  exact v_zret dX1_one_336 rfl (zb (by decide)).1 (Nat.zero_le _) (Nat.zero_le _) ⟨rfl, rfl⟩
def f_X1_one_b297 (rec : Nat → Int32 → Int32 → St → Option (Int32 × St)) (N : Nat) (x1 : Int32) (x2 : Int32) (x3 : Int32) (S : St) : Option (Int32 × St) :=
  bnd (f_X1_opens S x2) fun q8 =>
 if q8.1 = (0 : Int32) then
  (some ((0 : Int32), q8.2))
  else
  (bnd (rec 2 x1 (x2 + (1 : Int32)) q8.2) fun q9 =>
  if q9.1 = (0 : Int32) then
  (some ((0 : Int32), q9.2))
  else
  (if x3 = (33 : Int32) then
  (f_X1_one_b331 rec N (42 : Int32) q9.2)
  else
  (f_X1_one_b331 rec N x3 q9.2)))
set_option maxRecDepth 100000 in
set_option maxHeartbeats 4000000 in
theorem tb_X1_one_297 {l : Launch} {G : v_G} {N : Nat} {d : Nat} (hd3 : 4 ≤ d) {rec : Nat → Int32 → Int32 → St → Option (Int32 × St)} (hg0 : ∀ (x1 x2 : Int32) (S : St) (r : Int32 × St), rec 0 x1 x2 S = some r → v_M l G yX1_sum cX1_sum 6 (some .boolean) d 0 0 [.ref (v_B G + 288), .int x1, .int x2] (lay G S) (QI r.1 (lay G r.2))) (hg1 : ∀ (x1 x2 : Int32) (S : St) (r : Int32 × St), rec 1 x1 x2 S = some r → v_M l G yX1_product cX1_product 6 (some .boolean) d 0 0 [.ref (v_B G + 288), .int x1, .int x2] (lay G S) (QI r.1 (lay G r.2))) (hg2 : ∀ (x1 x2 : Int32) (S : St) (r : Int32 × St), rec 2 x1 x2 S = some r → v_M l G yX1_one cX1_one 4 (some .boolean) d 0 0 [.ref (v_B G + 288), .int x1, .int x2] (lay G S) (QI r.1 (lay G r.2))) (hg3 : ∀ (x1 x2 : Int32) (S : St) (r : Int32 × St), rec 3 x1 x2 S = some r → v_M l G yX1_choice cX1_choice 5 (some .boolean) d 0 0 [.ref (v_B G + 288), .int x1, .int x2] (lay G S) (QI r.1 (lay G r.2))) (hg4 : ∀ (x1 x2 : Int32) (S : St) (r : Int32 × St), rec 4 x1 x2 S = some r → v_M l G yX1_either cX1_either 5 (some .boolean) d 0 0 [.ref (v_B G + 288), .int x1, .int x2] (lay G S) (QI r.1 (lay G r.2))) (hg5 : ∀ (x1 x2 : Int32) (S : St) (r : Int32 × St), rec 5 x1 x2 S = some r → v_M l G yX1_both cX1_both 5 (some .boolean) d 0 0 [.ref (v_B G + 288), .int x1, .int x2] (lay G S) (QI r.1 (lay G r.2))) (hg6 : ∀ (x1 x2 : Int32) (S : St) (r : Int32 × St), rec 6 x1 x2 S = some r → v_M l G yX1_ask cX1_ask 4 (some .boolean) d 0 0 [.ref (v_B G + 288), .int x1, .int x2] (lay G S) (QI r.1 (lay G r.2)))   {r : Int32 × St}   : ∀ (x1 : Int32) (x2 : Int32) (x3 : Int32) (S : St),  f_X1_one_b297 rec N x1 x2 x3 S = some r → V l G yX1_one cX1_one 4 (some .boolean) (v_rm (d + 1) 0 0) (QI r.1 (lay G r.2)) 0 0 297 [(0, .ref (v_B G + 288)), (1, .int x1), (2, .int x2), (3, .int x3)] [] (lay G S) := by
  intro x1 x2 x3 S  hh
  unfold f_X1_one_b297 at hh
  refine v_aload_n 0 dX1_one_297 rfl rfl ?_
  refine v_iload_n 2 dX1_one_298 rfl rfl ?_
  obtain ⟨q8, eq8, hh⟩ := bnd_some hh
  refine v_callVi (t_X1_opens eq8) dX1_one_299 y_X1_opens ml_X1_128 (ci := 0) rfl rfl (e_Reader) rfl rfl (Nat.le_of_ble_eq_true rfl) ⟨by show _ ≤ d + 1; omega, by show _ ≤ 64 * (d + 1); omega⟩ ⟨Nat.zero_le _, Nat.zero_le _⟩ ?_
  refine v_if_eq (tgt := 316) dX1_one_302 (by decide) (fun c => ?_) (fun c => ?_)
  · replace hh := (if_pos c).symm.trans hh
    refine v_iconst dX1_one_316 (by decide : _ = (0 : Int32)) ?_
    obtain rfl := Option.some.inj hh
    exact v_zret dX1_one_317 rfl (zb (by decide)).1 (Nat.zero_le _) (Nat.zero_le _) ⟨rfl, rfl⟩
  · replace hh := (if_neg c).symm.trans hh
    refine v_aload_n 0 dX1_one_305 rfl rfl ?_
    refine v_iload_n 1 dX1_one_306 rfl rfl ?_
    refine v_iload_n 2 dX1_one_307 rfl rfl ?_
    refine v_iconst dX1_one_308 (by decide : _ = (1 : Int32)) ?_
    refine v_iadd dX1_one_309 ?_
    obtain ⟨q9, eq9, hh⟩ := bnd_some hh
    refine v_callVi (hg2 _ _ _ _ eq9) dX1_one_310 y_X1_one ml_X1_122 (ci := 0) rfl rfl e_Reader rfl rfl (Nat.le_of_ble_eq_true rfl) ⟨Nat.le_refl _, by show _ ≤ 64 * (d + 1); omega⟩ ⟨Nat.zero_le _, Nat.zero_le _⟩ ?_
    refine v_if_ne (tgt := 318) dX1_one_313 (by decide) (fun c => ?_) (fun c => ?_)
    · replace hh := (if_neg c).symm.trans hh
      refine v_aload_n 0 dX1_one_318 rfl rfl ?_
      refine v_iload_n 3 dX1_one_319 rfl rfl ?_
      refine v_bipush dX1_one_320 (by decide : _ = (33 : Int32)) ?_
      refine v_icmp_ne (tgt := 330) dX1_one_322 (by decide) (fun c => ?_) (fun c => ?_)
      · replace hh := (if_neg c).symm.trans hh
        refine v_iload_n 3 dX1_one_330 rfl rfl ?_
        exact v_sub [] rfl (tb_X1_one_331 hd3 hg0 hg1 hg2 hg3 hg4 hg5 hg6 _ _ hh)
      · replace hh := (if_pos c).symm.trans hh
        refine v_bipush dX1_one_325 (by decide : _ = (42 : Int32)) ?_
        refine v_goto (tgt := 331) dX1_one_327 (by decide) ?_
        exact v_sub [] rfl (tb_X1_one_331 hd3 hg0 hg1 hg2 hg3 hg4 hg5 hg6 _ _ hh)
    · replace hh := (if_pos c).symm.trans hh
      refine v_iconst dX1_one_316 (by decide : _ = (0 : Int32)) ?_
      obtain rfl := Option.some.inj hh
      exact v_zret dX1_one_317 rfl (zb (by decide)).1 (Nat.zero_le _) (Nat.zero_le _) ⟨rfl, rfl⟩
def fg_X1_one (rec : Nat → Int32 → Int32 → St → Option (Int32 × St)) (N : Nat) (S : St) (x1 : Int32) (x2 : Int32) : Option (Int32 × St) :=
  lt (gI S 105 0 0) fun v1 =>
  if v1 = (3 : Int32) then
  (f_X1_one_b212 rec N v1 S)
  else if v1 = (4 : Int32) then
  (f_X1_one_b337 rec N S)
  else if v1 = (5 : Int32) then
  (f_X1_one_b337 rec N S)
  else if v1 = (6 : Int32) then
  (f_X1_one_b219 rec N x1 v1 S)
  else if v1 = (7 : Int32) then
  (f_X1_one_b337 rec N S)
  else if v1 = (8 : Int32) then
  (f_X1_one_b337 rec N S)
  else if v1 = (9 : Int32) then
  (f_X1_one_b212 rec N v1 S)
  else if v1 = (10 : Int32) then
  (f_X1_one_b337 rec N S)
  else if v1 = (11 : Int32) then
  (f_X1_one_b337 rec N S)
  else if v1 = (12 : Int32) then
  (f_X1_one_b337 rec N S)
  else if v1 = (13 : Int32) then
  (f_X1_one_b337 rec N S)
  else if v1 = (14 : Int32) then
  (f_X1_one_b337 rec N S)
  else if v1 = (15 : Int32) then
  (bnd (f_X1_opens S x2) fun q6 =>
 if q6.1 = (0 : Int32) then
  (some ((0 : Int32), q6.2))
  else
  (bnd (rec 3 x1 (x2 + (1 : Int32)) q6.2) fun q7 =>
  if q7.1 = (0 : Int32) then
  (some ((0 : Int32), q7.2))
  else
  (some ((1 : Int32), q7.2))))
  else if v1 = (16 : Int32) then
  (f_X1_one_b212 rec N v1 S)
  else if v1 = (17 : Int32) then
  (f_X1_one_b212 rec N v1 S)
  else if v1 = (18 : Int32) then
  (f_X1_one_b219 rec N x1 v1 S)
  else if v1 = (19 : Int32) then
  (f_X1_one_b219 rec N x1 v1 S)
  else if v1 = (20 : Int32) then
  (f_X1_one_b219 rec N x1 v1 S)
  else if v1 = (21 : Int32) then
  (f_X1_one_b337 rec N S)
  else if v1 = (22 : Int32) then
  (f_X1_one_b297 rec N x1 x2 v1 S)
  else if v1 = (23 : Int32) then
  (f_X1_one_b297 rec N x1 x2 v1 S)
  else if v1 = (24 : Int32) then
  (f_X1_one_b337 rec N S)
  else if v1 = (25 : Int32) then
  (f_X1_one_b337 rec N S)
  else if v1 = (26 : Int32) then
  (f_X1_one_b337 rec N S)
  else if v1 = (27 : Int32) then
  (f_X1_one_b337 rec N S)
  else if v1 = (28 : Int32) then
  (f_X1_one_b337 rec N S)
  else if v1 = (29 : Int32) then
  (f_X1_one_b337 rec N S)
  else if v1 = (30 : Int32) then
  (f_X1_one_b337 rec N S)
  else if v1 = (31 : Int32) then
  (f_X1_one_b337 rec N S)
  else if v1 = (32 : Int32) then
  (f_X1_one_b337 rec N S)
  else if v1 = (33 : Int32) then
  (f_X1_one_b297 rec N x1 x2 v1 S)
  else if v1 = (34 : Int32) then
  (f_X1_one_b337 rec N S)
  else if v1 = (35 : Int32) then
  (f_X1_one_b337 rec N S)
  else if v1 = (36 : Int32) then
  (bnd (f_X1_opens S x2) fun q11 =>
 if q11.1 = (0 : Int32) then
  (some ((0 : Int32), q11.2))
  else
  (bnd (rec 0 x1 (x2 + (1 : Int32)) q11.2) fun q12 =>
  if q12.1 = (0 : Int32) then
  (some ((0 : Int32), q12.2))
  else
  (bnd (f_X1_takes q12.2 (37 : Int32)) fun q13 =>
 if q13.1 = (0 : Int32) then
  (some ((0 : Int32), q13.2))
  else
  (some ((1 : Int32), q13.2)))))
  else if v1 = (37 : Int32) then
  (f_X1_one_b337 rec N S)
  else if v1 = (38 : Int32) then
  (f_X1_one_b337 rec N S)
  else if v1 = (39 : Int32) then
  (chk (inb (gI S 104 0 0) 301) (
  if (gI S 504 0 (gI S 104 0 0).toNatClampNeg) ≤ (9999 : Int32) then
  (chk (inb (gI S 104 0 0) 301) (
  bnd (f_X1_adds S v1 (gI S 504 0 (gI S 104 0 0).toNatClampNeg)) fun q16 =>
 chk (isz q16.1) (some (q16.1, q16.2))))
  else
  (bnd (f_X1_faulty S (2 : Int32)) fun q17 =>
 chk (isz q17.1) (some (q17.1, q17.2)))))
  else (f_X1_one_b337 rec N S)
set_option maxRecDepth 100000 in
set_option maxHeartbeats 4000000 in
theorem tg_X1_one {l : Launch} {G : v_G} {N : Nat} {S : St} {d : Nat} (hd3 : 4 ≤ d) {rec : Nat → Int32 → Int32 → St → Option (Int32 × St)} (hg0 : ∀ (x1 x2 : Int32) (S : St) (r : Int32 × St), rec 0 x1 x2 S = some r → v_M l G yX1_sum cX1_sum 6 (some .boolean) d 0 0 [.ref (v_B G + 288), .int x1, .int x2] (lay G S) (QI r.1 (lay G r.2))) (hg1 : ∀ (x1 x2 : Int32) (S : St) (r : Int32 × St), rec 1 x1 x2 S = some r → v_M l G yX1_product cX1_product 6 (some .boolean) d 0 0 [.ref (v_B G + 288), .int x1, .int x2] (lay G S) (QI r.1 (lay G r.2))) (hg2 : ∀ (x1 x2 : Int32) (S : St) (r : Int32 × St), rec 2 x1 x2 S = some r → v_M l G yX1_one cX1_one 4 (some .boolean) d 0 0 [.ref (v_B G + 288), .int x1, .int x2] (lay G S) (QI r.1 (lay G r.2))) (hg3 : ∀ (x1 x2 : Int32) (S : St) (r : Int32 × St), rec 3 x1 x2 S = some r → v_M l G yX1_choice cX1_choice 5 (some .boolean) d 0 0 [.ref (v_B G + 288), .int x1, .int x2] (lay G S) (QI r.1 (lay G r.2))) (hg4 : ∀ (x1 x2 : Int32) (S : St) (r : Int32 × St), rec 4 x1 x2 S = some r → v_M l G yX1_either cX1_either 5 (some .boolean) d 0 0 [.ref (v_B G + 288), .int x1, .int x2] (lay G S) (QI r.1 (lay G r.2))) (hg5 : ∀ (x1 x2 : Int32) (S : St) (r : Int32 × St), rec 5 x1 x2 S = some r → v_M l G yX1_both cX1_both 5 (some .boolean) d 0 0 [.ref (v_B G + 288), .int x1, .int x2] (lay G S) (QI r.1 (lay G r.2))) (hg6 : ∀ (x1 x2 : Int32) (S : St) (r : Int32 × St), rec 6 x1 x2 S = some r → v_M l G yX1_ask cX1_ask 4 (some .boolean) d 0 0 [.ref (v_B G + 288), .int x1, .int x2] (lay G S) (QI r.1 (lay G r.2)))  {x1 : Int32} {x2 : Int32} {r : Int32 × St} (hh : fg_X1_one rec N S x1 x2 = some r) : v_M l G yX1_one cX1_one 4 (some .boolean) (d + 1) 0 0 [.ref (v_B G + 288), .int x1, .int x2] (lay G S) (QI r.1 (lay G r.2)) := by
  refine v_entry (by decide) (Nat.le_of_ble_eq_true rfl) ?_
  unfold fg_X1_one at hh
  show V l G yX1_one cX1_one 4 (some .boolean) (v_rm (d + 1) 0 0) (QI r.1 (lay G r.2)) 0 0 0 [(0, .ref (v_B G + 288)), (1, .int x1), (2, .int x2)] [] (lay G S)
  refine v_aload_n 0 dX1_one_0 rfl rfl ?_
  refine r_Reader_token dX1_one_1 fl_X1_58 ?_
  refine v_istore_n dX1_one_4 rfl (by decide) rfl ?_
  replace hh := lt_of hh
  refine v_iload_n 0 dX1_one_5 rfl rfl ?_
  refine sw_if hh (fun c0 hh => ?_) (fun c0 hh => ?_)
  · skip
    refine v_tableIn (tgt := 212) dX1_one_6 (by rw [c0]; decide) (by rw [c0]; decide) (by rw [c0] <;> rfl) (by decide) ?_
    exact v_sub [1, 0] rfl (tb_X1_one_212 hd3 hg0 hg1 hg2 hg3 hg4 hg5 hg6 _ _ hh)
  · skip
    refine sw_if hh (fun c1 hh => ?_) (fun c1 hh => ?_)
    · skip
      refine v_tableIn (tgt := 337) dX1_one_6 (by rw [c1]; decide) (by rw [c1]; decide) (by rw [c1] <;> rfl) (by decide) ?_
      exact v_sub [1] rfl (tb_X1_one_337 hd3 hg0 hg1 hg2 hg3 hg4 hg5 hg6 _ hh)
    · skip
      refine sw_if hh (fun c2 hh => ?_) (fun c2 hh => ?_)
      · skip
        refine v_tableIn (tgt := 337) dX1_one_6 (by rw [c2]; decide) (by rw [c2]; decide) (by rw [c2] <;> rfl) (by decide) ?_
        exact v_sub [1] rfl (tb_X1_one_337 hd3 hg0 hg1 hg2 hg3 hg4 hg5 hg6 _ hh)
      · skip
        refine sw_if hh (fun c3 hh => ?_) (fun c3 hh => ?_)
        · skip
          refine v_tableIn (tgt := 219) dX1_one_6 (by rw [c3]; decide) (by rw [c3]; decide) (by rw [c3] <;> rfl) (by decide) ?_
          exact v_sub [1, 2, 0] rfl (tb_X1_one_219 hd3 hg0 hg1 hg2 hg3 hg4 hg5 hg6 _ _ _ hh)
        · skip
          refine sw_if hh (fun c4 hh => ?_) (fun c4 hh => ?_)
          · skip
            refine v_tableIn (tgt := 337) dX1_one_6 (by rw [c4]; decide) (by rw [c4]; decide) (by rw [c4] <;> rfl) (by decide) ?_
            exact v_sub [1] rfl (tb_X1_one_337 hd3 hg0 hg1 hg2 hg3 hg4 hg5 hg6 _ hh)
          · skip
            refine sw_if hh (fun c5 hh => ?_) (fun c5 hh => ?_)
            · skip
              refine v_tableIn (tgt := 337) dX1_one_6 (by rw [c5]; decide) (by rw [c5]; decide) (by rw [c5] <;> rfl) (by decide) ?_
              exact v_sub [1] rfl (tb_X1_one_337 hd3 hg0 hg1 hg2 hg3 hg4 hg5 hg6 _ hh)
            · skip
              refine sw_if hh (fun c6 hh => ?_) (fun c6 hh => ?_)
              · skip
                refine v_tableIn (tgt := 212) dX1_one_6 (by rw [c6]; decide) (by rw [c6]; decide) (by rw [c6] <;> rfl) (by decide) ?_
                exact v_sub [1, 0] rfl (tb_X1_one_212 hd3 hg0 hg1 hg2 hg3 hg4 hg5 hg6 _ _ hh)
              · skip
                refine sw_if hh (fun c7 hh => ?_) (fun c7 hh => ?_)
                · skip
                  refine v_tableIn (tgt := 337) dX1_one_6 (by rw [c7]; decide) (by rw [c7]; decide) (by rw [c7] <;> rfl) (by decide) ?_
                  exact v_sub [1] rfl (tb_X1_one_337 hd3 hg0 hg1 hg2 hg3 hg4 hg5 hg6 _ hh)
                · skip
                  refine sw_if hh (fun c8 hh => ?_) (fun c8 hh => ?_)
                  · skip
                    refine v_tableIn (tgt := 337) dX1_one_6 (by rw [c8]; decide) (by rw [c8]; decide) (by rw [c8] <;> rfl) (by decide) ?_
                    exact v_sub [1] rfl (tb_X1_one_337 hd3 hg0 hg1 hg2 hg3 hg4 hg5 hg6 _ hh)
                  · skip
                    refine sw_if hh (fun c9 hh => ?_) (fun c9 hh => ?_)
                    · skip
                      refine v_tableIn (tgt := 337) dX1_one_6 (by rw [c9]; decide) (by rw [c9]; decide) (by rw [c9] <;> rfl) (by decide) ?_
                      exact v_sub [1] rfl (tb_X1_one_337 hd3 hg0 hg1 hg2 hg3 hg4 hg5 hg6 _ hh)
                    · skip
                      refine sw_if hh (fun c10 hh => ?_) (fun c10 hh => ?_)
                      · skip
                        refine v_tableIn (tgt := 337) dX1_one_6 (by rw [c10]; decide) (by rw [c10]; decide) (by rw [c10] <;> rfl) (by decide) ?_
                        exact v_sub [1] rfl (tb_X1_one_337 hd3 hg0 hg1 hg2 hg3 hg4 hg5 hg6 _ hh)
                      · skip
                        refine sw_if hh (fun c11 hh => ?_) (fun c11 hh => ?_)
                        · skip
                          refine v_tableIn (tgt := 337) dX1_one_6 (by rw [c11]; decide) (by rw [c11]; decide) (by rw [c11] <;> rfl) (by decide) ?_
                          exact v_sub [1] rfl (tb_X1_one_337 hd3 hg0 hg1 hg2 hg3 hg4 hg5 hg6 _ hh)
                        · skip
                          refine sw_if hh (fun c12 hh => ?_) (fun c12 hh => ?_)
                          · skip
                            refine v_tableIn (tgt := 272) dX1_one_6 (by rw [c12]; decide) (by rw [c12]; decide) (by rw [c12] <;> rfl) (by decide) ?_
                            refine v_aload_n 1 dX1_one_272 rfl rfl ?_
                            refine v_iload_n 3 dX1_one_273 rfl rfl ?_
                            obtain ⟨q6, eq6, hh⟩ := bnd_some hh
                            refine v_callVi (t_X1_opens eq6) dX1_one_274 y_X1_opens ml_X1_128 (ci := 0) rfl rfl (e_Reader) rfl rfl (Nat.le_of_ble_eq_true rfl) ⟨by show _ ≤ d + 1; omega, by show _ ≤ 64 * (d + 1); omega⟩ ⟨Nat.zero_le _, Nat.zero_le _⟩ ?_
                            refine v_if_eq (tgt := 295) dX1_one_277 (by decide) (fun c => ?_) (fun c => ?_)
                            · replace hh := (if_pos c).symm.trans hh
                              refine v_iconst dX1_one_295 (by decide : _ = (0 : Int32)) ?_
                              obtain rfl := Option.some.inj hh
                              exact v_zret dX1_one_296 rfl (zb (by decide)).1 (Nat.zero_le _) (Nat.zero_le _) ⟨rfl, rfl⟩
                            · replace hh := (if_neg c).symm.trans hh
                              refine v_aload_n 1 dX1_one_280 rfl rfl ?_
                              refine v_iload_n 2 dX1_one_281 rfl rfl ?_
                              refine v_iload_n 3 dX1_one_282 rfl rfl ?_
                              refine v_iconst dX1_one_283 (by decide : _ = (1 : Int32)) ?_
                              refine v_iadd dX1_one_284 ?_
                              obtain ⟨q7, eq7, hh⟩ := bnd_some hh
                              refine v_callVi (hg3 _ _ _ _ eq7) dX1_one_285 y_X1_choice ml_X1_131 (ci := 0) rfl rfl e_Reader rfl rfl (Nat.le_of_ble_eq_true rfl) ⟨Nat.le_refl _, by show _ ≤ 64 * (d + 1); omega⟩ ⟨Nat.zero_le _, Nat.zero_le _⟩ ?_
                              refine v_if_eq (tgt := 295) dX1_one_288 (by decide) (fun c => ?_) (fun c => ?_)
                              · replace hh := (if_pos c).symm.trans hh
                                refine v_iconst dX1_one_295 (by decide : _ = (0 : Int32)) ?_
                                obtain rfl := Option.some.inj hh
                                exact v_zret dX1_one_296 rfl (zb (by decide)).1 (Nat.zero_le _) (Nat.zero_le _) ⟨rfl, rfl⟩
                              · replace hh := (if_neg c).symm.trans hh
                                refine v_iconst dX1_one_291 (by decide : _ = (1 : Int32)) ?_
                                refine v_goto (tgt := 296) dX1_one_292 (by decide) ?_
                                obtain rfl := Option.some.inj hh
                                exact v_zret dX1_one_296 rfl (zb (by decide)).1 (Nat.zero_le _) (Nat.zero_le _) ⟨rfl, rfl⟩
                          · skip
                            refine sw_if hh (fun c13 hh => ?_) (fun c13 hh => ?_)
                            · skip
                              refine v_tableIn (tgt := 212) dX1_one_6 (by rw [c13]; decide) (by rw [c13]; decide) (by rw [c13] <;> rfl) (by decide) ?_
                              exact v_sub [1, 0] rfl (tb_X1_one_212 hd3 hg0 hg1 hg2 hg3 hg4 hg5 hg6 _ _ hh)
                            · skip
                              refine sw_if hh (fun c14 hh => ?_) (fun c14 hh => ?_)
                              · skip
                                refine v_tableIn (tgt := 212) dX1_one_6 (by rw [c14]; decide) (by rw [c14]; decide) (by rw [c14] <;> rfl) (by decide) ?_
                                exact v_sub [1, 0] rfl (tb_X1_one_212 hd3 hg0 hg1 hg2 hg3 hg4 hg5 hg6 _ _ hh)
                              · skip
                                refine sw_if hh (fun c15 hh => ?_) (fun c15 hh => ?_)
                                · skip
                                  refine v_tableIn (tgt := 219) dX1_one_6 (by rw [c15]; decide) (by rw [c15]; decide) (by rw [c15] <;> rfl) (by decide) ?_
                                  exact v_sub [1, 2, 0] rfl (tb_X1_one_219 hd3 hg0 hg1 hg2 hg3 hg4 hg5 hg6 _ _ _ hh)
                                · skip
                                  refine sw_if hh (fun c16 hh => ?_) (fun c16 hh => ?_)
                                  · skip
                                    refine v_tableIn (tgt := 219) dX1_one_6 (by rw [c16]; decide) (by rw [c16]; decide) (by rw [c16] <;> rfl) (by decide) ?_
                                    exact v_sub [1, 2, 0] rfl (tb_X1_one_219 hd3 hg0 hg1 hg2 hg3 hg4 hg5 hg6 _ _ _ hh)
                                  · skip
                                    refine sw_if hh (fun c17 hh => ?_) (fun c17 hh => ?_)
                                    · skip
                                      refine v_tableIn (tgt := 219) dX1_one_6 (by rw [c17]; decide) (by rw [c17]; decide) (by rw [c17] <;> rfl) (by decide) ?_
                                      exact v_sub [1, 2, 0] rfl (tb_X1_one_219 hd3 hg0 hg1 hg2 hg3 hg4 hg5 hg6 _ _ _ hh)
                                    · skip
                                      refine sw_if hh (fun c18 hh => ?_) (fun c18 hh => ?_)
                                      · skip
                                        refine v_tableIn (tgt := 337) dX1_one_6 (by rw [c18]; decide) (by rw [c18]; decide) (by rw [c18] <;> rfl) (by decide) ?_
                                        exact v_sub [1] rfl (tb_X1_one_337 hd3 hg0 hg1 hg2 hg3 hg4 hg5 hg6 _ hh)
                                      · skip
                                        refine sw_if hh (fun c19 hh => ?_) (fun c19 hh => ?_)
                                        · skip
                                          refine v_tableIn (tgt := 297) dX1_one_6 (by rw [c19]; decide) (by rw [c19]; decide) (by rw [c19] <;> rfl) (by decide) ?_
                                          exact v_sub [1, 2, 3, 0] rfl (tb_X1_one_297 hd3 hg0 hg1 hg2 hg3 hg4 hg5 hg6 _ _ _ _ hh)
                                        · skip
                                          refine sw_if hh (fun c20 hh => ?_) (fun c20 hh => ?_)
                                          · skip
                                            refine v_tableIn (tgt := 297) dX1_one_6 (by rw [c20]; decide) (by rw [c20]; decide) (by rw [c20] <;> rfl) (by decide) ?_
                                            exact v_sub [1, 2, 3, 0] rfl (tb_X1_one_297 hd3 hg0 hg1 hg2 hg3 hg4 hg5 hg6 _ _ _ _ hh)
                                          · skip
                                            refine sw_if hh (fun c21 hh => ?_) (fun c21 hh => ?_)
                                            · skip
                                              refine v_tableIn (tgt := 337) dX1_one_6 (by rw [c21]; decide) (by rw [c21]; decide) (by rw [c21] <;> rfl) (by decide) ?_
                                              exact v_sub [1] rfl (tb_X1_one_337 hd3 hg0 hg1 hg2 hg3 hg4 hg5 hg6 _ hh)
                                            · skip
                                              refine sw_if hh (fun c22 hh => ?_) (fun c22 hh => ?_)
                                              · skip
                                                refine v_tableIn (tgt := 337) dX1_one_6 (by rw [c22]; decide) (by rw [c22]; decide) (by rw [c22] <;> rfl) (by decide) ?_
                                                exact v_sub [1] rfl (tb_X1_one_337 hd3 hg0 hg1 hg2 hg3 hg4 hg5 hg6 _ hh)
                                              · skip
                                                refine sw_if hh (fun c23 hh => ?_) (fun c23 hh => ?_)
                                                · skip
                                                  refine v_tableIn (tgt := 337) dX1_one_6 (by rw [c23]; decide) (by rw [c23]; decide) (by rw [c23] <;> rfl) (by decide) ?_
                                                  exact v_sub [1] rfl (tb_X1_one_337 hd3 hg0 hg1 hg2 hg3 hg4 hg5 hg6 _ hh)
                                                · skip
                                                  refine sw_if hh (fun c24 hh => ?_) (fun c24 hh => ?_)
                                                  · skip
                                                    refine v_tableIn (tgt := 337) dX1_one_6 (by rw [c24]; decide) (by rw [c24]; decide) (by rw [c24] <;> rfl) (by decide) ?_
                                                    exact v_sub [1] rfl (tb_X1_one_337 hd3 hg0 hg1 hg2 hg3 hg4 hg5 hg6 _ hh)
                                                  · skip
                                                    refine sw_if hh (fun c25 hh => ?_) (fun c25 hh => ?_)
                                                    · skip
                                                      refine v_tableIn (tgt := 337) dX1_one_6 (by rw [c25]; decide) (by rw [c25]; decide) (by rw [c25] <;> rfl) (by decide) ?_
                                                      exact v_sub [1] rfl (tb_X1_one_337 hd3 hg0 hg1 hg2 hg3 hg4 hg5 hg6 _ hh)
                                                    · skip
                                                      refine sw_if hh (fun c26 hh => ?_) (fun c26 hh => ?_)
                                                      · skip
                                                        refine v_tableIn (tgt := 337) dX1_one_6 (by rw [c26]; decide) (by rw [c26]; decide) (by rw [c26] <;> rfl) (by decide) ?_
                                                        exact v_sub [1] rfl (tb_X1_one_337 hd3 hg0 hg1 hg2 hg3 hg4 hg5 hg6 _ hh)
                                                      · skip
                                                        refine sw_if hh (fun c27 hh => ?_) (fun c27 hh => ?_)
                                                        · skip
                                                          refine v_tableIn (tgt := 337) dX1_one_6 (by rw [c27]; decide) (by rw [c27]; decide) (by rw [c27] <;> rfl) (by decide) ?_
                                                          exact v_sub [1] rfl (tb_X1_one_337 hd3 hg0 hg1 hg2 hg3 hg4 hg5 hg6 _ hh)
                                                        · skip
                                                          refine sw_if hh (fun c28 hh => ?_) (fun c28 hh => ?_)
                                                          · skip
                                                            refine v_tableIn (tgt := 337) dX1_one_6 (by rw [c28]; decide) (by rw [c28]; decide) (by rw [c28] <;> rfl) (by decide) ?_
                                                            exact v_sub [1] rfl (tb_X1_one_337 hd3 hg0 hg1 hg2 hg3 hg4 hg5 hg6 _ hh)
                                                          · skip
                                                            refine sw_if hh (fun c29 hh => ?_) (fun c29 hh => ?_)
                                                            · skip
                                                              refine v_tableIn (tgt := 337) dX1_one_6 (by rw [c29]; decide) (by rw [c29]; decide) (by rw [c29] <;> rfl) (by decide) ?_
                                                              exact v_sub [1] rfl (tb_X1_one_337 hd3 hg0 hg1 hg2 hg3 hg4 hg5 hg6 _ hh)
                                                            · skip
                                                              refine sw_if hh (fun c30 hh => ?_) (fun c30 hh => ?_)
                                                              · skip
                                                                refine v_tableIn (tgt := 297) dX1_one_6 (by rw [c30]; decide) (by rw [c30]; decide) (by rw [c30] <;> rfl) (by decide) ?_
                                                                exact v_sub [1, 2, 3, 0] rfl (tb_X1_one_297 hd3 hg0 hg1 hg2 hg3 hg4 hg5 hg6 _ _ _ _ hh)
                                                              · skip
                                                                refine sw_if hh (fun c31 hh => ?_) (fun c31 hh => ?_)
                                                                · skip
                                                                  refine v_tableIn (tgt := 337) dX1_one_6 (by rw [c31]; decide) (by rw [c31]; decide) (by rw [c31] <;> rfl) (by decide) ?_
                                                                  exact v_sub [1] rfl (tb_X1_one_337 hd3 hg0 hg1 hg2 hg3 hg4 hg5 hg6 _ hh)
                                                                · skip
                                                                  refine sw_if hh (fun c32 hh => ?_) (fun c32 hh => ?_)
                                                                  · skip
                                                                    refine v_tableIn (tgt := 337) dX1_one_6 (by rw [c32]; decide) (by rw [c32]; decide) (by rw [c32] <;> rfl) (by decide) ?_
                                                                    exact v_sub [1] rfl (tb_X1_one_337 hd3 hg0 hg1 hg2 hg3 hg4 hg5 hg6 _ hh)
                                                                  · skip
                                                                    refine sw_if hh (fun c33 hh => ?_) (fun c33 hh => ?_)
                                                                    · skip
                                                                      refine v_tableIn (tgt := 238) dX1_one_6 (by rw [c33]; decide) (by rw [c33]; decide) (by rw [c33] <;> rfl) (by decide) ?_
                                                                      refine v_aload_n 1 dX1_one_238 rfl rfl ?_
                                                                      refine v_iload_n 3 dX1_one_239 rfl rfl ?_
                                                                      obtain ⟨q11, eq11, hh⟩ := bnd_some hh
                                                                      refine v_callVi (t_X1_opens eq11) dX1_one_240 y_X1_opens ml_X1_128 (ci := 0) rfl rfl (e_Reader) rfl rfl (Nat.le_of_ble_eq_true rfl) ⟨by show _ ≤ d + 1; omega, by show _ ≤ 64 * (d + 1); omega⟩ ⟨Nat.zero_le _, Nat.zero_le _⟩ ?_
                                                                      refine v_if_eq (tgt := 270) dX1_one_243 (by decide) (fun c => ?_) (fun c => ?_)
                                                                      · replace hh := (if_pos c).symm.trans hh
                                                                        refine v_iconst dX1_one_270 (by decide : _ = (0 : Int32)) ?_
                                                                        obtain rfl := Option.some.inj hh
                                                                        exact v_zret dX1_one_271 rfl (zb (by decide)).1 (Nat.zero_le _) (Nat.zero_le _) ⟨rfl, rfl⟩
                                                                      · replace hh := (if_neg c).symm.trans hh
                                                                        refine v_aload_n 1 dX1_one_246 rfl rfl ?_
                                                                        refine v_iload_n 2 dX1_one_247 rfl rfl ?_
                                                                        refine v_iload_n 3 dX1_one_248 rfl rfl ?_
                                                                        refine v_iconst dX1_one_249 (by decide : _ = (1 : Int32)) ?_
                                                                        refine v_iadd dX1_one_250 ?_
                                                                        obtain ⟨q12, eq12, hh⟩ := bnd_some hh
                                                                        refine v_callVi (hg0 _ _ _ _ eq12) dX1_one_251 y_X1_sum ml_X1_111 (ci := 0) rfl rfl e_Reader rfl rfl (Nat.le_of_ble_eq_true rfl) ⟨Nat.le_refl _, by show _ ≤ 64 * (d + 1); omega⟩ ⟨Nat.zero_le _, Nat.zero_le _⟩ ?_
                                                                        refine v_if_eq (tgt := 270) dX1_one_254 (by decide) (fun c => ?_) (fun c => ?_)
                                                                        · replace hh := (if_pos c).symm.trans hh
                                                                          refine v_iconst dX1_one_270 (by decide : _ = (0 : Int32)) ?_
                                                                          obtain rfl := Option.some.inj hh
                                                                          exact v_zret dX1_one_271 rfl (zb (by decide)).1 (Nat.zero_le _) (Nat.zero_le _) ⟨rfl, rfl⟩
                                                                        · replace hh := (if_neg c).symm.trans hh
                                                                          refine v_aload_n 1 dX1_one_257 rfl rfl ?_
                                                                          refine v_bipush dX1_one_258 (by decide : _ = (37 : Int32)) ?_
                                                                          obtain ⟨q13, eq13, hh⟩ := bnd_some hh
                                                                          refine v_callVi (t_X1_takes eq13) dX1_one_260 y_X1_takes ml_X1_98 (ci := 0) rfl rfl (e_Reader) rfl rfl (Nat.le_of_ble_eq_true rfl) ⟨by show _ ≤ d + 1; omega, by show _ ≤ 64 * (d + 1); omega⟩ ⟨Nat.zero_le _, Nat.zero_le _⟩ ?_
                                                                          refine v_if_eq (tgt := 270) dX1_one_263 (by decide) (fun c => ?_) (fun c => ?_)
                                                                          · replace hh := (if_pos c).symm.trans hh
                                                                            refine v_iconst dX1_one_270 (by decide : _ = (0 : Int32)) ?_
                                                                            obtain rfl := Option.some.inj hh
                                                                            exact v_zret dX1_one_271 rfl (zb (by decide)).1 (Nat.zero_le _) (Nat.zero_le _) ⟨rfl, rfl⟩
                                                                          · replace hh := (if_neg c).symm.trans hh
                                                                            refine v_iconst dX1_one_266 (by decide : _ = (1 : Int32)) ?_
                                                                            refine v_goto (tgt := 271) dX1_one_267 (by decide) ?_
                                                                            obtain rfl := Option.some.inj hh
                                                                            exact v_zret dX1_one_271 rfl (zb (by decide)).1 (Nat.zero_le _) (Nat.zero_le _) ⟨rfl, rfl⟩
                                                                    · skip
                                                                      refine sw_if hh (fun c34 hh => ?_) (fun c34 hh => ?_)
                                                                      · skip
                                                                        refine v_tableIn (tgt := 337) dX1_one_6 (by rw [c34]; decide) (by rw [c34]; decide) (by rw [c34] <;> rfl) (by decide) ?_
                                                                        exact v_sub [1] rfl (tb_X1_one_337 hd3 hg0 hg1 hg2 hg3 hg4 hg5 hg6 _ hh)
                                                                      · skip
                                                                        refine sw_if hh (fun c35 hh => ?_) (fun c35 hh => ?_)
                                                                        · skip
                                                                          refine v_tableIn (tgt := 337) dX1_one_6 (by rw [c35]; decide) (by rw [c35]; decide) (by rw [c35] <;> rfl) (by decide) ?_
                                                                          exact v_sub [1] rfl (tb_X1_one_337 hd3 hg0 hg1 hg2 hg3 hg4 hg5 hg6 _ hh)
                                                                        · skip
                                                                          refine sw_if hh (fun c36 hh => ?_) (fun c36 hh => ?_)
                                                                          · skip
                                                                            refine v_tableIn (tgt := 168) dX1_one_6 (by rw [c36]; decide) (by rw [c36]; decide) (by rw [c36] <;> rfl) (by decide) ?_
                                                                            refine v_aload_n 1 dX1_one_168 rfl rfl ?_
                                                                            refine r_Reader_tape dX1_one_169 fl_X1_29 ?_
                                                                            refine r_Tape_numbers dX1_one_172 fl_X1_105 ?_
                                                                            refine v_aload_n 1 dX1_one_175 rfl rfl ?_
                                                                            refine r_Reader_at dX1_one_176 fl_X1_52 ?_
                                                                            obtain ⟨g14, hh⟩ := chk_some hh
                                                                            replace g14 := inb_in g14
                                                                            refine ld_numbers dX1_one_179 g14 ?_
                                                                            refine v_sipush dX1_one_180 (by decide : _ = (9999 : Int32)) ?_
                                                                            refine v_icmp_le (tgt := 194) dX1_one_183 (by decide) (fun c => ?_) (fun c => ?_)
                                                                            · replace hh := (if_pos c).symm.trans hh
                                                                              refine v_aload_n 1 dX1_one_194 rfl rfl ?_
                                                                              refine v_iload_n 0 dX1_one_195 rfl rfl ?_
                                                                              refine v_aload_n 1 dX1_one_196 rfl rfl ?_
                                                                              refine r_Reader_tape dX1_one_197 fl_X1_29 ?_
                                                                              refine r_Tape_numbers dX1_one_200 fl_X1_105 ?_
                                                                              refine v_aload_n 1 dX1_one_203 rfl rfl ?_
                                                                              refine r_Reader_at dX1_one_204 fl_X1_52 ?_
                                                                              obtain ⟨g15, hh⟩ := chk_some hh
                                                                              replace g15 := inb_in g15
                                                                              refine ld_numbers dX1_one_207 g15 ?_
                                                                              obtain ⟨q16, eq16, hh⟩ := bnd_some hh
                                                                              refine v_callVi (t_X1_adds eq16) dX1_one_208 y_X1_adds ml_X1_125 (ci := 0) rfl rfl (e_Reader) rfl rfl (Nat.le_of_ble_eq_true rfl) ⟨by show _ ≤ d + 1; omega, by show _ ≤ 64 * (d + 1); omega⟩ ⟨Nat.zero_le _, Nat.zero_le _⟩ ?_
                                                                              obtain ⟨g, hh⟩ := chk_some hh
                                                                              obtain rfl := Option.some.inj hh
                                                                              exact v_zret dX1_one_211 rfl (zb (isz_or g)).1 (Nat.zero_le _) (Nat.zero_le _) ⟨rfl, rfl⟩
                                                                            · replace hh := (if_neg c).symm.trans hh
                                                                              refine v_aload_n 1 dX1_one_186 rfl rfl ?_
                                                                              refine v_iconst dX1_one_187 (by decide : _ = (2 : Int32)) ?_
                                                                              obtain ⟨q17, eq17, hh⟩ := bnd_some hh
                                                                              refine v_callVi (t_X1_faulty eq17) dX1_one_188 y_X1_faulty ml_X1_85 (ci := 0) rfl rfl (e_Reader) rfl rfl (Nat.le_of_ble_eq_true rfl) ⟨by show _ ≤ d + 1; omega, by show _ ≤ 64 * (d + 1); omega⟩ ⟨Nat.zero_le _, Nat.zero_le _⟩ ?_
                                                                              refine v_goto (tgt := 211) dX1_one_191 (by decide) ?_
                                                                              obtain ⟨g, hh⟩ := chk_some hh
                                                                              obtain rfl := Option.some.inj hh
                                                                              exact v_zret dX1_one_211 rfl (zb (isz_or g)).1 (Nat.zero_le _) (Nat.zero_le _) ⟨rfl, rfl⟩
                                                                          · skip
                                                                            refine v_tableOut (tgt := 337) dX1_one_6 (sw_out 37 (by decide) (fun k hk => match k, hk with | 0, _ => fun h => c0 (h.trans (by decide)) | 1, _ => fun h => c1 (h.trans (by decide)) | 2, _ => fun h => c2 (h.trans (by decide)) | 3, _ => fun h => c3 (h.trans (by decide)) | 4, _ => fun h => c4 (h.trans (by decide)) | 5, _ => fun h => c5 (h.trans (by decide)) | 6, _ => fun h => c6 (h.trans (by decide)) | 7, _ => fun h => c7 (h.trans (by decide)) | 8, _ => fun h => c8 (h.trans (by decide)) | 9, _ => fun h => c9 (h.trans (by decide)) | 10, _ => fun h => c10 (h.trans (by decide)) | 11, _ => fun h => c11 (h.trans (by decide)) | 12, _ => fun h => c12 (h.trans (by decide)) | 13, _ => fun h => c13 (h.trans (by decide)) | 14, _ => fun h => c14 (h.trans (by decide)) | 15, _ => fun h => c15 (h.trans (by decide)) | 16, _ => fun h => c16 (h.trans (by decide)) | 17, _ => fun h => c17 (h.trans (by decide)) | 18, _ => fun h => c18 (h.trans (by decide)) | 19, _ => fun h => c19 (h.trans (by decide)) | 20, _ => fun h => c20 (h.trans (by decide)) | 21, _ => fun h => c21 (h.trans (by decide)) | 22, _ => fun h => c22 (h.trans (by decide)) | 23, _ => fun h => c23 (h.trans (by decide)) | 24, _ => fun h => c24 (h.trans (by decide)) | 25, _ => fun h => c25 (h.trans (by decide)) | 26, _ => fun h => c26 (h.trans (by decide)) | 27, _ => fun h => c27 (h.trans (by decide)) | 28, _ => fun h => c28 (h.trans (by decide)) | 29, _ => fun h => c29 (h.trans (by decide)) | 30, _ => fun h => c30 (h.trans (by decide)) | 31, _ => fun h => c31 (h.trans (by decide)) | 32, _ => fun h => c32 (h.trans (by decide)) | 33, _ => fun h => c33 (h.trans (by decide)) | 34, _ => fun h => c34 (h.trans (by decide)) | 35, _ => fun h => c35 (h.trans (by decide)) | 36, _ => fun h => c36 (h.trans (by decide)) | k + 37, hk => absurd hk (by omega))) (by decide) ?_
                                                                            exact v_sub [1] rfl (tb_X1_one_337 hd3 hg0 hg1 hg2 hg3 hg4 hg5 hg6 _ hh)
def fg_X1_choice (rec : Nat → Int32 → Int32 → St → Option (Int32 × St)) (N : Nat) (S : St) (x1 : Int32) (x2 : Int32) : Option (Int32 × St) :=
  bnd (rec 4 x1 x2 S) fun q1 =>
  if q1.1 = (0 : Int32) then
  (some ((0 : Int32), q1.2))
  else
  (bnd (f_X1_takes q1.2 (12 : Int32)) fun q2 =>
 if q2.1 = (0 : Int32) then
  (some ((0 : Int32), q2.2))
  else
  (lt (gI q2.2 109 0 0) fun v3 =>
  bnd (f_X1_add q2.2 (43 : Int32) (0 : Int32)) fun q4 =>
 bnd (rec 0 x1 x2 q4) fun q5 =>
  if q5.1 = (0 : Int32) then
  (some ((0 : Int32), q5.2))
  else
  (bnd (f_X1_takes q5.2 (13 : Int32)) fun q6 =>
 if q6.1 = (0 : Int32) then
  (some ((0 : Int32), q6.2))
  else
  (lt (gI q6.2 109 0 0) fun v7 =>
  bnd (f_X1_add q6.2 (44 : Int32) (0 : Int32)) fun q8 =>
 bnd (f_X1_land q8 v3 (43 : Int32)) fun q9 =>
 bnd (rec 0 x1 x2 q9) fun q10 =>
  if q10.1 = (0 : Int32) then
  (some ((0 : Int32), q10.2))
  else
  (bnd (f_X1_takes q10.2 (14 : Int32)) fun q11 =>
 if q11.1 = (0 : Int32) then
  (some ((0 : Int32), q11.2))
  else
  (bnd (f_X1_land q11.2 v7 (44 : Int32)) fun q12 =>
 some ((1 : Int32), q12)))))))
set_option maxRecDepth 100000 in
set_option maxHeartbeats 4000000 in
theorem tg_X1_choice {l : Launch} {G : v_G} {N : Nat} {S : St} {d : Nat} (hd3 : 4 ≤ d) {rec : Nat → Int32 → Int32 → St → Option (Int32 × St)} (hg0 : ∀ (x1 x2 : Int32) (S : St) (r : Int32 × St), rec 0 x1 x2 S = some r → v_M l G yX1_sum cX1_sum 6 (some .boolean) d 0 0 [.ref (v_B G + 288), .int x1, .int x2] (lay G S) (QI r.1 (lay G r.2))) (hg1 : ∀ (x1 x2 : Int32) (S : St) (r : Int32 × St), rec 1 x1 x2 S = some r → v_M l G yX1_product cX1_product 6 (some .boolean) d 0 0 [.ref (v_B G + 288), .int x1, .int x2] (lay G S) (QI r.1 (lay G r.2))) (hg2 : ∀ (x1 x2 : Int32) (S : St) (r : Int32 × St), rec 2 x1 x2 S = some r → v_M l G yX1_one cX1_one 4 (some .boolean) d 0 0 [.ref (v_B G + 288), .int x1, .int x2] (lay G S) (QI r.1 (lay G r.2))) (hg3 : ∀ (x1 x2 : Int32) (S : St) (r : Int32 × St), rec 3 x1 x2 S = some r → v_M l G yX1_choice cX1_choice 5 (some .boolean) d 0 0 [.ref (v_B G + 288), .int x1, .int x2] (lay G S) (QI r.1 (lay G r.2))) (hg4 : ∀ (x1 x2 : Int32) (S : St) (r : Int32 × St), rec 4 x1 x2 S = some r → v_M l G yX1_either cX1_either 5 (some .boolean) d 0 0 [.ref (v_B G + 288), .int x1, .int x2] (lay G S) (QI r.1 (lay G r.2))) (hg5 : ∀ (x1 x2 : Int32) (S : St) (r : Int32 × St), rec 5 x1 x2 S = some r → v_M l G yX1_both cX1_both 5 (some .boolean) d 0 0 [.ref (v_B G + 288), .int x1, .int x2] (lay G S) (QI r.1 (lay G r.2))) (hg6 : ∀ (x1 x2 : Int32) (S : St) (r : Int32 × St), rec 6 x1 x2 S = some r → v_M l G yX1_ask cX1_ask 4 (some .boolean) d 0 0 [.ref (v_B G + 288), .int x1, .int x2] (lay G S) (QI r.1 (lay G r.2)))  {x1 : Int32} {x2 : Int32} {r : Int32 × St} (hh : fg_X1_choice rec N S x1 x2 = some r) : v_M l G yX1_choice cX1_choice 5 (some .boolean) (d + 1) 0 0 [.ref (v_B G + 288), .int x1, .int x2] (lay G S) (QI r.1 (lay G r.2)) := by
  refine v_entry (by decide) (Nat.le_of_ble_eq_true rfl) ?_
  unfold fg_X1_choice at hh
  show V l G yX1_choice cX1_choice 5 (some .boolean) (v_rm (d + 1) 0 0) (QI r.1 (lay G r.2)) 0 0 0 [(0, .ref (v_B G + 288)), (1, .int x1), (2, .int x2)] [] (lay G S)
  refine v_aload_n 0 dX1_choice_0 rfl rfl ?_
  refine v_iload_n 1 dX1_choice_1 rfl rfl ?_
  refine v_iload_n 2 dX1_choice_2 rfl rfl ?_
  obtain ⟨q1, eq1, hh⟩ := bnd_some hh
  refine v_callVi (hg4 _ _ _ _ eq1) dX1_choice_3 y_X1_either ml_X1_134 (ci := 0) rfl rfl e_Reader rfl rfl (Nat.le_of_ble_eq_true rfl) ⟨Nat.le_refl _, by show _ ≤ 64 * (d + 1); omega⟩ ⟨Nat.zero_le _, Nat.zero_le _⟩ ?_
  refine v_if_eq (tgt := 18) dX1_choice_6 (by decide) (fun c => ?_) (fun c => ?_)
  · replace hh := (if_pos c).symm.trans hh
    refine v_iconst dX1_choice_18 (by decide : _ = (0 : Int32)) ?_
    obtain rfl := Option.some.inj hh
    exact v_zret dX1_choice_19 rfl (zb (by decide)).1 (Nat.zero_le _) (Nat.zero_le _) ⟨rfl, rfl⟩
  · replace hh := (if_neg c).symm.trans hh
    refine v_aload_n 0 dX1_choice_9 rfl rfl ?_
    refine v_bipush dX1_choice_10 (by decide : _ = (12 : Int32)) ?_
    obtain ⟨q2, eq2, hh⟩ := bnd_some hh
    refine v_callVi (t_X1_takes eq2) dX1_choice_12 y_X1_takes ml_X1_98 (ci := 0) rfl rfl (e_Reader) rfl rfl (Nat.le_of_ble_eq_true rfl) ⟨by show _ ≤ d + 1; omega, by show _ ≤ 64 * (d + 1); omega⟩ ⟨Nat.zero_le _, Nat.zero_le _⟩ ?_
    refine v_if_ne (tgt := 20) dX1_choice_15 (by decide) (fun c => ?_) (fun c => ?_)
    · replace hh := (if_neg c).symm.trans hh
      refine v_aload_n 0 dX1_choice_20 rfl rfl ?_
      refine r_Reader_lawLength dX1_choice_21 fl_X1_108 ?_
      refine v_istore_n dX1_choice_24 rfl (by decide) rfl ?_
      replace hh := lt_of hh
      refine v_aload_n 1 dX1_choice_25 rfl rfl ?_
      refine v_bipush dX1_choice_26 (by decide : _ = (43 : Int32)) ?_
      refine v_iconst dX1_choice_28 (by decide : _ = (0 : Int32)) ?_
      obtain ⟨q4, eq4, hh⟩ := bnd_some hh
      refine v_callVv (t_X1_add eq4) dX1_choice_29 y_X1_add ml_X1_118 (ci := 0) rfl rfl (e_Reader) rfl rfl (Nat.le_of_ble_eq_true rfl) ⟨by show _ ≤ d + 1; omega, by show _ ≤ 64 * (d + 1); omega⟩ ⟨Nat.zero_le _, Nat.zero_le _⟩ ?_
      refine v_aload_n 1 dX1_choice_32 rfl rfl ?_
      refine v_iload_n 2 dX1_choice_33 rfl rfl ?_
      refine v_iload_n 3 dX1_choice_34 rfl rfl ?_
      obtain ⟨q5, eq5, hh⟩ := bnd_some hh
      refine v_callVi (hg0 _ _ _ _ eq5) dX1_choice_35 y_X1_sum ml_X1_111 (ci := 0) rfl rfl e_Reader rfl rfl (Nat.le_of_ble_eq_true rfl) ⟨Nat.le_refl _, by show _ ≤ 64 * (d + 1); omega⟩ ⟨Nat.zero_le _, Nat.zero_le _⟩ ?_
      refine v_if_eq (tgt := 50) dX1_choice_38 (by decide) (fun c => ?_) (fun c => ?_)
      · replace hh := (if_pos c).symm.trans hh
        refine v_iconst dX1_choice_50 (by decide : _ = (0 : Int32)) ?_
        obtain rfl := Option.some.inj hh
        exact v_zret dX1_choice_51 rfl (zb (by decide)).1 (Nat.zero_le _) (Nat.zero_le _) ⟨rfl, rfl⟩
      · replace hh := (if_neg c).symm.trans hh
        refine v_aload_n 1 dX1_choice_41 rfl rfl ?_
        refine v_bipush dX1_choice_42 (by decide : _ = (13 : Int32)) ?_
        obtain ⟨q6, eq6, hh⟩ := bnd_some hh
        refine v_callVi (t_X1_takes eq6) dX1_choice_44 y_X1_takes ml_X1_98 (ci := 0) rfl rfl (e_Reader) rfl rfl (Nat.le_of_ble_eq_true rfl) ⟨by show _ ≤ d + 1; omega, by show _ ≤ 64 * (d + 1); omega⟩ ⟨Nat.zero_le _, Nat.zero_le _⟩ ?_
        refine v_if_ne (tgt := 52) dX1_choice_47 (by decide) (fun c => ?_) (fun c => ?_)
        · replace hh := (if_neg c).symm.trans hh
          refine v_aload_n 1 dX1_choice_52 rfl rfl ?_
          refine r_Reader_lawLength dX1_choice_53 fl_X1_108 ?_
          refine v_istore dX1_choice_56 (by decide) rfl ?_
          replace hh := lt_of hh
          refine v_aload_n 2 dX1_choice_58 rfl rfl ?_
          refine v_bipush dX1_choice_59 (by decide : _ = (44 : Int32)) ?_
          refine v_iconst dX1_choice_61 (by decide : _ = (0 : Int32)) ?_
          obtain ⟨q8, eq8, hh⟩ := bnd_some hh
          refine v_callVv (t_X1_add eq8) dX1_choice_62 y_X1_add ml_X1_118 (ci := 0) rfl rfl (e_Reader) rfl rfl (Nat.le_of_ble_eq_true rfl) ⟨by show _ ≤ d + 1; omega, by show _ ≤ 64 * (d + 1); omega⟩ ⟨Nat.zero_le _, Nat.zero_le _⟩ ?_
          refine v_aload_n 2 dX1_choice_65 rfl rfl ?_
          refine v_iload_n 1 dX1_choice_66 rfl rfl ?_
          refine v_bipush dX1_choice_67 (by decide : _ = (43 : Int32)) ?_
          obtain ⟨q9, eq9, hh⟩ := bnd_some hh
          refine v_callVv (t_X1_land eq9) dX1_choice_69 y_X1_land ml_X1_137 (ci := 0) rfl rfl (e_Reader) rfl rfl (Nat.le_of_ble_eq_true rfl) ⟨by show _ ≤ d + 1; omega, by show _ ≤ 64 * (d + 1); omega⟩ ⟨Nat.zero_le _, Nat.zero_le _⟩ ?_
          refine v_aload_n 2 dX1_choice_72 rfl rfl ?_
          refine v_iload_n 3 dX1_choice_73 rfl rfl ?_
          refine v_iload_n 4 dX1_choice_74 rfl rfl ?_
          obtain ⟨q10, eq10, hh⟩ := bnd_some hh
          refine v_callVi (hg0 _ _ _ _ eq10) dX1_choice_75 y_X1_sum ml_X1_111 (ci := 0) rfl rfl e_Reader rfl rfl (Nat.le_of_ble_eq_true rfl) ⟨Nat.le_refl _, by show _ ≤ 64 * (d + 1); omega⟩ ⟨Nat.zero_le _, Nat.zero_le _⟩ ?_
          refine v_if_eq (tgt := 90) dX1_choice_78 (by decide) (fun c => ?_) (fun c => ?_)
          · replace hh := (if_pos c).symm.trans hh
            refine v_iconst dX1_choice_90 (by decide : _ = (0 : Int32)) ?_
            obtain rfl := Option.some.inj hh
            exact v_zret dX1_choice_91 rfl (zb (by decide)).1 (Nat.zero_le _) (Nat.zero_le _) ⟨rfl, rfl⟩
          · replace hh := (if_neg c).symm.trans hh
            refine v_aload_n 2 dX1_choice_81 rfl rfl ?_
            refine v_bipush dX1_choice_82 (by decide : _ = (14 : Int32)) ?_
            obtain ⟨q11, eq11, hh⟩ := bnd_some hh
            refine v_callVi (t_X1_takes eq11) dX1_choice_84 y_X1_takes ml_X1_98 (ci := 0) rfl rfl (e_Reader) rfl rfl (Nat.le_of_ble_eq_true rfl) ⟨by show _ ≤ d + 1; omega, by show _ ≤ 64 * (d + 1); omega⟩ ⟨Nat.zero_le _, Nat.zero_le _⟩ ?_
            refine v_if_ne (tgt := 92) dX1_choice_87 (by decide) (fun c => ?_) (fun c => ?_)
            · replace hh := (if_neg c).symm.trans hh
              refine v_aload_n 2 dX1_choice_92 rfl rfl ?_
              refine v_iload 0 dX1_choice_93 rfl ?_
              refine v_bipush dX1_choice_95 (by decide : _ = (44 : Int32)) ?_
              obtain ⟨q12, eq12, hh⟩ := bnd_some hh
              refine v_callVv (t_X1_land eq12) dX1_choice_97 y_X1_land ml_X1_137 (ci := 0) rfl rfl (e_Reader) rfl rfl (Nat.le_of_ble_eq_true rfl) ⟨by show _ ≤ d + 1; omega, by show _ ≤ 64 * (d + 1); omega⟩ ⟨Nat.zero_le _, Nat.zero_le _⟩ ?_
              refine v_iconst dX1_choice_100 (by decide : _ = (1 : Int32)) ?_
              obtain rfl := Option.some.inj hh
              exact v_zret dX1_choice_101 rfl (zb (by decide)).1 (Nat.zero_le _) (Nat.zero_le _) ⟨rfl, rfl⟩
            · replace hh := (if_pos c).symm.trans hh
              refine v_iconst dX1_choice_90 (by decide : _ = (0 : Int32)) ?_
              obtain rfl := Option.some.inj hh
              exact v_zret dX1_choice_91 rfl (zb (by decide)).1 (Nat.zero_le _) (Nat.zero_le _) ⟨rfl, rfl⟩
        · replace hh := (if_pos c).symm.trans hh
          refine v_iconst dX1_choice_50 (by decide : _ = (0 : Int32)) ?_
          obtain rfl := Option.some.inj hh
          exact v_zret dX1_choice_51 rfl (zb (by decide)).1 (Nat.zero_le _) (Nat.zero_le _) ⟨rfl, rfl⟩
    · replace hh := (if_pos c).symm.trans hh
      refine v_iconst dX1_choice_18 (by decide : _ = (0 : Int32)) ?_
      obtain rfl := Option.some.inj hh
      exact v_zret dX1_choice_19 rfl (zb (by decide)).1 (Nat.zero_le _) (Nat.zero_le _) ⟨rfl, rfl⟩
def f_X1_either_b10 (rec : Nat → Int32 → Int32 → St → Option (Int32 × St)) (N : Nat) : Nat → Int32 → Int32 → Int32 → Int32 → St → Option (Int32 × St)
  | 0, _, _, _, _, _ => none
  | n + 1, x1, x2, x3, x4, S =>
  if (300 : Int32) ≤ x4 then
  (chk (isz x3) (some (x3, S)))
  else
  (if x3 = (0 : Int32) then
  (chk (isz x3) (some (x3, S)))
  else
  (if (gI S 105 0 0) = (24 : Int32) then
  (bnd (f_X1_advance S ) fun q2 =>
 bnd (rec 5 x1 x2 q2) fun q3 =>
  bnd (f_X1_add q3.2 (24 : Int32) (0 : Int32)) fun q4 =>
 lt (x4 + (1 : Int32)) fun v5 =>
  f_X1_either_b10 rec N n x1 x2 q3.1 v5 q4)
  else
  (chk (isz x3) (some (x3, S)))))
set_option maxRecDepth 100000 in
set_option maxHeartbeats 4000000 in
theorem tb_X1_either_10 {l : Launch} {G : v_G} {N : Nat} {d : Nat} (hd3 : 4 ≤ d) {rec : Nat → Int32 → Int32 → St → Option (Int32 × St)} (hg0 : ∀ (x1 x2 : Int32) (S : St) (r : Int32 × St), rec 0 x1 x2 S = some r → v_M l G yX1_sum cX1_sum 6 (some .boolean) d 0 0 [.ref (v_B G + 288), .int x1, .int x2] (lay G S) (QI r.1 (lay G r.2))) (hg1 : ∀ (x1 x2 : Int32) (S : St) (r : Int32 × St), rec 1 x1 x2 S = some r → v_M l G yX1_product cX1_product 6 (some .boolean) d 0 0 [.ref (v_B G + 288), .int x1, .int x2] (lay G S) (QI r.1 (lay G r.2))) (hg2 : ∀ (x1 x2 : Int32) (S : St) (r : Int32 × St), rec 2 x1 x2 S = some r → v_M l G yX1_one cX1_one 4 (some .boolean) d 0 0 [.ref (v_B G + 288), .int x1, .int x2] (lay G S) (QI r.1 (lay G r.2))) (hg3 : ∀ (x1 x2 : Int32) (S : St) (r : Int32 × St), rec 3 x1 x2 S = some r → v_M l G yX1_choice cX1_choice 5 (some .boolean) d 0 0 [.ref (v_B G + 288), .int x1, .int x2] (lay G S) (QI r.1 (lay G r.2))) (hg4 : ∀ (x1 x2 : Int32) (S : St) (r : Int32 × St), rec 4 x1 x2 S = some r → v_M l G yX1_either cX1_either 5 (some .boolean) d 0 0 [.ref (v_B G + 288), .int x1, .int x2] (lay G S) (QI r.1 (lay G r.2))) (hg5 : ∀ (x1 x2 : Int32) (S : St) (r : Int32 × St), rec 5 x1 x2 S = some r → v_M l G yX1_both cX1_both 5 (some .boolean) d 0 0 [.ref (v_B G + 288), .int x1, .int x2] (lay G S) (QI r.1 (lay G r.2))) (hg6 : ∀ (x1 x2 : Int32) (S : St) (r : Int32 × St), rec 6 x1 x2 S = some r → v_M l G yX1_ask cX1_ask 4 (some .boolean) d 0 0 [.ref (v_B G + 288), .int x1, .int x2] (lay G S) (QI r.1 (lay G r.2)))   {r : Int32 × St}   : ∀ (n : Nat) (x1 : Int32) (x2 : Int32) (x3 : Int32) (x4 : Int32) (S : St),  f_X1_either_b10 rec N n x1 x2 x3 x4 S = some r → V l G yX1_either cX1_either 5 (some .boolean) (v_rm (d + 1) 0 0) (QI r.1 (lay G r.2)) 0 0 10 [(0, .ref (v_B G + 288)), (1, .int x1), (2, .int x2), (3, .int x3), (4, .int x4)] [] (lay G S) := by
  intro n
  induction n with
  | zero =>
    intro x1 x2 x3 x4 S  hh
    rw [f_X1_either_b10] at hh
    cases hh
  | succ n ih =>
    intro x1 x2 x3 x4 S  hh
    rw [f_X1_either_b10] at hh
    refine v_iload 4 dX1_either_10 rfl ?_
    refine v_sipush dX1_either_12 (by decide : _ = (300 : Int32)) ?_
    refine v_icmp_ge (tgt := 55) dX1_either_15 (by decide) (fun c => ?_) (fun c => ?_)
    · replace hh := (if_pos c).symm.trans hh
      refine v_iload_n 3 dX1_either_55 rfl rfl ?_
      obtain ⟨g, hh⟩ := chk_some hh
      obtain rfl := Option.some.inj hh
      exact v_zret dX1_either_56 rfl (zb (isz_or g)).1 (Nat.zero_le _) (Nat.zero_le _) ⟨rfl, rfl⟩
    · replace hh := (if_neg c).symm.trans hh
      refine v_iload_n 3 dX1_either_18 rfl rfl ?_
      refine v_if_eq (tgt := 55) dX1_either_19 (by decide) (fun c => ?_) (fun c => ?_)
      · replace hh := (if_pos c).symm.trans hh
        refine v_iload_n 3 dX1_either_55 rfl rfl ?_
        obtain ⟨g, hh⟩ := chk_some hh
        obtain rfl := Option.some.inj hh
        exact v_zret dX1_either_56 rfl (zb (isz_or g)).1 (Nat.zero_le _) (Nat.zero_le _) ⟨rfl, rfl⟩
      · replace hh := (if_neg c).symm.trans hh
        refine v_aload_n 0 dX1_either_22 rfl rfl ?_
        refine r_Reader_token dX1_either_23 fl_X1_58 ?_
        refine v_bipush dX1_either_26 (by decide : _ = (24 : Int32)) ?_
        refine v_icmp_ne (tgt := 55) dX1_either_28 (by decide) (fun c => ?_) (fun c => ?_)
        · replace hh := (if_neg c).symm.trans hh
          refine v_iload_n 3 dX1_either_55 rfl rfl ?_
          obtain ⟨g, hh⟩ := chk_some hh
          obtain rfl := Option.some.inj hh
          exact v_zret dX1_either_56 rfl (zb (isz_or g)).1 (Nat.zero_le _) (Nat.zero_le _) ⟨rfl, rfl⟩
        · replace hh := (if_pos c).symm.trans hh
          refine v_aload_n 0 dX1_either_31 rfl rfl ?_
          obtain ⟨q2, eq2, hh⟩ := bnd_some hh
          refine v_callVv (t_X1_advance eq2) dX1_either_32 y_X1_advance ml_X1_89 (ci := 0) rfl rfl (e_Reader) rfl rfl (Nat.le_of_ble_eq_true rfl) ⟨by show _ ≤ d + 1; omega, by show _ ≤ 64 * (d + 1); omega⟩ ⟨Nat.zero_le _, Nat.zero_le _⟩ ?_
          refine v_aload_n 0 dX1_either_35 rfl rfl ?_
          refine v_iload_n 1 dX1_either_36 rfl rfl ?_
          refine v_iload_n 2 dX1_either_37 rfl rfl ?_
          obtain ⟨q3, eq3, hh⟩ := bnd_some hh
          refine v_callVi (hg5 _ _ _ _ eq3) dX1_either_38 y_X1_both ml_X1_140 (ci := 0) rfl rfl e_Reader rfl rfl (Nat.le_of_ble_eq_true rfl) ⟨Nat.le_refl _, by show _ ≤ 64 * (d + 1); omega⟩ ⟨Nat.zero_le _, Nat.zero_le _⟩ ?_
          refine v_istore_n dX1_either_41 rfl (by decide) rfl ?_
          refine v_aload_n 1 dX1_either_42 rfl rfl ?_
          refine v_bipush dX1_either_43 (by decide : _ = (24 : Int32)) ?_
          refine v_iconst dX1_either_45 (by decide : _ = (0 : Int32)) ?_
          obtain ⟨q4, eq4, hh⟩ := bnd_some hh
          refine v_callVv (t_X1_add eq4) dX1_either_46 y_X1_add ml_X1_118 (ci := 0) rfl rfl (e_Reader) rfl rfl (Nat.le_of_ble_eq_true rfl) ⟨by show _ ≤ d + 1; omega, by show _ ≤ 64 * (d + 1); omega⟩ ⟨Nat.zero_le _, Nat.zero_le _⟩ ?_
          refine v_iinc (v := _ + (1 : Int32)) 4 dX1_either_49 rfl rfl (by decide) rfl ?_
          replace hh := lt_of hh
          refine v_goto (tgt := 10) dX1_either_52 (by decide) ?_
          exact v_sub [2, 3, 4, 1, 0] rfl (ih _ _ _ _ _ hh)
def fg_X1_either (rec : Nat → Int32 → Int32 → St → Option (Int32 × St)) (N : Nat) (S : St) (x1 : Int32) (x2 : Int32) : Option (Int32 × St) :=
  bnd (rec 5 x1 x2 S) fun q1 =>
  f_X1_either_b10 rec N N x1 x2 q1.1 (0 : Int32) q1.2
set_option maxRecDepth 100000 in
set_option maxHeartbeats 4000000 in
theorem tg_X1_either {l : Launch} {G : v_G} {N : Nat} {S : St} {d : Nat} (hd3 : 4 ≤ d) {rec : Nat → Int32 → Int32 → St → Option (Int32 × St)} (hg0 : ∀ (x1 x2 : Int32) (S : St) (r : Int32 × St), rec 0 x1 x2 S = some r → v_M l G yX1_sum cX1_sum 6 (some .boolean) d 0 0 [.ref (v_B G + 288), .int x1, .int x2] (lay G S) (QI r.1 (lay G r.2))) (hg1 : ∀ (x1 x2 : Int32) (S : St) (r : Int32 × St), rec 1 x1 x2 S = some r → v_M l G yX1_product cX1_product 6 (some .boolean) d 0 0 [.ref (v_B G + 288), .int x1, .int x2] (lay G S) (QI r.1 (lay G r.2))) (hg2 : ∀ (x1 x2 : Int32) (S : St) (r : Int32 × St), rec 2 x1 x2 S = some r → v_M l G yX1_one cX1_one 4 (some .boolean) d 0 0 [.ref (v_B G + 288), .int x1, .int x2] (lay G S) (QI r.1 (lay G r.2))) (hg3 : ∀ (x1 x2 : Int32) (S : St) (r : Int32 × St), rec 3 x1 x2 S = some r → v_M l G yX1_choice cX1_choice 5 (some .boolean) d 0 0 [.ref (v_B G + 288), .int x1, .int x2] (lay G S) (QI r.1 (lay G r.2))) (hg4 : ∀ (x1 x2 : Int32) (S : St) (r : Int32 × St), rec 4 x1 x2 S = some r → v_M l G yX1_either cX1_either 5 (some .boolean) d 0 0 [.ref (v_B G + 288), .int x1, .int x2] (lay G S) (QI r.1 (lay G r.2))) (hg5 : ∀ (x1 x2 : Int32) (S : St) (r : Int32 × St), rec 5 x1 x2 S = some r → v_M l G yX1_both cX1_both 5 (some .boolean) d 0 0 [.ref (v_B G + 288), .int x1, .int x2] (lay G S) (QI r.1 (lay G r.2))) (hg6 : ∀ (x1 x2 : Int32) (S : St) (r : Int32 × St), rec 6 x1 x2 S = some r → v_M l G yX1_ask cX1_ask 4 (some .boolean) d 0 0 [.ref (v_B G + 288), .int x1, .int x2] (lay G S) (QI r.1 (lay G r.2)))  {x1 : Int32} {x2 : Int32} {r : Int32 × St} (hh : fg_X1_either rec N S x1 x2 = some r) : v_M l G yX1_either cX1_either 5 (some .boolean) (d + 1) 0 0 [.ref (v_B G + 288), .int x1, .int x2] (lay G S) (QI r.1 (lay G r.2)) := by
  refine v_entry (by decide) (Nat.le_of_ble_eq_true rfl) ?_
  unfold fg_X1_either at hh
  show V l G yX1_either cX1_either 5 (some .boolean) (v_rm (d + 1) 0 0) (QI r.1 (lay G r.2)) 0 0 0 [(0, .ref (v_B G + 288)), (1, .int x1), (2, .int x2)] [] (lay G S)
  refine v_aload_n 0 dX1_either_0 rfl rfl ?_
  refine v_iload_n 1 dX1_either_1 rfl rfl ?_
  refine v_iload_n 2 dX1_either_2 rfl rfl ?_
  obtain ⟨q1, eq1, hh⟩ := bnd_some hh
  refine v_callVi (hg5 _ _ _ _ eq1) dX1_either_3 y_X1_both ml_X1_140 (ci := 0) rfl rfl e_Reader rfl rfl (Nat.le_of_ble_eq_true rfl) ⟨Nat.le_refl _, by show _ ≤ 64 * (d + 1); omega⟩ ⟨Nat.zero_le _, Nat.zero_le _⟩ ?_
  refine v_istore_n dX1_either_6 rfl (by decide) rfl ?_
  refine v_iconst dX1_either_7 (by decide : _ = (0 : Int32)) ?_
  refine v_istore dX1_either_8 (by decide) rfl ?_
  exact v_sub [2, 3, 4, 1, 0] rfl (tb_X1_either_10 hd3 hg0 hg1 hg2 hg3 hg4 hg5 hg6 N _ _ _ _ _ hh)
def f_X1_both_b10 (rec : Nat → Int32 → Int32 → St → Option (Int32 × St)) (N : Nat) : Nat → Int32 → Int32 → Int32 → Int32 → St → Option (Int32 × St)
  | 0, _, _, _, _, _ => none
  | n + 1, x1, x2, x3, x4, S =>
  if (300 : Int32) ≤ x4 then
  (chk (isz x3) (some (x3, S)))
  else
  (if x3 = (0 : Int32) then
  (chk (isz x3) (some (x3, S)))
  else
  (if (gI S 105 0 0) = (25 : Int32) then
  (bnd (f_X1_advance S ) fun q2 =>
 bnd (rec 6 x1 x2 q2) fun q3 =>
  bnd (f_X1_add q3.2 (25 : Int32) (0 : Int32)) fun q4 =>
 lt (x4 + (1 : Int32)) fun v5 =>
  f_X1_both_b10 rec N n x1 x2 q3.1 v5 q4)
  else
  (chk (isz x3) (some (x3, S)))))
set_option maxRecDepth 100000 in
set_option maxHeartbeats 4000000 in
theorem tb_X1_both_10 {l : Launch} {G : v_G} {N : Nat} {d : Nat} (hd3 : 4 ≤ d) {rec : Nat → Int32 → Int32 → St → Option (Int32 × St)} (hg0 : ∀ (x1 x2 : Int32) (S : St) (r : Int32 × St), rec 0 x1 x2 S = some r → v_M l G yX1_sum cX1_sum 6 (some .boolean) d 0 0 [.ref (v_B G + 288), .int x1, .int x2] (lay G S) (QI r.1 (lay G r.2))) (hg1 : ∀ (x1 x2 : Int32) (S : St) (r : Int32 × St), rec 1 x1 x2 S = some r → v_M l G yX1_product cX1_product 6 (some .boolean) d 0 0 [.ref (v_B G + 288), .int x1, .int x2] (lay G S) (QI r.1 (lay G r.2))) (hg2 : ∀ (x1 x2 : Int32) (S : St) (r : Int32 × St), rec 2 x1 x2 S = some r → v_M l G yX1_one cX1_one 4 (some .boolean) d 0 0 [.ref (v_B G + 288), .int x1, .int x2] (lay G S) (QI r.1 (lay G r.2))) (hg3 : ∀ (x1 x2 : Int32) (S : St) (r : Int32 × St), rec 3 x1 x2 S = some r → v_M l G yX1_choice cX1_choice 5 (some .boolean) d 0 0 [.ref (v_B G + 288), .int x1, .int x2] (lay G S) (QI r.1 (lay G r.2))) (hg4 : ∀ (x1 x2 : Int32) (S : St) (r : Int32 × St), rec 4 x1 x2 S = some r → v_M l G yX1_either cX1_either 5 (some .boolean) d 0 0 [.ref (v_B G + 288), .int x1, .int x2] (lay G S) (QI r.1 (lay G r.2))) (hg5 : ∀ (x1 x2 : Int32) (S : St) (r : Int32 × St), rec 5 x1 x2 S = some r → v_M l G yX1_both cX1_both 5 (some .boolean) d 0 0 [.ref (v_B G + 288), .int x1, .int x2] (lay G S) (QI r.1 (lay G r.2))) (hg6 : ∀ (x1 x2 : Int32) (S : St) (r : Int32 × St), rec 6 x1 x2 S = some r → v_M l G yX1_ask cX1_ask 4 (some .boolean) d 0 0 [.ref (v_B G + 288), .int x1, .int x2] (lay G S) (QI r.1 (lay G r.2)))   {r : Int32 × St}   : ∀ (n : Nat) (x1 : Int32) (x2 : Int32) (x3 : Int32) (x4 : Int32) (S : St),  f_X1_both_b10 rec N n x1 x2 x3 x4 S = some r → V l G yX1_both cX1_both 5 (some .boolean) (v_rm (d + 1) 0 0) (QI r.1 (lay G r.2)) 0 0 10 [(0, .ref (v_B G + 288)), (1, .int x1), (2, .int x2), (3, .int x3), (4, .int x4)] [] (lay G S) := by
  intro n
  induction n with
  | zero =>
    intro x1 x2 x3 x4 S  hh
    rw [f_X1_both_b10] at hh
    cases hh
  | succ n ih =>
    intro x1 x2 x3 x4 S  hh
    rw [f_X1_both_b10] at hh
    refine v_iload 4 dX1_both_10 rfl ?_
    refine v_sipush dX1_both_12 (by decide : _ = (300 : Int32)) ?_
    refine v_icmp_ge (tgt := 55) dX1_both_15 (by decide) (fun c => ?_) (fun c => ?_)
    · replace hh := (if_pos c).symm.trans hh
      refine v_iload_n 3 dX1_both_55 rfl rfl ?_
      obtain ⟨g, hh⟩ := chk_some hh
      obtain rfl := Option.some.inj hh
      exact v_zret dX1_both_56 rfl (zb (isz_or g)).1 (Nat.zero_le _) (Nat.zero_le _) ⟨rfl, rfl⟩
    · replace hh := (if_neg c).symm.trans hh
      refine v_iload_n 3 dX1_both_18 rfl rfl ?_
      refine v_if_eq (tgt := 55) dX1_both_19 (by decide) (fun c => ?_) (fun c => ?_)
      · replace hh := (if_pos c).symm.trans hh
        refine v_iload_n 3 dX1_both_55 rfl rfl ?_
        obtain ⟨g, hh⟩ := chk_some hh
        obtain rfl := Option.some.inj hh
        exact v_zret dX1_both_56 rfl (zb (isz_or g)).1 (Nat.zero_le _) (Nat.zero_le _) ⟨rfl, rfl⟩
      · replace hh := (if_neg c).symm.trans hh
        refine v_aload_n 0 dX1_both_22 rfl rfl ?_
        refine r_Reader_token dX1_both_23 fl_X1_58 ?_
        refine v_bipush dX1_both_26 (by decide : _ = (25 : Int32)) ?_
        refine v_icmp_ne (tgt := 55) dX1_both_28 (by decide) (fun c => ?_) (fun c => ?_)
        · replace hh := (if_neg c).symm.trans hh
          refine v_iload_n 3 dX1_both_55 rfl rfl ?_
          obtain ⟨g, hh⟩ := chk_some hh
          obtain rfl := Option.some.inj hh
          exact v_zret dX1_both_56 rfl (zb (isz_or g)).1 (Nat.zero_le _) (Nat.zero_le _) ⟨rfl, rfl⟩
        · replace hh := (if_pos c).symm.trans hh
          refine v_aload_n 0 dX1_both_31 rfl rfl ?_
          obtain ⟨q2, eq2, hh⟩ := bnd_some hh
          refine v_callVv (t_X1_advance eq2) dX1_both_32 y_X1_advance ml_X1_89 (ci := 0) rfl rfl (e_Reader) rfl rfl (Nat.le_of_ble_eq_true rfl) ⟨by show _ ≤ d + 1; omega, by show _ ≤ 64 * (d + 1); omega⟩ ⟨Nat.zero_le _, Nat.zero_le _⟩ ?_
          refine v_aload_n 0 dX1_both_35 rfl rfl ?_
          refine v_iload_n 1 dX1_both_36 rfl rfl ?_
          refine v_iload_n 2 dX1_both_37 rfl rfl ?_
          obtain ⟨q3, eq3, hh⟩ := bnd_some hh
          refine v_callVi (hg6 _ _ _ _ eq3) dX1_both_38 y_X1_ask ml_X1_143 (ci := 0) rfl rfl e_Reader rfl rfl (Nat.le_of_ble_eq_true rfl) ⟨Nat.le_refl _, by show _ ≤ 64 * (d + 1); omega⟩ ⟨Nat.zero_le _, Nat.zero_le _⟩ ?_
          refine v_istore_n dX1_both_41 rfl (by decide) rfl ?_
          refine v_aload_n 1 dX1_both_42 rfl rfl ?_
          refine v_bipush dX1_both_43 (by decide : _ = (25 : Int32)) ?_
          refine v_iconst dX1_both_45 (by decide : _ = (0 : Int32)) ?_
          obtain ⟨q4, eq4, hh⟩ := bnd_some hh
          refine v_callVv (t_X1_add eq4) dX1_both_46 y_X1_add ml_X1_118 (ci := 0) rfl rfl (e_Reader) rfl rfl (Nat.le_of_ble_eq_true rfl) ⟨by show _ ≤ d + 1; omega, by show _ ≤ 64 * (d + 1); omega⟩ ⟨Nat.zero_le _, Nat.zero_le _⟩ ?_
          refine v_iinc (v := _ + (1 : Int32)) 4 dX1_both_49 rfl rfl (by decide) rfl ?_
          replace hh := lt_of hh
          refine v_goto (tgt := 10) dX1_both_52 (by decide) ?_
          exact v_sub [2, 3, 4, 1, 0] rfl (ih _ _ _ _ _ hh)
def fg_X1_both (rec : Nat → Int32 → Int32 → St → Option (Int32 × St)) (N : Nat) (S : St) (x1 : Int32) (x2 : Int32) : Option (Int32 × St) :=
  bnd (rec 6 x1 x2 S) fun q1 =>
  f_X1_both_b10 rec N N x1 x2 q1.1 (0 : Int32) q1.2
set_option maxRecDepth 100000 in
set_option maxHeartbeats 4000000 in
theorem tg_X1_both {l : Launch} {G : v_G} {N : Nat} {S : St} {d : Nat} (hd3 : 4 ≤ d) {rec : Nat → Int32 → Int32 → St → Option (Int32 × St)} (hg0 : ∀ (x1 x2 : Int32) (S : St) (r : Int32 × St), rec 0 x1 x2 S = some r → v_M l G yX1_sum cX1_sum 6 (some .boolean) d 0 0 [.ref (v_B G + 288), .int x1, .int x2] (lay G S) (QI r.1 (lay G r.2))) (hg1 : ∀ (x1 x2 : Int32) (S : St) (r : Int32 × St), rec 1 x1 x2 S = some r → v_M l G yX1_product cX1_product 6 (some .boolean) d 0 0 [.ref (v_B G + 288), .int x1, .int x2] (lay G S) (QI r.1 (lay G r.2))) (hg2 : ∀ (x1 x2 : Int32) (S : St) (r : Int32 × St), rec 2 x1 x2 S = some r → v_M l G yX1_one cX1_one 4 (some .boolean) d 0 0 [.ref (v_B G + 288), .int x1, .int x2] (lay G S) (QI r.1 (lay G r.2))) (hg3 : ∀ (x1 x2 : Int32) (S : St) (r : Int32 × St), rec 3 x1 x2 S = some r → v_M l G yX1_choice cX1_choice 5 (some .boolean) d 0 0 [.ref (v_B G + 288), .int x1, .int x2] (lay G S) (QI r.1 (lay G r.2))) (hg4 : ∀ (x1 x2 : Int32) (S : St) (r : Int32 × St), rec 4 x1 x2 S = some r → v_M l G yX1_either cX1_either 5 (some .boolean) d 0 0 [.ref (v_B G + 288), .int x1, .int x2] (lay G S) (QI r.1 (lay G r.2))) (hg5 : ∀ (x1 x2 : Int32) (S : St) (r : Int32 × St), rec 5 x1 x2 S = some r → v_M l G yX1_both cX1_both 5 (some .boolean) d 0 0 [.ref (v_B G + 288), .int x1, .int x2] (lay G S) (QI r.1 (lay G r.2))) (hg6 : ∀ (x1 x2 : Int32) (S : St) (r : Int32 × St), rec 6 x1 x2 S = some r → v_M l G yX1_ask cX1_ask 4 (some .boolean) d 0 0 [.ref (v_B G + 288), .int x1, .int x2] (lay G S) (QI r.1 (lay G r.2)))  {x1 : Int32} {x2 : Int32} {r : Int32 × St} (hh : fg_X1_both rec N S x1 x2 = some r) : v_M l G yX1_both cX1_both 5 (some .boolean) (d + 1) 0 0 [.ref (v_B G + 288), .int x1, .int x2] (lay G S) (QI r.1 (lay G r.2)) := by
  refine v_entry (by decide) (Nat.le_of_ble_eq_true rfl) ?_
  unfold fg_X1_both at hh
  show V l G yX1_both cX1_both 5 (some .boolean) (v_rm (d + 1) 0 0) (QI r.1 (lay G r.2)) 0 0 0 [(0, .ref (v_B G + 288)), (1, .int x1), (2, .int x2)] [] (lay G S)
  refine v_aload_n 0 dX1_both_0 rfl rfl ?_
  refine v_iload_n 1 dX1_both_1 rfl rfl ?_
  refine v_iload_n 2 dX1_both_2 rfl rfl ?_
  obtain ⟨q1, eq1, hh⟩ := bnd_some hh
  refine v_callVi (hg6 _ _ _ _ eq1) dX1_both_3 y_X1_ask ml_X1_143 (ci := 0) rfl rfl e_Reader rfl rfl (Nat.le_of_ble_eq_true rfl) ⟨Nat.le_refl _, by show _ ≤ 64 * (d + 1); omega⟩ ⟨Nat.zero_le _, Nat.zero_le _⟩ ?_
  refine v_istore_n dX1_both_6 rfl (by decide) rfl ?_
  refine v_iconst dX1_both_7 (by decide : _ = (0 : Int32)) ?_
  refine v_istore dX1_both_8 (by decide) rfl ?_
  exact v_sub [2, 3, 4, 1, 0] rfl (tb_X1_both_10 hd3 hg0 hg1 hg2 hg3 hg4 hg5 hg6 N _ _ _ _ _ hh)
def f_X1_ask_b67 (rec : Nat → Int32 → Int32 → St → Option (Int32 × St)) (N : Nat)  (S : St) : Option (Int32 × St) :=
  bnd (f_X1_faulty S (1 : Int32)) fun q3 =>
 chk (isz q3.1) (some (q3.1, q3.2))
set_option maxRecDepth 100000 in
set_option maxHeartbeats 4000000 in
theorem tb_X1_ask_67 {l : Launch} {G : v_G} {N : Nat} {d : Nat} (hd3 : 4 ≤ d) {rec : Nat → Int32 → Int32 → St → Option (Int32 × St)} (hg0 : ∀ (x1 x2 : Int32) (S : St) (r : Int32 × St), rec 0 x1 x2 S = some r → v_M l G yX1_sum cX1_sum 6 (some .boolean) d 0 0 [.ref (v_B G + 288), .int x1, .int x2] (lay G S) (QI r.1 (lay G r.2))) (hg1 : ∀ (x1 x2 : Int32) (S : St) (r : Int32 × St), rec 1 x1 x2 S = some r → v_M l G yX1_product cX1_product 6 (some .boolean) d 0 0 [.ref (v_B G + 288), .int x1, .int x2] (lay G S) (QI r.1 (lay G r.2))) (hg2 : ∀ (x1 x2 : Int32) (S : St) (r : Int32 × St), rec 2 x1 x2 S = some r → v_M l G yX1_one cX1_one 4 (some .boolean) d 0 0 [.ref (v_B G + 288), .int x1, .int x2] (lay G S) (QI r.1 (lay G r.2))) (hg3 : ∀ (x1 x2 : Int32) (S : St) (r : Int32 × St), rec 3 x1 x2 S = some r → v_M l G yX1_choice cX1_choice 5 (some .boolean) d 0 0 [.ref (v_B G + 288), .int x1, .int x2] (lay G S) (QI r.1 (lay G r.2))) (hg4 : ∀ (x1 x2 : Int32) (S : St) (r : Int32 × St), rec 4 x1 x2 S = some r → v_M l G yX1_either cX1_either 5 (some .boolean) d 0 0 [.ref (v_B G + 288), .int x1, .int x2] (lay G S) (QI r.1 (lay G r.2))) (hg5 : ∀ (x1 x2 : Int32) (S : St) (r : Int32 × St), rec 5 x1 x2 S = some r → v_M l G yX1_both cX1_both 5 (some .boolean) d 0 0 [.ref (v_B G + 288), .int x1, .int x2] (lay G S) (QI r.1 (lay G r.2))) (hg6 : ∀ (x1 x2 : Int32) (S : St) (r : Int32 × St), rec 6 x1 x2 S = some r → v_M l G yX1_ask cX1_ask 4 (some .boolean) d 0 0 [.ref (v_B G + 288), .int x1, .int x2] (lay G S) (QI r.1 (lay G r.2)))   {r : Int32 × St}   : ∀  (S : St),  f_X1_ask_b67 rec N  S = some r → V l G yX1_ask cX1_ask 4 (some .boolean) (v_rm (d + 1) 0 0) (QI r.1 (lay G r.2)) 0 0 67 [(0, .ref (v_B G + 288))] [] (lay G S) := by
  intro  S  hh
  unfold f_X1_ask_b67 at hh
  refine v_aload_n 0 dX1_ask_67 rfl rfl ?_
  refine v_iconst dX1_ask_68 (by decide : _ = (1 : Int32)) ?_
  obtain ⟨q3, eq3, hh⟩ := bnd_some hh
  refine v_callVi (t_X1_faulty eq3) dX1_ask_69 y_X1_faulty ml_X1_85 (ci := 0) rfl rfl (e_Reader) rfl rfl (Nat.le_of_ble_eq_true rfl) ⟨by show _ ≤ d + 1; omega, by show _ ≤ 64 * (d + 1); omega⟩ ⟨Nat.zero_le _, Nat.zero_le _⟩ ?_
  obtain ⟨g, hh⟩ := chk_some hh
  obtain rfl := Option.some.inj hh
  exact v_zret dX1_ask_72 rfl (zb (isz_or g)).1 (Nat.zero_le _) (Nat.zero_le _) ⟨rfl, rfl⟩
def fg_X1_ask (rec : Nat → Int32 → Int32 → St → Option (Int32 × St)) (N : Nat) (S : St) (x1 : Int32) (x2 : Int32) : Option (Int32 × St) :=
  if (gI S 105 0 0) = (21 : Int32) then
  (bnd (f_X1_opens S x2) fun q7 =>
 if q7.1 = (0 : Int32) then
  (some ((0 : Int32), q7.2))
  else
  (bnd (rec 6 x1 (x2 + (1 : Int32)) q7.2) fun q8 =>
  if q8.1 = (0 : Int32) then
  (some ((0 : Int32), q8.2))
  else
  (bnd (f_X1_add q8.2 (21 : Int32) (0 : Int32)) fun q9 =>
 some ((1 : Int32), q9))))
  else
  (bnd (rec 0 x1 x2 S) fun q1 =>
  if q1.1 = (0 : Int32) then
  (some ((0 : Int32), q1.2))
  else
  (lt (gI q1.2 105 0 0) fun v2 =>
  if v2 < (26 : Int32) then
  (f_X1_ask_b67 rec N q1.2)
  else
  (if v2 ≤ (31 : Int32) then
  (bnd (f_X1_advance q1.2 ) fun q4 =>
 bnd (rec 0 x1 x2 q4) fun q5 =>
  if q5.1 = (0 : Int32) then
  (some ((0 : Int32), q5.2))
  else
  (bnd (f_X1_add q5.2 v2 (0 : Int32)) fun q6 =>
 some ((1 : Int32), q6)))
  else
  (f_X1_ask_b67 rec N q1.2))))
set_option maxRecDepth 100000 in
set_option maxHeartbeats 4000000 in
theorem tg_X1_ask {l : Launch} {G : v_G} {N : Nat} {S : St} {d : Nat} (hd3 : 4 ≤ d) {rec : Nat → Int32 → Int32 → St → Option (Int32 × St)} (hg0 : ∀ (x1 x2 : Int32) (S : St) (r : Int32 × St), rec 0 x1 x2 S = some r → v_M l G yX1_sum cX1_sum 6 (some .boolean) d 0 0 [.ref (v_B G + 288), .int x1, .int x2] (lay G S) (QI r.1 (lay G r.2))) (hg1 : ∀ (x1 x2 : Int32) (S : St) (r : Int32 × St), rec 1 x1 x2 S = some r → v_M l G yX1_product cX1_product 6 (some .boolean) d 0 0 [.ref (v_B G + 288), .int x1, .int x2] (lay G S) (QI r.1 (lay G r.2))) (hg2 : ∀ (x1 x2 : Int32) (S : St) (r : Int32 × St), rec 2 x1 x2 S = some r → v_M l G yX1_one cX1_one 4 (some .boolean) d 0 0 [.ref (v_B G + 288), .int x1, .int x2] (lay G S) (QI r.1 (lay G r.2))) (hg3 : ∀ (x1 x2 : Int32) (S : St) (r : Int32 × St), rec 3 x1 x2 S = some r → v_M l G yX1_choice cX1_choice 5 (some .boolean) d 0 0 [.ref (v_B G + 288), .int x1, .int x2] (lay G S) (QI r.1 (lay G r.2))) (hg4 : ∀ (x1 x2 : Int32) (S : St) (r : Int32 × St), rec 4 x1 x2 S = some r → v_M l G yX1_either cX1_either 5 (some .boolean) d 0 0 [.ref (v_B G + 288), .int x1, .int x2] (lay G S) (QI r.1 (lay G r.2))) (hg5 : ∀ (x1 x2 : Int32) (S : St) (r : Int32 × St), rec 5 x1 x2 S = some r → v_M l G yX1_both cX1_both 5 (some .boolean) d 0 0 [.ref (v_B G + 288), .int x1, .int x2] (lay G S) (QI r.1 (lay G r.2))) (hg6 : ∀ (x1 x2 : Int32) (S : St) (r : Int32 × St), rec 6 x1 x2 S = some r → v_M l G yX1_ask cX1_ask 4 (some .boolean) d 0 0 [.ref (v_B G + 288), .int x1, .int x2] (lay G S) (QI r.1 (lay G r.2)))  {x1 : Int32} {x2 : Int32} {r : Int32 × St} (hh : fg_X1_ask rec N S x1 x2 = some r) : v_M l G yX1_ask cX1_ask 4 (some .boolean) (d + 1) 0 0 [.ref (v_B G + 288), .int x1, .int x2] (lay G S) (QI r.1 (lay G r.2)) := by
  refine v_entry (by decide) (Nat.le_of_ble_eq_true rfl) ?_
  unfold fg_X1_ask at hh
  show V l G yX1_ask cX1_ask 4 (some .boolean) (v_rm (d + 1) 0 0) (QI r.1 (lay G r.2)) 0 0 0 [(0, .ref (v_B G + 288)), (1, .int x1), (2, .int x2)] [] (lay G S)
  refine v_aload_n 0 dX1_ask_0 rfl rfl ?_
  refine r_Reader_token dX1_ask_1 fl_X1_58 ?_
  refine v_bipush dX1_ask_4 (by decide : _ = (21 : Int32)) ?_
  refine v_icmp_ne (tgt := 39) dX1_ask_6 (by decide) (fun c => ?_) (fun c => ?_)
  · replace hh := (if_neg c).symm.trans hh
    refine v_aload_n 0 dX1_ask_39 rfl rfl ?_
    refine v_iload_n 1 dX1_ask_40 rfl rfl ?_
    refine v_iload_n 2 dX1_ask_41 rfl rfl ?_
    obtain ⟨q1, eq1, hh⟩ := bnd_some hh
    refine v_callVi (hg0 _ _ _ _ eq1) dX1_ask_42 y_X1_sum ml_X1_111 (ci := 0) rfl rfl e_Reader rfl rfl (Nat.le_of_ble_eq_true rfl) ⟨Nat.le_refl _, by show _ ≤ 64 * (d + 1); omega⟩ ⟨Nat.zero_le _, Nat.zero_le _⟩ ?_
    refine v_if_ne (tgt := 50) dX1_ask_45 (by decide) (fun c => ?_) (fun c => ?_)
    · replace hh := (if_neg c).symm.trans hh
      refine v_aload_n 0 dX1_ask_50 rfl rfl ?_
      refine r_Reader_token dX1_ask_51 fl_X1_58 ?_
      refine v_istore_n dX1_ask_54 rfl (by decide) rfl ?_
      replace hh := lt_of hh
      refine v_iload_n 0 dX1_ask_55 rfl rfl ?_
      refine v_bipush dX1_ask_56 (by decide : _ = (26 : Int32)) ?_
      refine v_icmp_lt (tgt := 67) dX1_ask_58 (by decide) (fun c => ?_) (fun c => ?_)
      · replace hh := (if_pos c).symm.trans hh
        exact v_sub [1] rfl (tb_X1_ask_67 hd3 hg0 hg1 hg2 hg3 hg4 hg5 hg6 _ hh)
      · replace hh := (if_neg c).symm.trans hh
        refine v_iload_n 0 dX1_ask_61 rfl rfl ?_
        refine v_bipush dX1_ask_62 (by decide : _ = (31 : Int32)) ?_
        refine v_icmp_le (tgt := 73) dX1_ask_64 (by decide) (fun c => ?_) (fun c => ?_)
        · replace hh := (if_pos c).symm.trans hh
          refine v_aload_n 1 dX1_ask_73 rfl rfl ?_
          obtain ⟨q4, eq4, hh⟩ := bnd_some hh
          refine v_callVv (t_X1_advance eq4) dX1_ask_74 y_X1_advance ml_X1_89 (ci := 0) rfl rfl (e_Reader) rfl rfl (Nat.le_of_ble_eq_true rfl) ⟨by show _ ≤ d + 1; omega, by show _ ≤ 64 * (d + 1); omega⟩ ⟨Nat.zero_le _, Nat.zero_le _⟩ ?_
          refine v_aload_n 1 dX1_ask_77 rfl rfl ?_
          refine v_iload_n 2 dX1_ask_78 rfl rfl ?_
          refine v_iload_n 3 dX1_ask_79 rfl rfl ?_
          obtain ⟨q5, eq5, hh⟩ := bnd_some hh
          refine v_callVi (hg0 _ _ _ _ eq5) dX1_ask_80 y_X1_sum ml_X1_111 (ci := 0) rfl rfl e_Reader rfl rfl (Nat.le_of_ble_eq_true rfl) ⟨Nat.le_refl _, by show _ ≤ 64 * (d + 1); omega⟩ ⟨Nat.zero_le _, Nat.zero_le _⟩ ?_
          refine v_if_ne (tgt := 88) dX1_ask_83 (by decide) (fun c => ?_) (fun c => ?_)
          · replace hh := (if_neg c).symm.trans hh
            refine v_aload_n 1 dX1_ask_88 rfl rfl ?_
            refine v_iload_n 0 dX1_ask_89 rfl rfl ?_
            refine v_iconst dX1_ask_90 (by decide : _ = (0 : Int32)) ?_
            obtain ⟨q6, eq6, hh⟩ := bnd_some hh
            refine v_callVv (t_X1_add eq6) dX1_ask_91 y_X1_add ml_X1_118 (ci := 0) rfl rfl (e_Reader) rfl rfl (Nat.le_of_ble_eq_true rfl) ⟨by show _ ≤ d + 1; omega, by show _ ≤ 64 * (d + 1); omega⟩ ⟨Nat.zero_le _, Nat.zero_le _⟩ ?_
            refine v_iconst dX1_ask_94 (by decide : _ = (1 : Int32)) ?_
            obtain rfl := Option.some.inj hh
            exact v_zret dX1_ask_95 rfl (zb (by decide)).1 (Nat.zero_le _) (Nat.zero_le _) ⟨rfl, rfl⟩
          · replace hh := (if_pos c).symm.trans hh
            refine v_iconst dX1_ask_86 (by decide : _ = (0 : Int32)) ?_
            obtain rfl := Option.some.inj hh
            exact v_zret dX1_ask_87 rfl (zb (by decide)).1 (Nat.zero_le _) (Nat.zero_le _) ⟨rfl, rfl⟩
        · replace hh := (if_neg c).symm.trans hh
          exact v_sub [1] rfl (tb_X1_ask_67 hd3 hg0 hg1 hg2 hg3 hg4 hg5 hg6 _ hh)
    · replace hh := (if_pos c).symm.trans hh
      refine v_iconst dX1_ask_48 (by decide : _ = (0 : Int32)) ?_
      obtain rfl := Option.some.inj hh
      exact v_zret dX1_ask_49 rfl (zb (by decide)).1 (Nat.zero_le _) (Nat.zero_le _) ⟨rfl, rfl⟩
  · replace hh := (if_pos c).symm.trans hh
    refine v_aload_n 0 dX1_ask_9 rfl rfl ?_
    refine v_iload_n 2 dX1_ask_10 rfl rfl ?_
    obtain ⟨q7, eq7, hh⟩ := bnd_some hh
    refine v_callVi (t_X1_opens eq7) dX1_ask_11 y_X1_opens ml_X1_128 (ci := 0) rfl rfl (e_Reader) rfl rfl (Nat.le_of_ble_eq_true rfl) ⟨by show _ ≤ d + 1; omega, by show _ ≤ 64 * (d + 1); omega⟩ ⟨Nat.zero_le _, Nat.zero_le _⟩ ?_
    refine v_if_eq (tgt := 28) dX1_ask_14 (by decide) (fun c => ?_) (fun c => ?_)
    · replace hh := (if_pos c).symm.trans hh
      refine v_iconst dX1_ask_28 (by decide : _ = (0 : Int32)) ?_
      obtain rfl := Option.some.inj hh
      exact v_zret dX1_ask_29 rfl (zb (by decide)).1 (Nat.zero_le _) (Nat.zero_le _) ⟨rfl, rfl⟩
    · replace hh := (if_neg c).symm.trans hh
      refine v_aload_n 0 dX1_ask_17 rfl rfl ?_
      refine v_iload_n 1 dX1_ask_18 rfl rfl ?_
      refine v_iload_n 2 dX1_ask_19 rfl rfl ?_
      refine v_iconst dX1_ask_20 (by decide : _ = (1 : Int32)) ?_
      refine v_iadd dX1_ask_21 ?_
      obtain ⟨q8, eq8, hh⟩ := bnd_some hh
      refine v_callVi (hg6 _ _ _ _ eq8) dX1_ask_22 y_X1_ask ml_X1_143 (ci := 0) rfl rfl e_Reader rfl rfl (Nat.le_of_ble_eq_true rfl) ⟨Nat.le_refl _, by show _ ≤ 64 * (d + 1); omega⟩ ⟨Nat.zero_le _, Nat.zero_le _⟩ ?_
      refine v_if_ne (tgt := 30) dX1_ask_25 (by decide) (fun c => ?_) (fun c => ?_)
      · replace hh := (if_neg c).symm.trans hh
        refine v_aload_n 0 dX1_ask_30 rfl rfl ?_
        refine v_bipush dX1_ask_31 (by decide : _ = (21 : Int32)) ?_
        refine v_iconst dX1_ask_33 (by decide : _ = (0 : Int32)) ?_
        obtain ⟨q9, eq9, hh⟩ := bnd_some hh
        refine v_callVv (t_X1_add eq9) dX1_ask_34 y_X1_add ml_X1_118 (ci := 0) rfl rfl (e_Reader) rfl rfl (Nat.le_of_ble_eq_true rfl) ⟨by show _ ≤ d + 1; omega, by show _ ≤ 64 * (d + 1); omega⟩ ⟨Nat.zero_le _, Nat.zero_le _⟩ ?_
        refine v_iconst dX1_ask_37 (by decide : _ = (1 : Int32)) ?_
        obtain rfl := Option.some.inj hh
        exact v_zret dX1_ask_38 rfl (zb (by decide)).1 (Nat.zero_le _) (Nat.zero_le _) ⟨rfl, rfl⟩
      · replace hh := (if_pos c).symm.trans hh
        refine v_iconst dX1_ask_28 (by decide : _ = (0 : Int32)) ?_
        obtain rfl := Option.some.inj hh
        exact v_zret dX1_ask_29 rfl (zb (by decide)).1 (Nat.zero_le _) (Nat.zero_le _) ⟨rfl, rfl⟩
def F_rd (N : Nat) : Nat → Nat → Int32 → Int32 → St → Option (Int32 × St)
  | 0, _, _, _, _ => none
  | n + 1, k, x1, x2, S => match k with
    | 0 => fg_X1_sum (F_rd N n) N S x1 x2
    | 1 => fg_X1_product (F_rd N n) N S x1 x2
    | 2 => fg_X1_one (F_rd N n) N S x1 x2
    | 3 => fg_X1_choice (F_rd N n) N S x1 x2
    | 4 => fg_X1_either (F_rd N n) N S x1 x2
    | 5 => fg_X1_both (F_rd N n) N S x1 x2
    | 6 => fg_X1_ask (F_rd N n) N S x1 x2
    | _ => none
theorem T_rd {l : Launch} {G : v_G} {N : Nat} : ∀ n : Nat, (∀ (x1 x2 : Int32) (S : St) (r : Int32 × St), F_rd N n 0 x1 x2 S = some r → v_M l G yX1_sum cX1_sum 6 (some .boolean) (n + 4) 0 0 [.ref (v_B G + 288), .int x1, .int x2] (lay G S) (QI r.1 (lay G r.2))) ∧ (∀ (x1 x2 : Int32) (S : St) (r : Int32 × St), F_rd N n 1 x1 x2 S = some r → v_M l G yX1_product cX1_product 6 (some .boolean) (n + 4) 0 0 [.ref (v_B G + 288), .int x1, .int x2] (lay G S) (QI r.1 (lay G r.2))) ∧ (∀ (x1 x2 : Int32) (S : St) (r : Int32 × St), F_rd N n 2 x1 x2 S = some r → v_M l G yX1_one cX1_one 4 (some .boolean) (n + 4) 0 0 [.ref (v_B G + 288), .int x1, .int x2] (lay G S) (QI r.1 (lay G r.2))) ∧ (∀ (x1 x2 : Int32) (S : St) (r : Int32 × St), F_rd N n 3 x1 x2 S = some r → v_M l G yX1_choice cX1_choice 5 (some .boolean) (n + 4) 0 0 [.ref (v_B G + 288), .int x1, .int x2] (lay G S) (QI r.1 (lay G r.2))) ∧ (∀ (x1 x2 : Int32) (S : St) (r : Int32 × St), F_rd N n 4 x1 x2 S = some r → v_M l G yX1_either cX1_either 5 (some .boolean) (n + 4) 0 0 [.ref (v_B G + 288), .int x1, .int x2] (lay G S) (QI r.1 (lay G r.2))) ∧ (∀ (x1 x2 : Int32) (S : St) (r : Int32 × St), F_rd N n 5 x1 x2 S = some r → v_M l G yX1_both cX1_both 5 (some .boolean) (n + 4) 0 0 [.ref (v_B G + 288), .int x1, .int x2] (lay G S) (QI r.1 (lay G r.2))) ∧ (∀ (x1 x2 : Int32) (S : St) (r : Int32 × St), F_rd N n 6 x1 x2 S = some r → v_M l G yX1_ask cX1_ask 4 (some .boolean) (n + 4) 0 0 [.ref (v_B G + 288), .int x1, .int x2] (lay G S) (QI r.1 (lay G r.2))) ∧ True := by
  intro n
  induction n with
  | zero =>
    refine ⟨?_, ?_, ?_, ?_, ?_, ?_, ?_, trivial⟩ <;> (intro x1 x2 S r hh; rw [F_rd] at hh; cases hh)
  | succ n ih =>
    obtain ⟨i0, i1, i2, i3, i4, i5, i6, -⟩ := ih
    refine ⟨?_, ?_, ?_, ?_, ?_, ?_, ?_, trivial⟩
    · intro x1 x2 S r hh
      rw [F_rd] at hh
      exact tg_X1_sum (d := n + 4) (by omega) i0 i1 i2 i3 i4 i5 i6 hh
    · intro x1 x2 S r hh
      rw [F_rd] at hh
      exact tg_X1_product (d := n + 4) (by omega) i0 i1 i2 i3 i4 i5 i6 hh
    · intro x1 x2 S r hh
      rw [F_rd] at hh
      exact tg_X1_one (d := n + 4) (by omega) i0 i1 i2 i3 i4 i5 i6 hh
    · intro x1 x2 S r hh
      rw [F_rd] at hh
      exact tg_X1_choice (d := n + 4) (by omega) i0 i1 i2 i3 i4 i5 i6 hh
    · intro x1 x2 S r hh
      rw [F_rd] at hh
      exact tg_X1_either (d := n + 4) (by omega) i0 i1 i2 i3 i4 i5 i6 hh
    · intro x1 x2 S r hh
      rw [F_rd] at hh
      exact tg_X1_both (d := n + 4) (by omega) i0 i1 i2 i3 i4 i5 i6 hh
    · intro x1 x2 S r hh
      rw [F_rd] at hh
      exact tg_X1_ask (d := n + 4) (by omega) i0 i1 i2 i3 i4 i5 i6 hh
def f_X1_sum (N : Nat) (S : St) (x1 x2 : Int32) : Option (Int32 × St) := F_rd N 200 0 x1 x2 S
theorem t_X1_sum {l : Launch} {G : v_G} {N : Nat} {S : St} {x1 x2 : Int32} {r : Int32 × St} (hh : f_X1_sum N S x1 x2 = some r) : v_M l G yX1_sum cX1_sum 6 (some .boolean) 204 0 0 [.ref (v_B G + 288), .int x1, .int x2] (lay G S) (QI r.1 (lay G r.2)) := (T_rd 200).1 _ _ _ _ hh
def f_X1_product (N : Nat) (S : St) (x1 x2 : Int32) : Option (Int32 × St) := F_rd N 200 1 x1 x2 S
theorem t_X1_product {l : Launch} {G : v_G} {N : Nat} {S : St} {x1 x2 : Int32} {r : Int32 × St} (hh : f_X1_product N S x1 x2 = some r) : v_M l G yX1_product cX1_product 6 (some .boolean) 204 0 0 [.ref (v_B G + 288), .int x1, .int x2] (lay G S) (QI r.1 (lay G r.2)) := (T_rd 200).2.1 _ _ _ _ hh
def f_X1_one (N : Nat) (S : St) (x1 x2 : Int32) : Option (Int32 × St) := F_rd N 200 2 x1 x2 S
theorem t_X1_one {l : Launch} {G : v_G} {N : Nat} {S : St} {x1 x2 : Int32} {r : Int32 × St} (hh : f_X1_one N S x1 x2 = some r) : v_M l G yX1_one cX1_one 4 (some .boolean) 204 0 0 [.ref (v_B G + 288), .int x1, .int x2] (lay G S) (QI r.1 (lay G r.2)) := (T_rd 200).2.2.1 _ _ _ _ hh
def f_X1_choice (N : Nat) (S : St) (x1 x2 : Int32) : Option (Int32 × St) := F_rd N 200 3 x1 x2 S
theorem t_X1_choice {l : Launch} {G : v_G} {N : Nat} {S : St} {x1 x2 : Int32} {r : Int32 × St} (hh : f_X1_choice N S x1 x2 = some r) : v_M l G yX1_choice cX1_choice 5 (some .boolean) 204 0 0 [.ref (v_B G + 288), .int x1, .int x2] (lay G S) (QI r.1 (lay G r.2)) := (T_rd 200).2.2.2.1 _ _ _ _ hh
def f_X1_either (N : Nat) (S : St) (x1 x2 : Int32) : Option (Int32 × St) := F_rd N 200 4 x1 x2 S
theorem t_X1_either {l : Launch} {G : v_G} {N : Nat} {S : St} {x1 x2 : Int32} {r : Int32 × St} (hh : f_X1_either N S x1 x2 = some r) : v_M l G yX1_either cX1_either 5 (some .boolean) 204 0 0 [.ref (v_B G + 288), .int x1, .int x2] (lay G S) (QI r.1 (lay G r.2)) := (T_rd 200).2.2.2.2.1 _ _ _ _ hh
def f_X1_both (N : Nat) (S : St) (x1 x2 : Int32) : Option (Int32 × St) := F_rd N 200 5 x1 x2 S
theorem t_X1_both {l : Launch} {G : v_G} {N : Nat} {S : St} {x1 x2 : Int32} {r : Int32 × St} (hh : f_X1_both N S x1 x2 = some r) : v_M l G yX1_both cX1_both 5 (some .boolean) 204 0 0 [.ref (v_B G + 288), .int x1, .int x2] (lay G S) (QI r.1 (lay G r.2)) := (T_rd 200).2.2.2.2.2.1 _ _ _ _ hh
def f_X1_ask (N : Nat) (S : St) (x1 x2 : Int32) : Option (Int32 × St) := F_rd N 200 6 x1 x2 S
theorem t_X1_ask {l : Launch} {G : v_G} {N : Nat} {S : St} {x1 x2 : Int32} {r : Int32 × St} (hh : f_X1_ask N S x1 x2 = some r) : v_M l G yX1_ask cX1_ask 4 (some .boolean) 204 0 0 [.ref (v_B G + 288), .int x1, .int x2] (lay G S) (QI r.1 (lay G r.2)) := (T_rd 200).2.2.2.2.2.2.1 _ _ _ _ hh
