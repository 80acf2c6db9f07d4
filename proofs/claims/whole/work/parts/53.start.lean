theorem hL_nil {G : v_G} : hL (hB0 G) [] = hB0 G := by
  unfold hL hB0
  refine Prod.ext (funext fun a => ?_) rfl
  dsimp only
  by_cases h : a < v_B G
  · rw [if_pos h]
  · rw [if_neg h]
    rfl
set_option maxRecDepth 100000 in
set_option maxHeartbeats 4000000 in
/-- the law, from its entry, over the empty heap of ours -/
theorem law_V {l : Launch} {G : v_G} {N : Nat} {r0 r : St} (h1 : f_X10_initb N S00 = some r0) (h2 : f_L_law_b18 (v_xs G) (v_sL G) N 513 0 r0 = some ((1 : Int32), r)) : V l G yL_law cL_law 4 (some .boolean) room_1 (QI 1 (lay G r)) 0 0 0 [(0, .ref (v_sb G))] [] (hB0 G) := by
  rw [← hL_nil]
  refine v_new tyX9 tyX9_ok dL_law_0 rfl (ci := 8) (fs := [.null, .null, .null, .null, .null, .null, .null]) rfl i_X9 cl_L_7 ib_X9 ini_X9 (fun j hj => by match j, hj with | 0, _ => rfl | 1, _ => rfl | 2, _ => rfl | 3, _ => rfl | 4, _ => rfl | 5, _ => rfl | 6, _ => rfl) (by show _ ≤ 600000; omega) (by show _ ≤ 7302249; omega) ?_
  rw [hL_push]
  refine v_dup dL_law_3 rfl ?_
  refine v_callI (st := [.ref (v_B G)]) (b := v_B G) (As := []) (t_X9_init (h := hB0 G) (Nat.le_refl _)) dL_law_4 y_X9_init ml_L_9 rfl rfl (Nat.le_of_ble_eq_true rfl) ⟨(Nat.le_of_ble_eq_true rfl), (Nat.le_of_ble_eq_true rfl)⟩ ⟨by show _ ≤ 600000; omega, by show _ ≤ 7302249; omega⟩ (fun v h3 hq => ?_)
  obtain ⟨rfl, rfl⟩ := hq
  refine v_astore_n dL_law_7 rfl (by decide) rfl ?_
  have hz : (hL (hB0 G) (ROL (v_B G) (v_tN G))).2 = v_B G + 291 := by
    show v_B G + (ROL (v_B G) (v_tN G)).length = _
    unfold ROL
    simp only [List.length_cons, List.length_append, WL_len, TrL_len, List.length_nil, RuL, ShL, TaL, ReL]
  refine v_new tyX10 tyX10_ok dL_law_8 rfl (ci := 9) (fs := [.null, .null, .null, .null, .int 0, .int 0, .int 0, .int 0, .int 0, .int 0, .int 0, .long 0, .int 0, .int 0, .int 0, .null, .int 0, .int 0, .int 0, .int 0, .null, .null, .null, .int 0, .int 0, .null, .null, .null, .null]) rfl i_X10 cl_L_10 ib_X10 ini_X10 (fun j hj => by match j, hj with | 0, _ => rfl | 1, _ => rfl | 2, _ => rfl | 3, _ => rfl | 4, _ => rfl | 5, _ => rfl | 6, _ => rfl | 7, _ => rfl | 8, _ => rfl | 9, _ => rfl | 10, _ => rfl | 11, _ => rfl | 12, _ => rfl | 13, _ => rfl | 14, _ => rfl | 15, _ => rfl | 16, _ => rfl | 17, _ => rfl | 18, _ => rfl | 19, _ => rfl | 20, _ => rfl | 21, _ => rfl | 22, _ => rfl | 23, _ => rfl | 24, _ => rfl | 25, _ => rfl | 26, _ => rfl | 27, _ => rfl | 28, _ => rfl | j + 29, hj => exact absurd hj (by omega)) (by show _ ≤ 600000; omega) (by show _ ≤ 7302249; omega) ?_
  have hp : v_push (hL (hB0 G) (ROL (v_B G) (v_tN G))) (.inr (9, [.null, .null, .null, .null, .int 0, .int 0, .int 0, .int 0, .int 0, .int 0, .int 0, .long 0, .int 0, .int 0, .int 0, .null, .int 0, .int 0, .int 0, .int 0, .null, .null, .null, .int 0, .int 0, .null, .null, .null, .null])) = hL (hL (hB0 G) (ROL (v_B G) (v_tN G))) [.inr (9, [.null, .null, .null, .null, .int 0, .int 0, .int 0, .int 0, .int 0, .int 0, .int 0, .long 0, .int 0, .int 0, .int 0, .null, .int 0, .int 0, .int 0, .int 0, .null, .null, .null, .int 0, .int 0, .null, .null, .null, .null])] := by
    rw [hL_push, hL_app]
  show V l G yL_law cL_law 4 (some .boolean) room_1 (QI 1 (lay G r)) _ _ _ _ [.ref (hL (hB0 G) (ROL (v_B G) (v_tN G))).2] (v_push (hL (hB0 G) (ROL (v_B G) (v_tN G))) (.inr (9, [.null, .null, .null, .null, .int 0, .int 0, .int 0, .int 0, .int 0, .int 0, .int 0, .long 0, .int 0, .int 0, .int 0, .null, .int 0, .int 0, .int 0, .int 0, .null, .null, .null, .int 0, .int 0, .null, .null, .null, .null])))
  rw [hp, hz]
  refine v_dup dL_law_11 rfl ?_
  refine v_callI (st := [.ref (v_B G + 291)]) (b := v_B G + 291) (As := []) (t_X10_init h1) dL_law_12 y_X10_init ml_L_12 rfl rfl (Nat.le_of_ble_eq_true rfl) ⟨(Nat.le_of_ble_eq_true rfl), (Nat.le_of_ble_eq_true rfl)⟩ ⟨by show _ ≤ 600000; omega, by show _ ≤ 7302249; omega⟩ (fun v h3 hq => ?_)
  obtain ⟨rfl, rfl⟩ := hq
  refine v_astore_n dL_law_15 rfl (by decide) rfl ?_
  refine v_iconst dL_law_16 (by decide : _ = (0 : Int32)) ?_
  refine v_istore_n dL_law_17 rfl (by decide) rfl ?_
  exact v_sub [3, 2, 1, 0] rfl (tb_L_law_18 513 304 15828 (by omega) (by omega) _ _ h2)
