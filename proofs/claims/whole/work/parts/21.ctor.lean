/-! CONSTRUCTORS: a heap and the list of the cells that were made behind it. -/
def hL (h : v_H) (L : List va_E) : v_H := (fun a => if a < h.2 then h.1 a else L[a - h.2]?, h.2 + L.length)
theorem hL_push {h : v_H} {L : List va_E} {e : va_E} : v_push (hL h L) e = hL h (L ++ [e]) := by
  unfold v_push hL
  refine Prod.ext (funext fun q => ?_) ?_
  · dsimp only
    by_cases hq : q = h.2 + L.length
    · rw [if_pos hq, if_neg (by omega)]
      have : q - h.2 = L.length := by omega
      rw [this]
      simp
    · rw [if_neg hq]
      by_cases h1 : q < h.2
      · rw [if_pos h1, if_pos h1]
      · rw [if_neg h1, if_neg h1]
        by_cases h2 : q - h.2 < L.length
        · rw [List.getElem?_append_left h2]
        · rw [List.getElem?_eq_none_iff.mpr (by omega), List.getElem?_eq_none_iff.mpr (by simp; omega)]
  · simp
    omega
theorem hL_app {h : v_H} {L M : List va_E} : hL (hL h L) M = hL h (L ++ M) := by
  unfold hL
  refine Prod.ext (funext fun q => ?_) ?_
  · dsimp only
    by_cases h1 : q < h.2
    · rw [if_pos (by omega), if_pos h1, if_pos h1]
    · by_cases h2 : q < h.2 + L.length
      · rw [if_pos h2, if_neg h1, if_neg h1, List.getElem?_append_left (by omega)]
      · rw [if_neg h2, if_neg h1, List.getElem?_append_right (by omega)]
        rw [show q - (h.2 + L.length) = q - h.2 - L.length from by omega]
  · simp
    omega
theorem hL_up {h : v_H} {L : List va_E} {k : Nat} {e : va_E} (hk : k < L.length) : v_up (hL h L) (h.2 + k) e = hL h (L.set k e) := by
  unfold v_up hL
  refine Prod.ext (funext fun q => ?_) (by simp)
  dsimp only
  by_cases hq : q = h.2 + k
  · rw [if_pos hq, if_neg (by omega)]
    have : q - h.2 = k := by omega
    rw [this, List.getElem?_set_self hk]
  · rw [if_neg hq]
    by_cases h1 : q < h.2
    · rw [if_pos h1, if_pos h1]
    · rw [if_neg h1, if_neg h1, List.getElem?_set_ne (by omega)]
theorem hL_up0 {h : v_H} {L : List va_E} {e : va_E} (hk : 0 < L.length) : v_up (hL h L) h.2 e = hL h (L.set 0 e) := hL_up (k := 0) hk
theorem hL_at {h : v_H} {L : List va_E} (k : Nat) {e : va_E} (he : L[k]? = some e) : (hL h L).1 (h.2 + k) = some e := by
  unfold hL
  dsimp only
  rw [if_neg (by omega)]
  have : h.2 + k - h.2 = k := by omega
  rw [this, he]
theorem hL_at0 {h : v_H} {L : List va_E} {e : va_E} (he : L[0]? = some e) : (hL h L).1 h.2 = some e := hL_at 0 he
theorem hL_old {h : v_H} {L : List va_E} {a : Nat} (ha : a < h.2) : (hL h L).1 a = h.1 a := by
  unfold hL
  dsimp only
  rw [if_pos ha]
theorem v_up_id {h : v_H} {a : Nat} {e : va_E} (ha : h.1 a = some e) : v_up h a e = h := by
  unfold v_up
  refine Prod.ext (funext fun q => ?_) rfl
  dsimp only
  by_cases hq : q = a
  · rw [if_pos hq, hq, ha]
  · rw [if_neg hq]
theorem hL_cell {G : v_G} {h : v_H} {H : Heap} {L : List va_E} {k t : Nat} {x x' : vp_A} (hk : L[k]? = some (.inl (t, x))) (hx : ∀ cA, vp_cell cA x = vp_cell cA x') (hR : v_R G (hL h L) H) : v_R G (hL h (L.set k (.inl (t, x')))) H := by
  have hl := (List.getElem?_eq_some_iff.mp hk).1
  rw [← hL_up hl]
  refine v_R_cell hx ?_
  rw [v_up_id (hL_at k hk)]
  exact hR
set_option maxRecDepth 100000 in
theorem fill_loop {l : Launch} {G : v_G} {h : v_H} {a n : Nat} {v : Int32} (hn : n ≤ 300) (hB : v_B G ≤ a) : ∀ (m : Nat) (i : Int32) (g : Nat → Int32), ¬ i < 0 → i.toNatClampNeg + m = n → (∀ j, j < i.toNatClampNeg → g j = v) →
    V l G yJ7_fill_53178 cJ7_fill_53178 4 none (v_rm 0 0 0) (QV (v_up h a (.inl (0, n, .inl (fun _ => v))))) 0 0 5 [(3, .int (Int32.ofNat n)), (2, .int i), (0, .ref a), (1, .int v)] [] (v_up h a (.inl (0, n, .inl g))) := by
  intro m
  have hof : (Int32.ofNat n).toInt = n := by rw [Int32.toInt_ofNat_of_lt (by omega)]
  induction m with
  | zero =>
    intro i g hi him hg
    have hii := v_nn i hi
    refine v_iload_n 1 dJ7_fill_53178_5 rfl rfl ?_
    refine v_iload_n 0 dJ7_fill_53178_6 rfl rfl ?_
    refine v_icmp_ge (tgt := 20) dJ7_fill_53178_7 (by decide) (fun c => ?_) (fun c => ?_)
    · refine v_conv (h2 := v_up h a (.inl (0, n, .inl (fun _ => v)))) (fun H hR => v_R_cell (fun cA => ?_) hR) ?_
      · rw [vp_cell_i, vp_cell_i]
        exact arrV_congr (fun j hj => by rw [hg j (by omega)])
      · exact v_vret dJ7_fill_53178_20 rfl (Nat.zero_le _) (Nat.zero_le _) ⟨rfl, rfl⟩
    · refine absurd ?_ c
      rw [Int32.le_iff_toInt_le, hof, hii]
      omega
  | succ m ih =>
    intro i g hi him hg
    have hii := v_nn i hi
    refine v_iload_n 1 dJ7_fill_53178_5 rfl rfl ?_
    refine v_iload_n 0 dJ7_fill_53178_6 rfl rfl ?_
    refine v_icmp_ge (tgt := 20) dJ7_fill_53178_7 (by decide) (fun c => ?_) (fun c => ?_)
    · rw [Int32.le_iff_toInt_le, hof, hii] at c
      omega
    · refine v_aload_n 2 dJ7_fill_53178_10 rfl rfl ?_
      refine v_iload_n 1 dJ7_fill_53178_11 rfl rfl ?_
      refine v_iload_n 3 dJ7_fill_53178_12 rfl rfl ?_
      refine v_iast dJ7_fill_53178_13 hB (v_up_self _ _ _) (fun q => q.elim hi (fun q => by omega)) ?_
      rw [v_up_up]
      refine v_iinc (v := i + 1) 1 dJ7_fill_53178_14 rfl rfl (by decide) rfl ?_
      refine v_goto (tgt := 5) dJ7_fill_53178_17 (by decide) ?_
      have h1 : (i + 1).toInt = i.toInt + 1 := by
        rw [Int32.toInt_add]
        have : (1 : Int32).toInt = 1 := by decide
        rw [this, hii]
        apply Int.bmod_eq_of_le <;> omega
      have hi1 : ¬ i + 1 < 0 := by
        rw [Int32.lt_iff_toInt_lt, h1, hii]
        have : (0 : Int32).toInt = 0 := by decide
        omega
      have h2 : (i + 1).toNatClampNeg = i.toNatClampNeg + 1 := by
        have := v_nn (i + 1) hi1
        omega
      refine v_sub [1, 0, 2, 3] rfl ?_
      refine ih (i + 1) _ hi1 (by omega) (fun j hj => ?_)
      unfold upd
      by_cases hq : j = i.toNatClampNeg
      · rw [if_pos hq]
      · rw [if_neg hq]
        exact hg j (by omega)
theorem t_fill {l : Launch} {G : v_G} {h : v_H} {a n : Nat} {f : Nat → Int32} {v : Int32} (ha : h.1 a = some (.inl (0, n, .inl f))) (hn : n ≤ 300) (hB : v_B G ≤ a) : v_M l G yJ7_fill_53178 cJ7_fill_53178 4 none 0 0 0 [.ref a, .int v] h (QV (v_up h a (.inl (0, n, .inl (fun _ => v))))) := by
  refine v_entry (by decide) (Nat.le_of_ble_eq_true rfl) ?_
  show V l G yJ7_fill_53178 cJ7_fill_53178 4 none (v_rm 0 0 0) (QV (v_up h a (.inl (0, n, .inl (fun _ => v))))) 0 0 0 [(0, .ref a), (1, .int v)] [] h
  refine v_iconst dJ7_fill_53178_0 (by decide : _ = (0 : Int32)) ?_
  refine v_istore_n dJ7_fill_53178_1 rfl (by decide) rfl ?_
  refine v_aload_n 1 dJ7_fill_53178_2 rfl rfl ?_
  refine v_alen (ty := .int) dJ7_fill_53178_3 (by decide) ha ?_
  refine v_istore_n dJ7_fill_53178_4 rfl (by decide) rfl ?_
  have k := fill_loop (l := l) (h := h) (v := v) hn hB n 0 f (by decide) (by show 0 + n = n; omega) (fun j hj => absurd hj (by show ¬ j < 0; omega))
  rw [v_up_id ha] at k
  exact v_sub [0, 1, 2, 3] rfl k
def shL (z : Nat) : List va_E := [.inr (3, [.ref (z + 1), .ref (z + 2), .ref (z + 3), .int 0, .int 0, .int 0, .int 0, .int 0, .int 281]), .inl (0, 12, .inl (fun _ => 20)), .inl (0, 6, .inl (fun _ => -2)), .inl (1, 30, .inr (.inl (fun _ => 0)))]
set_option maxRecDepth 100000 in
set_option maxHeartbeats 4000000 in
theorem t_X4_init {l : Launch} {G : v_G} {h : v_H} (hB : v_B G ≤ h.2) : v_M l G yX4_init cX4_init 1 none 1 3 48 [.ref h.2] (hL h [.inr (3, [.null, .null, .null, .int 0, .int 0, .int 0, .int 0, .int 0, .int 0])]) (QV (hL h (shL h.2))) := by
  refine v_entry (by decide) (Nat.le_of_ble_eq_true rfl) ?_
  show V l G yX4_init cX4_init 1 none (v_rm 1 3 48) (QV (hL h (shL h.2))) 0 0 0 [(0, .ref h.2)] [] (hL h [.inr (3, [.null, .null, .null, .int 0, .int 0, .int 0, .int 0, .int 0, .int 0])])
  refine v_aload_n 0 dX4_init_0 rfl rfl ?_
  refine v_objInit dX4_init_1 ml_X4_3 w_oinst w_ocode (Nat.le_of_ble_eq_true rfl) (Nat.le_of_ble_eq_true rfl) ?_
  refine v_aload_n 0 dX4_init_4 rfl rfl ?_
  refine v_bipush dX4_init_5 (by decide : _ = (12 : Int32)) ?_
  refine v_newa (atype := .int) (ty := .int) (t := 0) (N := 12) (a0 := (12, .inl (fun _ => 0))) dX4_init_7 rfl ac_int rfl (fun C h => by cases h) (fun cA => rfl) (by decide) (by decide) (by decide) (by show _ ≤ 3; omega) (by show _ ≤ 48; omega) ?_
  rw [hL_push]
  show V l G yX4_init cX4_init 1 none (v_rm 1 3 48) (QV (hL h (shL h.2))) 1 12 9 [(0, .ref h.2)] [.ref (h.2 + 1), .ref h.2] (hL h [.inr (3, [.null, .null, .null, .int 0, .int 0, .int 0, .int 0, .int 0, .int 0]), .inl (0, 12, .inl (fun _ => 0))])
  refine v_putF tyX4 tyX4_ok nmX4 dX4_init_9 rfl (ci := 3) (k := 0) rfl i_X4 (by decide) fl_X4_9 rfl rfl rfl (tyX4_ok 0 (by decide)) rfl rfl (by simp) hB (hL_at0 rfl) ?_
  rw [hL_up0 (by simp)]
  show V l G yX4_init cX4_init 1 none (v_rm 1 3 48) (QV (hL h (shL h.2))) 1 12 12 [(0, .ref h.2)] [] (hL h [.inr (3, [.ref (h.2 + 1), .null, .null, .int 0, .int 0, .int 0, .int 0, .int 0, .int 0]), .inl (0, 12, .inl (fun _ => 0))])
  refine v_aload_n 0 dX4_init_12 rfl rfl ?_
  refine v_bipush dX4_init_13 (by decide : _ = (6 : Int32)) ?_
  refine v_newa (atype := .int) (ty := .int) (t := 0) (N := 6) (a0 := (6, .inl (fun _ => 0))) dX4_init_15 rfl ac_int rfl (fun C h => by cases h) (fun cA => rfl) (by decide) (by decide) (by decide) (by show _ ≤ 3; omega) (by show _ ≤ 48; omega) ?_
  rw [hL_push]
  show V l G yX4_init cX4_init 1 none (v_rm 1 3 48) (QV (hL h (shL h.2))) 2 18 17 [(0, .ref h.2)] [.ref (h.2 + 2), .ref h.2] (hL h [.inr (3, [.ref (h.2 + 1), .null, .null, .int 0, .int 0, .int 0, .int 0, .int 0, .int 0]), .inl (0, 12, .inl (fun _ => 0)), .inl (0, 6, .inl (fun _ => 0))])
  refine v_putF tyX4 tyX4_ok nmX4 dX4_init_17 rfl (ci := 3) (k := 1) rfl i_X4 (by decide) fl_X4_15 rfl rfl rfl (tyX4_ok 1 (by decide)) rfl rfl (by simp) hB (hL_at0 rfl) ?_
  rw [hL_up0 (by simp)]
  show V l G yX4_init cX4_init 1 none (v_rm 1 3 48) (QV (hL h (shL h.2))) 2 18 20 [(0, .ref h.2)] [] (hL h [.inr (3, [.ref (h.2 + 1), .ref (h.2 + 2), .null, .int 0, .int 0, .int 0, .int 0, .int 0, .int 0]), .inl (0, 12, .inl (fun _ => 0)), .inl (0, 6, .inl (fun _ => 0))])
  refine v_aload_n 0 dX4_init_20 rfl rfl ?_
  refine v_bipush dX4_init_21 (by decide : _ = (30 : Int32)) ?_
  refine v_newa (atype := .long) (ty := .long) (t := 1) (N := 30) (a0 := (30, .inr (.inl (fun _ => 0)))) dX4_init_23 rfl ac_long rfl (fun C h => by cases h) (fun cA => rfl) (by decide) (by decide) (by decide) (by show _ ≤ 3; omega) (by show _ ≤ 48; omega) ?_
  rw [hL_push]
  show V l G yX4_init cX4_init 1 none (v_rm 1 3 48) (QV (hL h (shL h.2))) 3 48 25 [(0, .ref h.2)] [.ref (h.2 + 3), .ref h.2] (hL h [.inr (3, [.ref (h.2 + 1), .ref (h.2 + 2), .null, .int 0, .int 0, .int 0, .int 0, .int 0, .int 0]), .inl (0, 12, .inl (fun _ => 0)), .inl (0, 6, .inl (fun _ => 0)), .inl (1, 30, .inr (.inl (fun _ => 0)))])
  refine v_putF tyX4 tyX4_ok nmX4 dX4_init_25 rfl (ci := 3) (k := 2) rfl i_X4 (by decide) fl_X4_18 rfl rfl rfl (tyX4_ok 2 (by decide)) rfl rfl (by simp) hB (hL_at0 rfl) ?_
  rw [hL_up0 (by simp)]
  show V l G yX4_init cX4_init 1 none (v_rm 1 3 48) (QV (hL h (shL h.2))) 3 48 28 [(0, .ref h.2)] [] (hL h [.inr (3, [.ref (h.2 + 1), .ref (h.2 + 2), .ref (h.2 + 3), .int 0, .int 0, .int 0, .int 0, .int 0, .int 0]), .inl (0, 12, .inl (fun _ => 0)), .inl (0, 6, .inl (fun _ => 0)), .inl (1, 30, .inr (.inl (fun _ => 0)))])
  refine v_aload_n 0 dX4_init_28 rfl rfl ?_
  refine v_sipush dX4_init_29 (by decide : _ = (281 : Int32)) ?_
  refine v_put tyX4 tyX4_ok nmX4 dX4_init_32 rfl (ci := 3) (k := 8) rfl i_X4 (by decide) fl_X4_22 rfl (tyX4_ok 8 (by decide)) rfl rfl (by simp) hB (hL_at0 rfl) ?_
  rw [hL_up0 (by simp)]
  show V l G yX4_init cX4_init 1 none (v_rm 1 3 48) (QV (hL h (shL h.2))) 3 48 35 [(0, .ref h.2)] [] (hL h [.inr (3, [.ref (h.2 + 1), .ref (h.2 + 2), .ref (h.2 + 3), .int 0, .int 0, .int 0, .int 0, .int 0, .int (281 : Int32)]), .inl (0, 12, .inl (fun _ => 0)), .inl (0, 6, .inl (fun _ => 0)), .inl (1, 30, .inr (.inl (fun _ => 0)))])
  refine v_aload_n 0 dX4_init_35 rfl rfl ?_
  refine v_get dX4_init_36 rfl (ci := 3) (k := 0) rfl i_X4 (by decide) fl_X4_9 (hL_at0 rfl) rfl ?_
  refine v_bipush dX4_init_39 (by decide : _ = (20 : Int32)) ?_
  refine v_callSv (t_fill (a := h.2 + 1) (hL_at 1 rfl) (by decide) (by omega)) dX4_init_41 y_J7_fill_53178 ml_X4_26 rfl rfl (Nat.le_of_ble_eq_true rfl) ⟨(Nat.le_of_ble_eq_true rfl), (Nat.le_of_ble_eq_true rfl)⟩ ⟨by show _ ≤ 3; omega, by show _ ≤ 48; omega⟩ ?_
  rw [hL_up (by simp)]
  show V l G yX4_init cX4_init 1 none (v_rm 1 3 48) (QV (hL h (shL h.2))) 3 48 44 [(0, .ref h.2)] [] (hL h [.inr (3, [.ref (h.2 + 1), .ref (h.2 + 2), .ref (h.2 + 3), .int 0, .int 0, .int 0, .int 0, .int 0, .int (281 : Int32)]), .inl (0, 12, .inl (fun _ => (20 : Int32))), .inl (0, 6, .inl (fun _ => 0)), .inl (1, 30, .inr (.inl (fun _ => 0)))])
  refine v_aload_n 0 dX4_init_44 rfl rfl ?_
  refine v_get dX4_init_45 rfl (ci := 3) (k := 1) rfl i_X4 (by decide) fl_X4_15 (hL_at0 rfl) rfl ?_
  refine v_bipush dX4_init_48 (by decide : _ = (-2 : Int32)) ?_
  refine v_callSv (t_fill (a := h.2 + 2) (hL_at 2 rfl) (by decide) (by omega)) dX4_init_50 y_J7_fill_53178 ml_X4_26 rfl rfl (Nat.le_of_ble_eq_true rfl) ⟨(Nat.le_of_ble_eq_true rfl), (Nat.le_of_ble_eq_true rfl)⟩ ⟨by show _ ≤ 3; omega, by show _ ≤ 48; omega⟩ ?_
  rw [hL_up (by simp)]
  show V l G yX4_init cX4_init 1 none (v_rm 1 3 48) (QV (hL h (shL h.2))) 3 48 53 [(0, .ref h.2)] [] (hL h [.inr (3, [.ref (h.2 + 1), .ref (h.2 + 2), .ref (h.2 + 3), .int 0, .int 0, .int 0, .int 0, .int 0, .int (281 : Int32)]), .inl (0, 12, .inl (fun _ => (20 : Int32))), .inl (0, 6, .inl (fun _ => (-2 : Int32))), .inl (1, 30, .inr (.inl (fun _ => 0)))])
  exact v_vret dX4_init_53 rfl (by show _ ≤ 3; omega) (by show _ ≤ 48; omega) ⟨rfl, rfl⟩
def shs (z n : Nat) : List va_E := (List.range n).flatMap (fun k => shL (z + 4 * k))
theorem shs_succ (z n : Nat) : shs z (n + 1) = shs z n ++ shL (z + 4 * n) := by
  unfold shs
  rw [List.range_succ, List.flatMap_append]
  simp
theorem shs_len (z : Nat) : ∀ n, (shs z n).length = 4 * n
  | 0 => rfl
  | n + 1 => by
    rw [shs_succ, List.length_append, shs_len z n]
    show 4 * n + 4 = _
    omega
theorem i32_succ {i : Int32} {n : Nat} (hn : n < 1000) (hi : i = Int32.ofNat n) : i + 1 = Int32.ofNat (n + 1) := by
  subst hi
  apply Int32.toInt_inj.mp
  rw [Int32.toInt_add, Int32.toInt_ofNat_of_lt (by omega), Int32.toInt_ofNat_of_lt (by omega)]
  have : (1 : Int32).toInt = 1 := by decide
  rw [this]
  have := Int.bmod_eq_of_le (n := (n : Int) + 1) (m := 2 ^ 32) (by omega) (by omega)
  rw [this]
  omega
theorem i32_lt {n m : Nat} (hn : n < 1000) (hm : m < 1000) : (Int32.ofNat m ≤ Int32.ofNat n) ↔ m ≤ n := by
  rw [Int32.le_iff_toInt_le, Int32.toInt_ofNat_of_lt (by omega), Int32.toInt_ofNat_of_lt (by omega)]
  omega
theorem i32_nn {n : Nat} (hn : n < 1000) : (Int32.ofNat n).toNatClampNeg = n := Int32.toNatClampNeg_ofNat_of_lt (by omega)
theorem i32_in {n m : Nat} (hn : n < 1000) (h : n < m) : vp_in (Int32.ofNat n) m := by
  rintro (q | q)
  · rw [Int32.lt_iff_toInt_lt, Int32.toInt_ofNat_of_lt (by omega)] at q
    have : (0 : Int32).toInt = 0 := by decide
    omega
  · rw [i32_nn hn] at q
    omega
def stc (z n : Nat) : Nat → Option Nat := fun k => if k < n then some (z + 4 * k) else none
theorem stc_up (z n : Nat) : va_up (stc z n) n (some (z + 4 * n)) = stc z (n + 1) := by
  funext k
  unfold va_up stc
  by_cases h1 : k = n
  · rw [if_pos h1, if_pos (by omega), h1]
  · rw [if_neg h1]
    by_cases h2 : k < n
    · rw [if_pos h2, if_pos (by omega)]
    · rw [if_neg h2, if_neg (by omega)]
def W9 (z : Nat) (f : Nat → Option Nat) : List va_E := [.inr (7, [.ref (z + 1), .ref (z + 5), .int 0, .int 0, .ref (z + 6), .int 0, .int 0, .ref (z + 7), .int 0, .int (-1 : Int32), .ref (z + 8), .int 0]), .inr (3, [.ref (z + 2), .ref (z + 3), .ref (z + 4), .int 0, .int 0, .int 0, .int 0, .int 0, .int 281]), .inl (0, 12, .inl (fun _ => 20)), .inl (0, 6, .inl (fun _ => -2)), .inl (1, 30, .inr (.inl (fun _ => 0))), .inl (3, 30, .inr (.inr (.inr (.inr f)))), .inl (0, 4, .inl (fun _ => 0)), .inl (4, 4, .inr (.inr (.inr (.inr (fun _ => none))))), .inl (0, 24, .inl (fun _ => 0))]
def WL (z : Nat) : List va_E := W9 z (stc (z + 9) 30) ++ shs (z + 9) 30
set_option maxRecDepth 100000 in
set_option maxHeartbeats 4000000 in
theorem W_loop {l : Launch} {G : v_G} {h : v_H} (hB : v_B G ≤ h.2) : ∀ (m n : Nat), n + m = 30 → V l G yX8_init cX8_init 2 none (v_rm 2 128 1829) (QV (hL h (WL h.2))) (8 + 4 * n) (119 + 57 * n) 54 [(1, .int (Int32.ofNat n)), (0, .ref h.2)] [] (hL h (W9 h.2 (stc (h.2 + 9) n) ++ shs (h.2 + 9) n)) := by
  intro m
  induction m with
  | zero =>
    intro n hn
    have hn : n = 30 := by omega
    subst hn
    refine v_iload_n 0 dX8_init_54 rfl rfl ?_
    refine v_bipush dX8_init_55 (by decide : _ = (30 : Int32)) ?_
    refine v_icmp_ge (tgt := 79) dX8_init_57 (by decide) (fun c => ?_) (fun c => absurd (by decide) c)
    exact v_vret dX8_init_79 rfl (by show _ ≤ 128; omega) (by show _ ≤ 1829; omega) ⟨rfl, rfl⟩
  | succ m ih =>
    intro n hn
    refine v_iload_n 0 dX8_init_54 rfl rfl ?_
    refine v_bipush dX8_init_55 (by decide : _ = (30 : Int32)) ?_
    refine v_icmp_ge (tgt := 79) dX8_init_57 (by decide) (fun c => ?_) (fun c => ?_)
    · have := (i32_lt (n := n) (m := 30) (by omega) (by omega)).mp c
      omega
    · generalize hLn : W9 h.2 (stc (h.2 + 9) n) ++ shs (h.2 + 9) n = L
      have hlen : L.length = 9 + 4 * n := by rw [← hLn, List.length_append, shs_len]; rfl
      have h0 : L[0]? = some (.inr (7, [.ref (h.2 + 1), .ref (h.2 + 5), .int 0, .int 0, .ref (h.2 + 6), .int 0, .int 0, .ref (h.2 + 7), .int 0, .int (-1 : Int32), .ref (h.2 + 8), .int 0])) := by rw [← hLn]; rfl
      have h5 : L[5]? = some (.inl (3, 30, .inr (.inr (.inr (.inr (stc (h.2 + 9) n)))))) := by rw [← hLn]; rfl
      refine v_aload_n 1 dX8_init_60 rfl rfl ?_
      refine v_get dX8_init_61 rfl (ci := 7) (k := 1) rfl i_X8 (by decide) fl_X8_18 (hL_at0 h0) rfl ?_
      refine v_iload_n 0 dX8_init_64 rfl rfl ?_
      refine v_new tyX4 tyX4_ok dX8_init_65 rfl (ci := 3) (fs := [.null, .null, .null, .int 0, .int 0, .int 0, .int 0, .int 0, .int 0]) rfl i_X4 cl_X8_9 ib_X4 ini_X4 (fun j hj => by match j, hj with | 0, _ => rfl | 1, _ => rfl | 2, _ => rfl | 3, _ => rfl | 4, _ => rfl | 5, _ => rfl | 6, _ => rfl | 7, _ => rfl | 8, _ => rfl) (by show _ ≤ 128; omega) (by show _ ≤ 1829; omega) ?_
      rw [hL_push, ← hL_app]
      refine v_dup dX8_init_68 rfl ?_
      refine v_callI (st := [.ref (hL h L).2, .int (Int32.ofNat n), .ref (h.2 + 5)]) (b := (hL h L).2) (As := []) (t_X4_init (h := hL h L) (by show _ ≤ h.2 + L.length; omega)) dX8_init_69 y_X4_init ml_X8_11 rfl rfl (Nat.le_of_ble_eq_true rfl) ⟨(Nat.le_of_ble_eq_true rfl), (Nat.le_of_ble_eq_true rfl)⟩ ⟨by show _ ≤ 128; omega, by show _ ≤ 1829; omega⟩ (fun v h2 hq => ?_)
      obtain ⟨rfl, rfl⟩ := hq
      rw [hL_app]
      have e2 : (hL h L).2 = h.2 + 9 + 4 * n := by show h.2 + L.length = _; omega
      refine v_aast (t := 3) (ci := 3) (a := h.2 + 5) (b := (hL h L).2) dX8_init_72 (by omega) rfl rfl (hL_at 5 (by rw [List.getElem?_append_left (by omega)]; exact h5)) (hL_at (L := L ++ shL (hL h L).2) L.length (by rw [List.getElem?_append_right (Nat.le_refl _), Nat.sub_self]; rfl)) (i32_in (by omega) (by omega)) ?_
      rw [hL_up (by rw [List.length_append]; omega), i32_nn (by omega), e2, stc_up]
      refine v_iinc (v := Int32.ofNat (n + 1)) 0 dX8_init_73 rfl (i32_succ (by omega) rfl) (by decide) rfl ?_
      refine v_goto (tgt := 54) dX8_init_76 (by decide) ?_
      have e3 : (L ++ shL (h.2 + 9 + 4 * n)).set 5 (.inl (3, 30, .inr (.inr (.inr (.inr (stc (h.2 + 9) (n + 1))))))) = W9 h.2 (stc (h.2 + 9) (n + 1)) ++ shs (h.2 + 9) (n + 1) := by
        rw [shs_succ, ← hLn, List.append_assoc]
        rfl
      rw [e3]
      exact v_widen (by omega) (by omega) (ih (n + 1) (by omega))
set_option maxRecDepth 100000 in
set_option maxHeartbeats 4000000 in
theorem t_X8_init {l : Launch} {G : v_G} {h : v_H} (hB : v_B G ≤ h.2) : v_M l G yX8_init cX8_init 2 none 2 128 1829 [.ref h.2] (hL h [.inr (7, [.null, .null, .int 0, .int 0, .null, .int 0, .int 0, .null, .int 0, .int 0, .null, .int 0])]) (QV (hL h (WL h.2))) := by
  refine v_entry (by decide) (Nat.le_of_ble_eq_true rfl) ?_
  show V l G yX8_init cX8_init 2 none (v_rm 2 128 1829) (QV (hL h (WL h.2))) 0 0 0 [(0, .ref h.2)] [] (hL h [.inr (7, [.null, .null, .int 0, .int 0, .null, .int 0, .int 0, .null, .int 0, .int 0, .null, .int 0])])
  refine v_aload_n 0 dX8_init_0 rfl rfl ?_
  refine v_objInit dX8_init_1 ml_X8_3 w_oinst w_ocode (Nat.le_of_ble_eq_true rfl) (Nat.le_of_ble_eq_true rfl) ?_
  refine v_aload_n 0 dX8_init_4 rfl rfl ?_
  refine v_new tyX4 tyX4_ok dX8_init_5 rfl (ci := 3) (fs := [.null, .null, .null, .int 0, .int 0, .int 0, .int 0, .int 0, .int 0]) rfl i_X4 cl_X8_9 ib_X4 ini_X4 (fun j hj => by match j, hj with | 0, _ => rfl | 1, _ => rfl | 2, _ => rfl | 3, _ => rfl | 4, _ => rfl | 5, _ => rfl | 6, _ => rfl | 7, _ => rfl | 8, _ => rfl) (by show _ ≤ 128; omega) (by show _ ≤ 1829; omega) ?_
  rw [hL_push]
  show V l G yX8_init cX8_init 2 none (v_rm 2 128 1829) (QV (hL h (WL h.2))) 1 9 8 [(0, .ref h.2)] [.ref (h.2 + 1), .ref h.2] (hL h [.inr (7, [.null, .null, .int 0, .int 0, .null, .int 0, .int 0, .null, .int 0, .int 0, .null, .int 0]), .inr (3, [.null, .null, .null, .int 0, .int 0, .int 0, .int 0, .int 0, .int 0])])
  refine v_dup dX8_init_8 rfl ?_
  rw [show (hL h [.inr (7, [.null, .null, .int 0, .int 0, .null, .int 0, .int 0, .null, .int 0, .int 0, .null, .int 0]), .inr (3, [.null, .null, .null, .int 0, .int 0, .int 0, .int 0, .int 0, .int 0])]) = hL (hL h [.inr (7, [.null, .null, .int 0, .int 0, .null, .int 0, .int 0, .null, .int 0, .int 0, .null, .int 0])]) [.inr (3, [.null, .null, .null, .int 0, .int 0, .int 0, .int 0, .int 0, .int 0])] from (hL_app (L := [.inr (7, [.null, .null, .int 0, .int 0, .null, .int 0, .int 0, .null, .int 0, .int 0, .null, .int 0])]) (M := [.inr (3, [.null, .null, .null, .int 0, .int 0, .int 0, .int 0, .int 0, .int 0])])).symm]
  refine v_callI (st := [.ref (h.2 + 1), .ref h.2]) (b := (hL h [.inr (7, [.null, .null, .int 0, .int 0, .null, .int 0, .int 0, .null, .int 0, .int 0, .null, .int 0])]).2) (As := []) (t_X4_init (h := (hL h [.inr (7, [.null, .null, .int 0, .int 0, .null, .int 0, .int 0, .null, .int 0, .int 0, .null, .int 0])])) (by show _ ≤ h.2 + 1; omega)) dX8_init_9 y_X4_init ml_X8_11 rfl rfl (Nat.le_of_ble_eq_true rfl) ⟨(Nat.le_of_ble_eq_true rfl), (Nat.le_of_ble_eq_true rfl)⟩ ⟨by show _ ≤ 128; omega, by show _ ≤ 1829; omega⟩ (fun v h2 hq => ?_)
  obtain ⟨rfl, rfl⟩ := hq
  rw [hL_app]
  show V l G yX8_init cX8_init 2 none (v_rm 2 128 1829) (QV (hL h (WL h.2))) 4 57 12 [(0, .ref h.2)] [.ref (h.2 + 1), .ref h.2] (hL h [.inr (7, [.null, .null, .int 0, .int 0, .null, .int 0, .int 0, .null, .int 0, .int 0, .null, .int 0]), .inr (3, [.ref (h.2 + 2), .ref (h.2 + 3), .ref (h.2 + 4), .int 0, .int 0, .int 0, .int 0, .int 0, .int 281]), .inl (0, 12, .inl (fun _ => 20)), .inl (0, 6, .inl (fun _ => -2)), .inl (1, 30, .inr (.inl (fun _ => 0)))])
  refine v_putF tyX8 tyX8_ok nmX8 dX8_init_12 rfl (ci := 7) (k := 0) rfl i_X8 (by decide) fl_X8_12 rfl rfl rfl (tyX8_ok 0 (by decide)) rfl rfl (by simp) hB (hL_at0 rfl) ?_
  rw [hL_up0 (by simp)]
  show V l G yX8_init cX8_init 2 none (v_rm 2 128 1829) (QV (hL h (WL h.2))) 4 57 15 [(0, .ref h.2)] [] (hL h [.inr (7, [.ref (h.2 + 1), .null, .int 0, .int 0, .null, .int 0, .int 0, .null, .int 0, .int 0, .null, .int 0]), .inr (3, [.ref (h.2 + 2), .ref (h.2 + 3), .ref (h.2 + 4), .int 0, .int 0, .int 0, .int 0, .int 0, .int 281]), .inl (0, 12, .inl (fun _ => 20)), .inl (0, 6, .inl (fun _ => -2)), .inl (1, 30, .inr (.inl (fun _ => 0)))])
  refine v_aload_n 0 dX8_init_15 rfl rfl ?_
  refine v_bipush dX8_init_16 (by decide : _ = (30 : Int32)) ?_
  refine v_anew (C := "RolledOut$Sheet") (t := 3) (N := 30) dX8_init_18 rfl cl_X8_9 (fun s h => h.2.2.2.2.2.1) rfl (by decide) (by decide) (by decide) (by show _ ≤ 128; omega) (by show _ ≤ 1829; omega) ?_
  rw [hL_push]
  show V l G yX8_init cX8_init 2 none (v_rm 2 128 1829) (QV (hL h (WL h.2))) 5 87 21 [(0, .ref h.2)] [.ref (h.2 + 5), .ref h.2] (hL h [.inr (7, [.ref (h.2 + 1), .null, .int 0, .int 0, .null, .int 0, .int 0, .null, .int 0, .int 0, .null, .int 0]), .inr (3, [.ref (h.2 + 2), .ref (h.2 + 3), .ref (h.2 + 4), .int 0, .int 0, .int 0, .int 0, .int 0, .int 281]), .inl (0, 12, .inl (fun _ => 20)), .inl (0, 6, .inl (fun _ => -2)), .inl (1, 30, .inr (.inl (fun _ => 0))), .inl (3, 30, .inr (.inr (.inr (.inr (fun _ => none)))))])
  refine v_putF tyX8 tyX8_ok nmX8 dX8_init_21 rfl (ci := 7) (k := 1) rfl i_X8 (by decide) fl_X8_18 rfl rfl rfl (tyX8_ok 1 (by decide)) rfl rfl (by simp) hB (hL_at0 rfl) ?_
  rw [hL_up0 (by simp)]
  show V l G yX8_init cX8_init 2 none (v_rm 2 128 1829) (QV (hL h (WL h.2))) 5 87 24 [(0, .ref h.2)] [] (hL h [.inr (7, [.ref (h.2 + 1), .ref (h.2 + 5), .int 0, .int 0, .null, .int 0, .int 0, .null, .int 0, .int 0, .null, .int 0]), .inr (3, [.ref (h.2 + 2), .ref (h.2 + 3), .ref (h.2 + 4), .int 0, .int 0, .int 0, .int 0, .int 0, .int 281]), .inl (0, 12, .inl (fun _ => 20)), .inl (0, 6, .inl (fun _ => -2)), .inl (1, 30, .inr (.inl (fun _ => 0))), .inl (3, 30, .inr (.inr (.inr (.inr (fun _ => none)))))])
  refine v_aload_n 0 dX8_init_24 rfl rfl ?_
  refine v_iconst dX8_init_25 (by decide : _ = (4 : Int32)) ?_
  refine v_newa (atype := .int) (ty := .int) (t := 0) (N := 4) (a0 := (4, .inl (fun _ => 0))) dX8_init_26 rfl ac_int rfl (fun C h => by cases h) (fun cA => rfl) (by decide) (by decide) (by decide) (by show _ ≤ 128; omega) (by show _ ≤ 1829; omega) ?_
  rw [hL_push]
  show V l G yX8_init cX8_init 2 none (v_rm 2 128 1829) (QV (hL h (WL h.2))) 6 91 28 [(0, .ref h.2)] [.ref (h.2 + 6), .ref h.2] (hL h [.inr (7, [.ref (h.2 + 1), .ref (h.2 + 5), .int 0, .int 0, .null, .int 0, .int 0, .null, .int 0, .int 0, .null, .int 0]), .inr (3, [.ref (h.2 + 2), .ref (h.2 + 3), .ref (h.2 + 4), .int 0, .int 0, .int 0, .int 0, .int 0, .int 281]), .inl (0, 12, .inl (fun _ => 20)), .inl (0, 6, .inl (fun _ => -2)), .inl (1, 30, .inr (.inl (fun _ => 0))), .inl (3, 30, .inr (.inr (.inr (.inr (fun _ => none))))), .inl (0, 4, .inl (fun _ => 0))])
  refine v_putF tyX8 tyX8_ok nmX8 dX8_init_28 rfl (ci := 7) (k := 4) rfl i_X8 (by decide) fl_X8_22 rfl rfl rfl (tyX8_ok 4 (by decide)) rfl rfl (by simp) hB (hL_at0 rfl) ?_
  rw [hL_up0 (by simp)]
  show V l G yX8_init cX8_init 2 none (v_rm 2 128 1829) (QV (hL h (WL h.2))) 6 91 31 [(0, .ref h.2)] [] (hL h [.inr (7, [.ref (h.2 + 1), .ref (h.2 + 5), .int 0, .int 0, .ref (h.2 + 6), .int 0, .int 0, .null, .int 0, .int 0, .null, .int 0]), .inr (3, [.ref (h.2 + 2), .ref (h.2 + 3), .ref (h.2 + 4), .int 0, .int 0, .int 0, .int 0, .int 0, .int 281]), .inl (0, 12, .inl (fun _ => 20)), .inl (0, 6, .inl (fun _ => -2)), .inl (1, 30, .inr (.inl (fun _ => 0))), .inl (3, 30, .inr (.inr (.inr (.inr (fun _ => none))))), .inl (0, 4, .inl (fun _ => 0))])
  refine v_aload_n 0 dX8_init_31 rfl rfl ?_
  refine v_iconst dX8_init_32 (by decide : _ = (4 : Int32)) ?_
  refine v_anew (C := "RolledOut$Text") (t := 4) (N := 4) dX8_init_33 rfl cl_X8_26 (fun s h => h.2.2.2.2.2.2.1) rfl (by decide) (by decide) (by decide) (by show _ ≤ 128; omega) (by show _ ≤ 1829; omega) ?_
  rw [hL_push]
  show V l G yX8_init cX8_init 2 none (v_rm 2 128 1829) (QV (hL h (WL h.2))) 7 95 36 [(0, .ref h.2)] [.ref (h.2 + 7), .ref h.2] (hL h [.inr (7, [.ref (h.2 + 1), .ref (h.2 + 5), .int 0, .int 0, .ref (h.2 + 6), .int 0, .int 0, .null, .int 0, .int 0, .null, .int 0]), .inr (3, [.ref (h.2 + 2), .ref (h.2 + 3), .ref (h.2 + 4), .int 0, .int 0, .int 0, .int 0, .int 0, .int 281]), .inl (0, 12, .inl (fun _ => 20)), .inl (0, 6, .inl (fun _ => -2)), .inl (1, 30, .inr (.inl (fun _ => 0))), .inl (3, 30, .inr (.inr (.inr (.inr (fun _ => none))))), .inl (0, 4, .inl (fun _ => 0)), .inl (4, 4, .inr (.inr (.inr (.inr (fun _ => none)))))])
  refine v_putF tyX8 tyX8_ok nmX8 dX8_init_36 rfl (ci := 7) (k := 7) rfl i_X8 (by decide) fl_X8_28 rfl rfl rfl (tyX8_ok 7 (by decide)) rfl rfl (by simp) hB (hL_at0 rfl) ?_
  rw [hL_up0 (by simp)]
  show V l G yX8_init cX8_init 2 none (v_rm 2 128 1829) (QV (hL h (WL h.2))) 7 95 39 [(0, .ref h.2)] [] (hL h [.inr (7, [.ref (h.2 + 1), .ref (h.2 + 5), .int 0, .int 0, .ref (h.2 + 6), .int 0, .int 0, .ref (h.2 + 7), .int 0, .int 0, .null, .int 0]), .inr (3, [.ref (h.2 + 2), .ref (h.2 + 3), .ref (h.2 + 4), .int 0, .int 0, .int 0, .int 0, .int 0, .int 281]), .inl (0, 12, .inl (fun _ => 20)), .inl (0, 6, .inl (fun _ => -2)), .inl (1, 30, .inr (.inl (fun _ => 0))), .inl (3, 30, .inr (.inr (.inr (.inr (fun _ => none))))), .inl (0, 4, .inl (fun _ => 0)), .inl (4, 4, .inr (.inr (.inr (.inr (fun _ => none)))))])
  refine v_aload_n 0 dX8_init_39 rfl rfl ?_
  refine v_iconst dX8_init_40 (by decide : _ = (-1 : Int32)) ?_
  refine v_put tyX8 tyX8_ok nmX8 dX8_init_41 rfl (ci := 7) (k := 9) rfl i_X8 (by decide) fl_X8_32 rfl (tyX8_ok 9 (by decide)) rfl rfl (by simp) hB (hL_at0 rfl) ?_
  rw [hL_up0 (by simp)]
  show V l G yX8_init cX8_init 2 none (v_rm 2 128 1829) (QV (hL h (WL h.2))) 7 95 44 [(0, .ref h.2)] [] (hL h [.inr (7, [.ref (h.2 + 1), .ref (h.2 + 5), .int 0, .int 0, .ref (h.2 + 6), .int 0, .int 0, .ref (h.2 + 7), .int 0, .int (-1 : Int32), .null, .int 0]), .inr (3, [.ref (h.2 + 2), .ref (h.2 + 3), .ref (h.2 + 4), .int 0, .int 0, .int 0, .int 0, .int 0, .int 281]), .inl (0, 12, .inl (fun _ => 20)), .inl (0, 6, .inl (fun _ => -2)), .inl (1, 30, .inr (.inl (fun _ => 0))), .inl (3, 30, .inr (.inr (.inr (.inr (fun _ => none))))), .inl (0, 4, .inl (fun _ => 0)), .inl (4, 4, .inr (.inr (.inr (.inr (fun _ => none)))))])
  refine v_aload_n 0 dX8_init_44 rfl rfl ?_
  refine v_bipush dX8_init_45 (by decide : _ = (24 : Int32)) ?_
  refine v_newa (atype := .int) (ty := .int) (t := 0) (N := 24) (a0 := (24, .inl (fun _ => 0))) dX8_init_47 rfl ac_int rfl (fun C h => by cases h) (fun cA => rfl) (by decide) (by decide) (by decide) (by show _ ≤ 128; omega) (by show _ ≤ 1829; omega) ?_
  rw [hL_push]
  show V l G yX8_init cX8_init 2 none (v_rm 2 128 1829) (QV (hL h (WL h.2))) 8 119 49 [(0, .ref h.2)] [.ref (h.2 + 8), .ref h.2] (hL h [.inr (7, [.ref (h.2 + 1), .ref (h.2 + 5), .int 0, .int 0, .ref (h.2 + 6), .int 0, .int 0, .ref (h.2 + 7), .int 0, .int (-1 : Int32), .null, .int 0]), .inr (3, [.ref (h.2 + 2), .ref (h.2 + 3), .ref (h.2 + 4), .int 0, .int 0, .int 0, .int 0, .int 0, .int 281]), .inl (0, 12, .inl (fun _ => 20)), .inl (0, 6, .inl (fun _ => -2)), .inl (1, 30, .inr (.inl (fun _ => 0))), .inl (3, 30, .inr (.inr (.inr (.inr (fun _ => none))))), .inl (0, 4, .inl (fun _ => 0)), .inl (4, 4, .inr (.inr (.inr (.inr (fun _ => none))))), .inl (0, 24, .inl (fun _ => 0))])
  refine v_putF tyX8 tyX8_ok nmX8 dX8_init_49 rfl (ci := 7) (k := 10) rfl i_X8 (by decide) fl_X8_36 rfl rfl rfl (tyX8_ok 10 (by decide)) rfl rfl (by simp) hB (hL_at0 rfl) ?_
  rw [hL_up0 (by simp)]
  show V l G yX8_init cX8_init 2 none (v_rm 2 128 1829) (QV (hL h (WL h.2))) 8 119 52 [(0, .ref h.2)] [] (hL h [.inr (7, [.ref (h.2 + 1), .ref (h.2 + 5), .int 0, .int 0, .ref (h.2 + 6), .int 0, .int 0, .ref (h.2 + 7), .int 0, .int (-1 : Int32), .ref (h.2 + 8), .int 0]), .inr (3, [.ref (h.2 + 2), .ref (h.2 + 3), .ref (h.2 + 4), .int 0, .int 0, .int 0, .int 0, .int 0, .int 281]), .inl (0, 12, .inl (fun _ => 20)), .inl (0, 6, .inl (fun _ => -2)), .inl (1, 30, .inr (.inl (fun _ => 0))), .inl (3, 30, .inr (.inr (.inr (.inr (fun _ => none))))), .inl (0, 4, .inl (fun _ => 0)), .inl (4, 4, .inr (.inr (.inr (.inr (fun _ => none))))), .inl (0, 24, .inl (fun _ => 0))])
  refine v_iconst dX8_init_52 (by decide : _ = (0 : Int32)) ?_
  refine v_istore_n dX8_init_53 rfl (by decide) rfl ?_
  refine v_conv (h2 := hL h (W9 h.2 (stc (h.2 + 9) 0) ++ shs (h.2 + 9) 0)) (fun H hR => ?_) (W_loop hB 30 0 rfl)
  have e : stc (h.2 + 9) 0 = fun _ => none := by funext k; exact if_neg (by omega)
  rw [e]
  exact hR
def RuL (z : Nat) (wd sh : Nat) : List va_E := [.inr (1, [.ref wd, .ref (z + 1), .ref sh, .int 0, .int 0, .int 0]), .inl (1, 64, .inr (.inl (fun _ => 0)))]
set_option maxRecDepth 100000 in
set_option maxHeartbeats 4000000 in
theorem t_X2_init {l : Launch} {G : v_G} {h : v_H} {wd sh : Nat} {w1 w2 w3 w4 w5 w6 w7 w8 w9 w10 w11 : Value} (hw1 : wd < h.2) (hw2 : h.1 wd = some (.inr (7, [.ref sh, w1, w2, w3, w4, w5, w6, w7, w8, w9, w10, w11]))) (hB : v_B G ≤ h.2) : v_M l G yX2_init cX2_init 2 none 1 1 64 [.ref h.2, .ref wd] (hL h [.inr (1, [.null, .null, .null, .int 0, .int 0, .int 0])]) (QV (hL h (RuL h.2 wd sh))) := by
  refine v_entry (by decide) (Nat.le_of_ble_eq_true rfl) ?_
  show V l G yX2_init cX2_init 2 none (v_rm 1 1 64) (QV (hL h (RuL h.2 wd sh))) 0 0 0 [(0, .ref h.2), (1, .ref wd)] [] (hL h [.inr (1, [.null, .null, .null, .int 0, .int 0, .int 0])])
  refine v_aload_n 0 dX2_init_0 rfl rfl ?_
  refine v_objInit dX2_init_1 ml_X2_3 w_oinst w_ocode (Nat.le_of_ble_eq_true rfl) (Nat.le_of_ble_eq_true rfl) ?_
  refine v_aload_n 0 dX2_init_4 rfl rfl ?_
  refine v_bipush dX2_init_5 (by decide : _ = (64 : Int32)) ?_
  refine v_newa (atype := .long) (ty := .long) (t := 1) (N := 64) (a0 := (64, .inr (.inl (fun _ => 0)))) dX2_init_7 rfl ac_long rfl (fun C h => by cases h) (fun cA => rfl) (by decide) (by decide) (by decide) (by show _ ≤ 1; omega) (by show _ ≤ 64; omega) ?_
  rw [hL_push]
  show V l G yX2_init cX2_init 2 none (v_rm 1 1 64) (QV (hL h (RuL h.2 wd sh))) 1 64 9 [(0, .ref h.2), (1, .ref wd)] [.ref (h.2 + 1), .ref h.2] (hL h [.inr (1, [.null, .null, .null, .int 0, .int 0, .int 0]), .inl (1, 64, .inr (.inl (fun _ => 0)))])
  refine v_putF tyX2 tyX2_ok nmX2 dX2_init_9 rfl (ci := 1) (k := 1) rfl i_X2 (by decide) fl_X2_9 rfl rfl rfl (tyX2_ok 1 (by decide)) rfl rfl (by simp) hB (hL_at0 rfl) ?_
  rw [hL_up0 (by simp)]
  show V l G yX2_init cX2_init 2 none (v_rm 1 1 64) (QV (hL h (RuL h.2 wd sh))) 1 64 12 [(0, .ref h.2), (1, .ref wd)] [] (hL h [.inr (1, [.null, .ref (h.2 + 1), .null, .int 0, .int 0, .int 0]), .inl (1, 64, .inr (.inl (fun _ => 0)))])
  refine v_aload_n 0 dX2_init_12 rfl rfl ?_
  refine v_aload_n 1 dX2_init_13 rfl rfl ?_
  refine v_putF tyX2 tyX2_ok nmX2 dX2_init_14 rfl (ci := 1) (k := 0) rfl i_X2 (by decide) fl_X2_15 rfl rfl rfl (tyX2_ok 0 (by decide)) rfl rfl (by simp) hB (hL_at0 rfl) ?_
  rw [hL_up0 (by simp)]
  show V l G yX2_init cX2_init 2 none (v_rm 1 1 64) (QV (hL h (RuL h.2 wd sh))) 1 64 17 [(0, .ref h.2), (1, .ref wd)] [] (hL h [.inr (1, [.ref wd, .ref (h.2 + 1), .null, .int 0, .int 0, .int 0]), .inl (1, 64, .inr (.inl (fun _ => 0)))])
  refine v_aload_n 0 dX2_init_17 rfl rfl ?_
  refine v_aload_n 1 dX2_init_18 rfl rfl ?_
  refine v_get dX2_init_19 rfl (ci := 7) (k := 0) rfl i_X8 (by decide) fl_X2_19 ((hL_old hw1).trans hw2) rfl ?_
  refine v_put tyX2 tyX2_ok nmX2 dX2_init_22 rfl (ci := 1) (k := 2) rfl i_X2 (by decide) fl_X2_25 rfl (tyX2_ok 2 (by decide)) rfl rfl (by simp) hB (hL_at0 rfl) ?_
  rw [hL_up0 (by simp)]
  show V l G yX2_init cX2_init 2 none (v_rm 1 1 64) (QV (hL h (RuL h.2 wd sh))) 1 64 25 [(0, .ref h.2), (1, .ref wd)] [] (hL h [.inr (1, [.ref wd, .ref (h.2 + 1), .ref sh, .int 0, .int 0, .int 0]), .inl (1, 64, .inr (.inl (fun _ => 0)))])
  exact v_vret dX2_init_25 rfl (by show _ ≤ 1; omega) (by show _ ≤ 64; omega) ⟨rfl, rfl⟩
def ShL (z : Nat) : List va_E := [.inr (2, [.ref (z + 1), .ref (z + 2)]), .inl (0, 13, .inl (fun _ => 0)), .inl (0, 91, .inl (fun _ => 0))]
set_option maxRecDepth 100000 in
set_option maxHeartbeats 4000000 in
theorem t_X3_init {l : Launch} {G : v_G} {h : v_H}  (hB : v_B G ≤ h.2) : v_M l G yX3_init cX3_init 1 none 1 2 104 [.ref h.2] (hL h [.inr (2, [.null, .null])]) (QV (hL h (ShL h.2))) := by
  refine v_entry (by decide) (Nat.le_of_ble_eq_true rfl) ?_
  show V l G yX3_init cX3_init 1 none (v_rm 1 2 104) (QV (hL h (ShL h.2))) 0 0 0 [(0, .ref h.2)] [] (hL h [.inr (2, [.null, .null])])
  refine v_aload_n 0 dX3_init_0 rfl rfl ?_
  refine v_objInit dX3_init_1 ml_X3_3 w_oinst w_ocode (Nat.le_of_ble_eq_true rfl) (Nat.le_of_ble_eq_true rfl) ?_
  refine v_aload_n 0 dX3_init_4 rfl rfl ?_
  refine v_bipush dX3_init_5 (by decide : _ = (13 : Int32)) ?_
  refine v_newa (atype := .int) (ty := .int) (t := 0) (N := 13) (a0 := (13, .inl (fun _ => 0))) dX3_init_7 rfl ac_int rfl (fun C h => by cases h) (fun cA => rfl) (by decide) (by decide) (by decide) (by show _ ≤ 2; omega) (by show _ ≤ 104; omega) ?_
  rw [hL_push]
  show V l G yX3_init cX3_init 1 none (v_rm 1 2 104) (QV (hL h (ShL h.2))) 1 13 9 [(0, .ref h.2)] [.ref (h.2 + 1), .ref h.2] (hL h [.inr (2, [.null, .null]), .inl (0, 13, .inl (fun _ => 0))])
  refine v_putF tyX3 tyX3_ok nmX3 dX3_init_9 rfl (ci := 2) (k := 0) rfl i_X3 (by decide) fl_X3_11 rfl rfl rfl (tyX3_ok 0 (by decide)) rfl rfl (by simp) hB (hL_at0 rfl) ?_
  rw [hL_up0 (by simp)]
  show V l G yX3_init cX3_init 1 none (v_rm 1 2 104) (QV (hL h (ShL h.2))) 1 13 12 [(0, .ref h.2)] [] (hL h [.inr (2, [.ref (h.2 + 1), .null]), .inl (0, 13, .inl (fun _ => 0))])
  refine v_aload_n 0 dX3_init_12 rfl rfl ?_
  refine v_bipush dX3_init_13 (by decide : _ = (91 : Int32)) ?_
  refine v_newa (atype := .int) (ty := .int) (t := 0) (N := 91) (a0 := (91, .inl (fun _ => 0))) dX3_init_15 rfl ac_int rfl (fun C h => by cases h) (fun cA => rfl) (by decide) (by decide) (by decide) (by show _ ≤ 2; omega) (by show _ ≤ 104; omega) ?_
  rw [hL_push]
  show V l G yX3_init cX3_init 1 none (v_rm 1 2 104) (QV (hL h (ShL h.2))) 2 104 17 [(0, .ref h.2)] [.ref (h.2 + 2), .ref h.2] (hL h [.inr (2, [.ref (h.2 + 1), .null]), .inl (0, 13, .inl (fun _ => 0)), .inl (0, 91, .inl (fun _ => 0))])
  refine v_putF tyX3 tyX3_ok nmX3 dX3_init_17 rfl (ci := 2) (k := 1) rfl i_X3 (by decide) fl_X3_15 rfl rfl rfl (tyX3_ok 1 (by decide)) rfl rfl (by simp) hB (hL_at0 rfl) ?_
  rw [hL_up0 (by simp)]
  show V l G yX3_init cX3_init 1 none (v_rm 1 2 104) (QV (hL h (ShL h.2))) 2 104 20 [(0, .ref h.2)] [] (hL h [.inr (2, [.ref (h.2 + 1), .ref (h.2 + 2)]), .inl (0, 13, .inl (fun _ => 0)), .inl (0, 91, .inl (fun _ => 0))])
  exact v_vret dX3_init_20 rfl (by show _ ≤ 2; omega) (by show _ ≤ 104; omega) ⟨rfl, rfl⟩
def TaL (z : Nat) : List va_E := [.inr (4, [.ref (z + 1), .int 0, .ref (z + 2), .ref (z + 3), .ref (z + 4), .int 0]), .inl (0, 300, .inl (fun _ => 0)), .inl (0, 301, .inl (fun _ => 0)), .inl (0, 301, .inl (fun _ => 0)), .inl (0, 301, .inl (fun _ => 0))]
set_option maxRecDepth 100000 in
set_option maxHeartbeats 4000000 in
theorem t_X5_init {l : Launch} {G : v_G} {h : v_H}  (hB : v_B G ≤ h.2) : v_M l G yX5_init cX5_init 1 none 1 4 1203 [.ref h.2] (hL h [.inr (4, [.null, .int 0, .null, .null, .null, .int 0])]) (QV (hL h (TaL h.2))) := by
  refine v_entry (by decide) (Nat.le_of_ble_eq_true rfl) ?_
  show V l G yX5_init cX5_init 1 none (v_rm 1 4 1203) (QV (hL h (TaL h.2))) 0 0 0 [(0, .ref h.2)] [] (hL h [.inr (4, [.null, .int 0, .null, .null, .null, .int 0])])
  refine v_aload_n 0 dX5_init_0 rfl rfl ?_
  refine v_objInit dX5_init_1 ml_X5_3 w_oinst w_ocode (Nat.le_of_ble_eq_true rfl) (Nat.le_of_ble_eq_true rfl) ?_
  refine v_aload_n 0 dX5_init_4 rfl rfl ?_
  refine v_sipush dX5_init_5 (by decide : _ = (300 : Int32)) ?_
  refine v_newa (atype := .int) (ty := .int) (t := 0) (N := 300) (a0 := (300, .inl (fun _ => 0))) dX5_init_8 rfl ac_int rfl (fun C h => by cases h) (fun cA => rfl) (by decide) (by decide) (by decide) (by show _ ≤ 4; omega) (by show _ ≤ 1203; omega) ?_
  rw [hL_push]
  show V l G yX5_init cX5_init 1 none (v_rm 1 4 1203) (QV (hL h (TaL h.2))) 1 300 10 [(0, .ref h.2)] [.ref (h.2 + 1), .ref h.2] (hL h [.inr (4, [.null, .int 0, .null, .null, .null, .int 0]), .inl (0, 300, .inl (fun _ => 0))])
  refine v_putF tyX5 tyX5_ok nmX5 dX5_init_10 rfl (ci := 4) (k := 0) rfl i_X5 (by decide) fl_X5_9 rfl rfl rfl (tyX5_ok 0 (by decide)) rfl rfl (by simp) hB (hL_at0 rfl) ?_
  rw [hL_up0 (by simp)]
  show V l G yX5_init cX5_init 1 none (v_rm 1 4 1203) (QV (hL h (TaL h.2))) 1 300 13 [(0, .ref h.2)] [] (hL h [.inr (4, [.ref (h.2 + 1), .int 0, .null, .null, .null, .int 0]), .inl (0, 300, .inl (fun _ => 0))])
  refine v_aload_n 0 dX5_init_13 rfl rfl ?_
  refine v_sipush dX5_init_14 (by decide : _ = (301 : Int32)) ?_
  refine v_newa (atype := .int) (ty := .int) (t := 0) (N := 301) (a0 := (301, .inl (fun _ => 0))) dX5_init_17 rfl ac_int rfl (fun C h => by cases h) (fun cA => rfl) (by decide) (by decide) (by decide) (by show _ ≤ 4; omega) (by show _ ≤ 1203; omega) ?_
  rw [hL_push]
  show V l G yX5_init cX5_init 1 none (v_rm 1 4 1203) (QV (hL h (TaL h.2))) 2 601 19 [(0, .ref h.2)] [.ref (h.2 + 2), .ref h.2] (hL h [.inr (4, [.ref (h.2 + 1), .int 0, .null, .null, .null, .int 0]), .inl (0, 300, .inl (fun _ => 0)), .inl (0, 301, .inl (fun _ => 0))])
  refine v_putF tyX5 tyX5_ok nmX5 dX5_init_19 rfl (ci := 4) (k := 2) rfl i_X5 (by decide) fl_X5_15 rfl rfl rfl (tyX5_ok 2 (by decide)) rfl rfl (by simp) hB (hL_at0 rfl) ?_
  rw [hL_up0 (by simp)]
  show V l G yX5_init cX5_init 1 none (v_rm 1 4 1203) (QV (hL h (TaL h.2))) 2 601 22 [(0, .ref h.2)] [] (hL h [.inr (4, [.ref (h.2 + 1), .int 0, .ref (h.2 + 2), .null, .null, .int 0]), .inl (0, 300, .inl (fun _ => 0)), .inl (0, 301, .inl (fun _ => 0))])
  refine v_aload_n 0 dX5_init_22 rfl rfl ?_
  refine v_sipush dX5_init_23 (by decide : _ = (301 : Int32)) ?_
  refine v_newa (atype := .int) (ty := .int) (t := 0) (N := 301) (a0 := (301, .inl (fun _ => 0))) dX5_init_26 rfl ac_int rfl (fun C h => by cases h) (fun cA => rfl) (by decide) (by decide) (by decide) (by show _ ≤ 4; omega) (by show _ ≤ 1203; omega) ?_
  rw [hL_push]
  show V l G yX5_init cX5_init 1 none (v_rm 1 4 1203) (QV (hL h (TaL h.2))) 3 902 28 [(0, .ref h.2)] [.ref (h.2 + 3), .ref h.2] (hL h [.inr (4, [.ref (h.2 + 1), .int 0, .ref (h.2 + 2), .null, .null, .int 0]), .inl (0, 300, .inl (fun _ => 0)), .inl (0, 301, .inl (fun _ => 0)), .inl (0, 301, .inl (fun _ => 0))])
  refine v_putF tyX5 tyX5_ok nmX5 dX5_init_28 rfl (ci := 4) (k := 3) rfl i_X5 (by decide) fl_X5_18 rfl rfl rfl (tyX5_ok 3 (by decide)) rfl rfl (by simp) hB (hL_at0 rfl) ?_
  rw [hL_up0 (by simp)]
  show V l G yX5_init cX5_init 1 none (v_rm 1 4 1203) (QV (hL h (TaL h.2))) 3 902 31 [(0, .ref h.2)] [] (hL h [.inr (4, [.ref (h.2 + 1), .int 0, .ref (h.2 + 2), .ref (h.2 + 3), .null, .int 0]), .inl (0, 300, .inl (fun _ => 0)), .inl (0, 301, .inl (fun _ => 0)), .inl (0, 301, .inl (fun _ => 0))])
  refine v_aload_n 0 dX5_init_31 rfl rfl ?_
  refine v_sipush dX5_init_32 (by decide : _ = (301 : Int32)) ?_
  refine v_newa (atype := .int) (ty := .int) (t := 0) (N := 301) (a0 := (301, .inl (fun _ => 0))) dX5_init_35 rfl ac_int rfl (fun C h => by cases h) (fun cA => rfl) (by decide) (by decide) (by decide) (by show _ ≤ 4; omega) (by show _ ≤ 1203; omega) ?_
  rw [hL_push]
  show V l G yX5_init cX5_init 1 none (v_rm 1 4 1203) (QV (hL h (TaL h.2))) 4 1203 37 [(0, .ref h.2)] [.ref (h.2 + 4), .ref h.2] (hL h [.inr (4, [.ref (h.2 + 1), .int 0, .ref (h.2 + 2), .ref (h.2 + 3), .null, .int 0]), .inl (0, 300, .inl (fun _ => 0)), .inl (0, 301, .inl (fun _ => 0)), .inl (0, 301, .inl (fun _ => 0)), .inl (0, 301, .inl (fun _ => 0))])
  refine v_putF tyX5 tyX5_ok nmX5 dX5_init_37 rfl (ci := 4) (k := 4) rfl i_X5 (by decide) fl_X5_21 rfl rfl rfl (tyX5_ok 4 (by decide)) rfl rfl (by simp) hB (hL_at0 rfl) ?_
  rw [hL_up0 (by simp)]
  show V l G yX5_init cX5_init 1 none (v_rm 1 4 1203) (QV (hL h (TaL h.2))) 4 1203 40 [(0, .ref h.2)] [] (hL h [.inr (4, [.ref (h.2 + 1), .int 0, .ref (h.2 + 2), .ref (h.2 + 3), .ref (h.2 + 4), .int 0]), .inl (0, 300, .inl (fun _ => 0)), .inl (0, 301, .inl (fun _ => 0)), .inl (0, 301, .inl (fun _ => 0)), .inl (0, 301, .inl (fun _ => 0))])
  exact v_vret dX5_init_40 rfl (by show _ ≤ 4; omega) (by show _ ≤ 1203; omega) ⟨rfl, rfl⟩
def ReL (z tp tN : Nat) : List va_E := [.inr (0, [.ref tp, .int 0, .int 0, .int 0, .int 0, .int 0, .ref (z + 1), .int 0, .ref (z + 2), .int 0, .ref tN, .ref tN]), .inl (0, 72, .inl (fun _ => 0)), .inl (0, 300, .inl (fun _ => 0))]
set_option maxRecDepth 100000 in
set_option maxHeartbeats 4000000 in
theorem t_X1_init {l : Launch} {G : v_G} {h : v_H} {tp : Nat} (hB : v_B G ≤ h.2) : v_M l G yX1_init cX1_init 2 none 1 2 372 [.ref h.2, .ref tp] (hL h [.inr (0, [.null, .int 0, .int 0, .int 0, .int 0, .int 0, .null, .int 0, .null, .int 0, .null, .null])]) (QV (hL h (ReL h.2 tp (v_tN G)))) := by
  refine v_entry (by decide) (Nat.le_of_ble_eq_true rfl) ?_
  show V l G yX1_init cX1_init 2 none (v_rm 1 2 372) (QV (hL h (ReL h.2 tp (v_tN G)))) 0 0 0 [(0, .ref h.2), (1, .ref tp)] [] (hL h [.inr (0, [.null, .int 0, .int 0, .int 0, .int 0, .int 0, .null, .int 0, .null, .int 0, .null, .null])])
  refine v_aload_n 0 dX1_init_0 rfl rfl ?_
  refine v_objInit dX1_init_1 ml_X1_3 w_oinst w_ocode (Nat.le_of_ble_eq_true rfl) (Nat.le_of_ble_eq_true rfl) ?_
  refine v_aload_n 0 dX1_init_4 rfl rfl ?_
  refine v_bipush dX1_init_5 (by decide : _ = (72 : Int32)) ?_
  refine v_newa (atype := .int) (ty := .int) (t := 0) (N := 72) (a0 := (72, .inl (fun _ => 0))) dX1_init_7 rfl ac_int rfl (fun C h => by cases h) (fun cA => rfl) (by decide) (by decide) (by decide) (by show _ ≤ 2; omega) (by show _ ≤ 372; omega) ?_
  rw [hL_push]
  show V l G yX1_init cX1_init 2 none (v_rm 1 2 372) (QV (hL h (ReL h.2 tp (v_tN G)))) 1 72 9 [(0, .ref h.2), (1, .ref tp)] [.ref (h.2 + 1), .ref h.2] (hL h [.inr (0, [.null, .int 0, .int 0, .int 0, .int 0, .int 0, .null, .int 0, .null, .int 0, .null, .null]), .inl (0, 72, .inl (fun _ => 0))])
  refine v_putF tyX1 tyX1_ok nmX1 dX1_init_9 rfl (ci := 0) (k := 6) rfl i_X1 (by decide) fl_X1_11 rfl rfl rfl (tyX1_ok 6 (by decide)) rfl rfl (by simp) hB (hL_at0 rfl) ?_
  rw [hL_up0 (by simp)]
  show V l G yX1_init cX1_init 2 none (v_rm 1 2 372) (QV (hL h (ReL h.2 tp (v_tN G)))) 1 72 12 [(0, .ref h.2), (1, .ref tp)] [] (hL h [.inr (0, [.null, .int 0, .int 0, .int 0, .int 0, .int 0, .ref (h.2 + 1), .int 0, .null, .int 0, .null, .null]), .inl (0, 72, .inl (fun _ => 0))])
  refine v_aload_n 0 dX1_init_12 rfl rfl ?_
  refine v_sipush dX1_init_13 (by decide : _ = (300 : Int32)) ?_
  refine v_newa (atype := .int) (ty := .int) (t := 0) (N := 300) (a0 := (300, .inl (fun _ => 0))) dX1_init_16 rfl ac_int rfl (fun C h => by cases h) (fun cA => rfl) (by decide) (by decide) (by decide) (by show _ ≤ 2; omega) (by show _ ≤ 372; omega) ?_
  rw [hL_push]
  show V l G yX1_init cX1_init 2 none (v_rm 1 2 372) (QV (hL h (ReL h.2 tp (v_tN G)))) 2 372 18 [(0, .ref h.2), (1, .ref tp)] [.ref (h.2 + 2), .ref h.2] (hL h [.inr (0, [.null, .int 0, .int 0, .int 0, .int 0, .int 0, .ref (h.2 + 1), .int 0, .null, .int 0, .null, .null]), .inl (0, 72, .inl (fun _ => 0)), .inl (0, 300, .inl (fun _ => 0))])
  refine v_putF tyX1 tyX1_ok nmX1 dX1_init_18 rfl (ci := 0) (k := 8) rfl i_X1 (by decide) fl_X1_15 rfl rfl rfl (tyX1_ok 8 (by decide)) rfl rfl (by simp) hB (hL_at0 rfl) ?_
  rw [hL_up0 (by simp)]
  show V l G yX1_init cX1_init 2 none (v_rm 1 2 372) (QV (hL h (ReL h.2 tp (v_tN G)))) 2 372 21 [(0, .ref h.2), (1, .ref tp)] [] (hL h [.inr (0, [.null, .int 0, .int 0, .int 0, .int 0, .int 0, .ref (h.2 + 1), .int 0, .ref (h.2 + 2), .int 0, .null, .null]), .inl (0, 72, .inl (fun _ => 0)), .inl (0, 300, .inl (fun _ => 0))])
  refine v_aload_n 0 dX1_init_21 rfl rfl ?_
  refine v_getNL dX1_init_22 rfl fl_X1_18 ?_
  refine v_put tyX1 tyX1_ok nmX1 dX1_init_25 rfl (ci := 0) (k := 10) rfl i_X1 (by decide) fl_X1_23 rfl (tyX1_ok 10 (by decide)) rfl rfl (by simp) hB (hL_at0 rfl) ?_
  rw [hL_up0 (by simp)]
  show V l G yX1_init cX1_init 2 none (v_rm 1 2 372) (QV (hL h (ReL h.2 tp (v_tN G)))) 2 372 28 [(0, .ref h.2), (1, .ref tp)] [] (hL h [.inr (0, [.null, .int 0, .int 0, .int 0, .int 0, .int 0, .ref (h.2 + 1), .int 0, .ref (h.2 + 2), .int 0, .ref (v_tN G), .null]), .inl (0, 72, .inl (fun _ => 0)), .inl (0, 300, .inl (fun _ => 0))])
  refine v_aload_n 0 dX1_init_28 rfl rfl ?_
  refine v_getNL dX1_init_29 rfl fl_X1_18 ?_
  refine v_put tyX1 tyX1_ok nmX1 dX1_init_32 rfl (ci := 0) (k := 11) rfl i_X1 (by decide) fl_X1_26 rfl (tyX1_ok 11 (by decide)) rfl rfl (by simp) hB (hL_at0 rfl) ?_
  rw [hL_up0 (by simp)]
  show V l G yX1_init cX1_init 2 none (v_rm 1 2 372) (QV (hL h (ReL h.2 tp (v_tN G)))) 2 372 35 [(0, .ref h.2), (1, .ref tp)] [] (hL h [.inr (0, [.null, .int 0, .int 0, .int 0, .int 0, .int 0, .ref (h.2 + 1), .int 0, .ref (h.2 + 2), .int 0, .ref (v_tN G), .ref (v_tN G)]), .inl (0, 72, .inl (fun _ => 0)), .inl (0, 300, .inl (fun _ => 0))])
  refine v_aload_n 0 dX1_init_35 rfl rfl ?_
  refine v_aload_n 1 dX1_init_36 rfl rfl ?_
  refine v_putF tyX1 tyX1_ok nmX1 dX1_init_37 rfl (ci := 0) (k := 0) rfl i_X1 (by decide) fl_X1_29 rfl rfl rfl (tyX1_ok 0 (by decide)) rfl rfl (by simp) hB (hL_at0 rfl) ?_
  rw [hL_up0 (by simp)]
  show V l G yX1_init cX1_init 2 none (v_rm 1 2 372) (QV (hL h (ReL h.2 tp (v_tN G)))) 2 372 40 [(0, .ref h.2), (1, .ref tp)] [] (hL h [.inr (0, [.ref tp, .int 0, .int 0, .int 0, .int 0, .int 0, .ref (h.2 + 1), .int 0, .ref (h.2 + 2), .int 0, .ref (v_tN G), .ref (v_tN G)]), .inl (0, 72, .inl (fun _ => 0)), .inl (0, 300, .inl (fun _ => 0))])
  exact v_vret dX1_init_40 rfl (by show _ ≤ 2; omega) (by show _ ≤ 372; omega) ⟨rfl, rfl⟩
def T3 (z wd kp ru : Nat) (f : Nat → Option Nat) : List va_E := [.inr (6, [.ref wd, .ref kp, .ref ru, .ref (z + 1), .ref (z + 2), .int 0, .int 0, .int 0]), .inl (3, 4, .inr (.inr (.inr (.inr f)))), .inl (0, 3, .inl (fun _ => 0))]
def TrL (z wd kp ru : Nat) : List va_E := T3 z wd kp ru (stc (z + 3) 4) ++ shs (z + 3) 4
set_option maxRecDepth 100000 in
set_option maxHeartbeats 4000000 in
theorem T_loop {l : Launch} {G : v_G} {h : v_H} {wd kp ru : Nat} (hB : v_B G ≤ h.2) : ∀ (m n : Nat), n + m = 4 → V l G yX7_init cX7_init 5 none (v_rm 2 18 235) (QV (hL h (TrL h.2 wd kp ru))) (2 + 4 * n) (7 + 57 * n) 37 [(4, .int (Int32.ofNat n)), (0, .ref h.2)] [] (hL h (T3 h.2 wd kp ru (stc (h.2 + 3) n) ++ shs (h.2 + 3) n)) := by
  intro m
  induction m with
  | zero =>
    intro n hn
    have hn : n = 4 := by omega
    subst hn
    refine v_iload 0 dX7_init_37 rfl ?_
    refine v_aload_n 1 dX7_init_39 rfl rfl ?_
    refine v_get dX7_init_40 rfl (ci := 6) (k := 3) rfl i_X7 (by decide) fl_X7_11 (hL_at0 rfl) rfl ?_
    refine v_alen (ty := .int) dX7_init_43 (by decide) (hL_at 1 rfl) ?_
    refine v_icmp_ge (tgt := 67) dX7_init_44 (by decide) (fun c => ?_) (fun c => absurd (show Int32.ofNat 4 ≤ Int32.ofNat 4 by decide) c)
    exact v_vret dX7_init_67 rfl (by show _ ≤ 18; omega) (by show _ ≤ 235; omega) ⟨rfl, rfl⟩
  | succ m ih =>
    intro n hn
    generalize hLn : T3 h.2 wd kp ru (stc (h.2 + 3) n) ++ shs (h.2 + 3) n = L
    have hlen : L.length = 3 + 4 * n := by rw [← hLn, List.length_append, shs_len]; rfl
    have h0 : L[0]? = some (.inr (6, [.ref wd, .ref kp, .ref ru, .ref (h.2 + 1), .ref (h.2 + 2), .int 0, .int 0, .int 0])) := by rw [← hLn]; rfl
    have h5 : L[1]? = some (.inl (3, 4, .inr (.inr (.inr (.inr (stc (h.2 + 3) n)))))) := by rw [← hLn]; rfl
    refine v_iload 0 dX7_init_37 rfl ?_
    refine v_aload_n 1 dX7_init_39 rfl rfl ?_
    refine v_get dX7_init_40 rfl (ci := 6) (k := 3) rfl i_X7 (by decide) fl_X7_11 (hL_at0 h0) rfl ?_
    refine v_alen (ty := .int) dX7_init_43 (by decide) (hL_at 1 h5) ?_
    refine v_icmp_ge (tgt := 67) dX7_init_44 (by decide) (fun c => ?_) (fun c => ?_)
    · have := (i32_lt (n := n) (m := 4) (by omega) (by omega)).mp c
      omega
    · refine v_aload_n 1 dX7_init_47 rfl rfl ?_
      refine v_get dX7_init_48 rfl (ci := 6) (k := 3) rfl i_X7 (by decide) fl_X7_11 (hL_at0 h0) rfl ?_
      refine v_iload 0 dX7_init_51 rfl ?_
      refine v_new tyX4 tyX4_ok dX7_init_53 rfl (ci := 3) (fs := [.null, .null, .null, .int 0, .int 0, .int 0, .int 0, .int 0, .int 0]) rfl i_X4 cl_X7_9 ib_X4 ini_X4 (fun j hj => by match j, hj with | 0, _ => rfl | 1, _ => rfl | 2, _ => rfl | 3, _ => rfl | 4, _ => rfl | 5, _ => rfl | 6, _ => rfl | 7, _ => rfl | 8, _ => rfl) (by show _ ≤ 18; omega) (by show _ ≤ 235; omega) ?_
      rw [hL_push, ← hL_app]
      refine v_dup dX7_init_56 rfl ?_
      refine v_callI (st := [.ref (hL h L).2, .int (Int32.ofNat n), .ref (h.2 + 1)]) (b := (hL h L).2) (As := []) (t_X4_init (h := hL h L) (by show _ ≤ h.2 + L.length; omega)) dX7_init_57 y_X4_init ml_X7_32 rfl rfl (Nat.le_of_ble_eq_true rfl) ⟨(Nat.le_of_ble_eq_true rfl), (Nat.le_of_ble_eq_true rfl)⟩ ⟨by show _ ≤ 18; omega, by show _ ≤ 235; omega⟩ (fun v h2 hq => ?_)
      obtain ⟨rfl, rfl⟩ := hq
      rw [hL_app]
      have e2 : (hL h L).2 = h.2 + 3 + 4 * n := by show h.2 + L.length = _; omega
      refine v_aast (t := 3) (ci := 3) (a := h.2 + 1) (b := (hL h L).2) dX7_init_60 (by omega) rfl rfl (hL_at 1 (by rw [List.getElem?_append_left (by omega)]; exact h5)) (hL_at (L := L ++ shL (hL h L).2) L.length (by rw [List.getElem?_append_right (Nat.le_refl _), Nat.sub_self]; rfl)) (i32_in (by omega) (by omega)) ?_
      rw [hL_up (by rw [List.length_append]; omega), i32_nn (by omega), e2, stc_up]
      refine v_iinc (v := Int32.ofNat (n + 1)) 0 dX7_init_61 rfl (i32_succ (by omega) rfl) (by decide) rfl ?_
      refine v_goto (tgt := 37) dX7_init_64 (by decide) ?_
      have e3 : (L ++ shL (h.2 + 3 + 4 * n)).set 1 (.inl (3, 4, .inr (.inr (.inr (.inr (stc (h.2 + 3) (n + 1))))))) = T3 h.2 wd kp ru (stc (h.2 + 3) (n + 1)) ++ shs (h.2 + 3) (n + 1) := by
        rw [shs_succ, ← hLn, List.append_assoc]
        rfl
      rw [e3]
      exact v_widen (by omega) (by omega) (ih (n + 1) (by omega))
set_option maxRecDepth 100000 in
set_option maxHeartbeats 4000000 in
theorem t_X7_init {l : Launch} {G : v_G} {h : v_H} {wd kp ru : Nat} (hB : v_B G ≤ h.2) : v_M l G yX7_init cX7_init 5 none 2 18 235 [.ref h.2, .ref wd, .ref kp, .ref ru] (hL h [.inr (6, [.null, .null, .null, .null, .null, .int 0, .int 0, .int 0])]) (QV (hL h (TrL h.2 wd kp ru))) := by
  refine v_entry (by decide) (Nat.le_of_ble_eq_true rfl) ?_
  show V l G yX7_init cX7_init 5 none (v_rm 2 18 235) (QV (hL h (TrL h.2 wd kp ru))) 0 0 0 [(0, .ref h.2), (1, .ref wd), (2, .ref kp), (3, .ref ru)] [] (hL h [.inr (6, [.null, .null, .null, .null, .null, .int 0, .int 0, .int 0])])
  refine v_aload_n 0 dX7_init_0 rfl rfl ?_
  refine v_objInit dX7_init_1 ml_X7_3 w_oinst w_ocode (Nat.le_of_ble_eq_true rfl) (Nat.le_of_ble_eq_true rfl) ?_
  refine v_aload_n 0 dX7_init_4 rfl rfl ?_
  refine v_iconst dX7_init_5 (by decide : _ = (4 : Int32)) ?_
  refine v_anew (C := "RolledOut$Sheet") (t := 3) (N := 4) dX7_init_6 rfl cl_X7_9 (fun s h => h.2.2.2.2.2.1) rfl (by decide) (by decide) (by decide) (by show _ ≤ 18; omega) (by show _ ≤ 235; omega) ?_
  rw [hL_push]
  show V l G yX7_init cX7_init 5 none (v_rm 2 18 235) (QV (hL h (TrL h.2 wd kp ru))) 1 4 9 [(0, .ref h.2), (1, .ref wd), (2, .ref kp), (3, .ref ru)] [.ref (h.2 + 1), .ref h.2] (hL h [.inr (6, [.null, .null, .null, .null, .null, .int 0, .int 0, .int 0]), .inl (3, 4, .inr (.inr (.inr (.inr (fun _ => none)))))])
  refine v_putF tyX7 tyX7_ok nmX7 dX7_init_9 rfl (ci := 6) (k := 3) rfl i_X7 (by decide) fl_X7_11 rfl rfl rfl (tyX7_ok 3 (by decide)) rfl rfl (by simp) hB (hL_at0 rfl) ?_
  rw [hL_up0 (by simp)]
  show V l G yX7_init cX7_init 5 none (v_rm 2 18 235) (QV (hL h (TrL h.2 wd kp ru))) 1 4 12 [(0, .ref h.2), (1, .ref wd), (2, .ref kp), (3, .ref ru)] [] (hL h [.inr (6, [.null, .null, .null, .ref (h.2 + 1), .null, .int 0, .int 0, .int 0]), .inl (3, 4, .inr (.inr (.inr (.inr (fun _ => none)))))])
  refine v_aload_n 0 dX7_init_12 rfl rfl ?_
  refine v_iconst dX7_init_13 (by decide : _ = (3 : Int32)) ?_
  refine v_newa (atype := .int) (ty := .int) (t := 0) (N := 3) (a0 := (3, .inl (fun _ => 0))) dX7_init_14 rfl ac_int rfl (fun C h => by cases h) (fun cA => rfl) (by decide) (by decide) (by decide) (by show _ ≤ 18; omega) (by show _ ≤ 235; omega) ?_
  rw [hL_push]
  show V l G yX7_init cX7_init 5 none (v_rm 2 18 235) (QV (hL h (TrL h.2 wd kp ru))) 2 7 16 [(0, .ref h.2), (1, .ref wd), (2, .ref kp), (3, .ref ru)] [.ref (h.2 + 2), .ref h.2] (hL h [.inr (6, [.null, .null, .null, .ref (h.2 + 1), .null, .int 0, .int 0, .int 0]), .inl (3, 4, .inr (.inr (.inr (.inr (fun _ => none))))), .inl (0, 3, .inl (fun _ => 0))])
  refine v_putF tyX7 tyX7_ok nmX7 dX7_init_16 rfl (ci := 6) (k := 4) rfl i_X7 (by decide) fl_X7_17 rfl rfl rfl (tyX7_ok 4 (by decide)) rfl rfl (by simp) hB (hL_at0 rfl) ?_
  rw [hL_up0 (by simp)]
  show V l G yX7_init cX7_init 5 none (v_rm 2 18 235) (QV (hL h (TrL h.2 wd kp ru))) 2 7 19 [(0, .ref h.2), (1, .ref wd), (2, .ref kp), (3, .ref ru)] [] (hL h [.inr (6, [.null, .null, .null, .ref (h.2 + 1), .ref (h.2 + 2), .int 0, .int 0, .int 0]), .inl (3, 4, .inr (.inr (.inr (.inr (fun _ => none))))), .inl (0, 3, .inl (fun _ => 0))])
  refine v_aload_n 0 dX7_init_19 rfl rfl ?_
  refine v_aload_n 1 dX7_init_20 rfl rfl ?_
  refine v_putF tyX7 tyX7_ok nmX7 dX7_init_21 rfl (ci := 6) (k := 0) rfl i_X7 (by decide) fl_X7_21 rfl rfl rfl (tyX7_ok 0 (by decide)) rfl rfl (by simp) hB (hL_at0 rfl) ?_
  rw [hL_up0 (by simp)]
  show V l G yX7_init cX7_init 5 none (v_rm 2 18 235) (QV (hL h (TrL h.2 wd kp ru))) 2 7 24 [(0, .ref h.2), (1, .ref wd), (2, .ref kp), (3, .ref ru)] [] (hL h [.inr (6, [.ref wd, .null, .null, .ref (h.2 + 1), .ref (h.2 + 2), .int 0, .int 0, .int 0]), .inl (3, 4, .inr (.inr (.inr (.inr (fun _ => none))))), .inl (0, 3, .inl (fun _ => 0))])
  refine v_aload_n 0 dX7_init_24 rfl rfl ?_
  refine v_aload_n 2 dX7_init_25 rfl rfl ?_
  refine v_putF tyX7 tyX7_ok nmX7 dX7_init_26 rfl (ci := 6) (k := 1) rfl i_X7 (by decide) fl_X7_25 rfl rfl rfl (tyX7_ok 1 (by decide)) rfl rfl (by simp) hB (hL_at0 rfl) ?_
  rw [hL_up0 (by simp)]
  show V l G yX7_init cX7_init 5 none (v_rm 2 18 235) (QV (hL h (TrL h.2 wd kp ru))) 2 7 29 [(0, .ref h.2), (1, .ref wd), (2, .ref kp), (3, .ref ru)] [] (hL h [.inr (6, [.ref wd, .ref kp, .null, .ref (h.2 + 1), .ref (h.2 + 2), .int 0, .int 0, .int 0]), .inl (3, 4, .inr (.inr (.inr (.inr (fun _ => none))))), .inl (0, 3, .inl (fun _ => 0))])
  refine v_aload_n 0 dX7_init_29 rfl rfl ?_
  refine v_aload_n 3 dX7_init_30 rfl rfl ?_
  refine v_putF tyX7 tyX7_ok nmX7 dX7_init_31 rfl (ci := 6) (k := 2) rfl i_X7 (by decide) fl_X7_28 rfl rfl rfl (tyX7_ok 2 (by decide)) rfl rfl (by simp) hB (hL_at0 rfl) ?_
  rw [hL_up0 (by simp)]
  show V l G yX7_init cX7_init 5 none (v_rm 2 18 235) (QV (hL h (TrL h.2 wd kp ru))) 2 7 34 [(0, .ref h.2), (1, .ref wd), (2, .ref kp), (3, .ref ru)] [] (hL h [.inr (6, [.ref wd, .ref kp, .ref ru, .ref (h.2 + 1), .ref (h.2 + 2), .int 0, .int 0, .int 0]), .inl (3, 4, .inr (.inr (.inr (.inr (fun _ => none))))), .inl (0, 3, .inl (fun _ => 0))])
  refine v_iconst dX7_init_34 (by decide : _ = (0 : Int32)) ?_
  refine v_istore dX7_init_35 (by decide) rfl ?_
  refine v_sub [0, 1] rfl ?_
  refine v_conv (h2 := hL h (T3 h.2 wd kp ru (stc (h.2 + 3) 0) ++ shs (h.2 + 3) 0)) (fun H hR => ?_) (T_loop hB 4 0 rfl)
  have e : stc (h.2 + 3) 0 = fun _ => none := by funext k; exact if_neg (by omega)
  rw [e]
  exact hR
