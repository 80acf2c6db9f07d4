def S00 : St := (fun f _ i => match f with
  | 400 => 20
  | 401 => -2
  | 408 => 281
  | 809 => -1
  | 1005 => -1
  | 1006 => -1
  | 1023 => 1
  | _ => 0, fun _ _ _ => 0, fun f _ _ => match f with
  | 110 => 1
  | 111 => 1
  | _ => 0, fun _ => none, 0)
def eqE (e1 e2 : va_E) : Prop := match e1, e2 with
  | .inl (t, x), .inl (t', x') => t = t' ∧ ∀ c : ClassId, vp_cell c x = vp_cell c x'
  | .inr a, .inr b => a = b
  | _, _ => False
theorem eqE_at {G : v_G} {H : Heap} {a : Nat} {e1 e2 : va_E} (h : eqE e1 e2) (h1 : va_at G.1 vwCl (a, v_E G e1) H) : va_at G.1 vwCl (a, v_E G e2) H := by
  match e1, e2, h, h1 with
  | .inl (t, x), .inl (t', x'), h, h1 =>
    obtain ⟨rfl, hx⟩ := h
    show H[a]? = some (vp_cell _ _)
    rw [← hx]
    exact h1
  | .inr a, .inr b, h, h1 =>
    have h : a = b := h
    subst h
    exact h1
  | .inl _, .inr _, h, _ => exact h.elim
  | .inr _, .inl _, h, _ => exact h.elim
theorem eq_sheets {c n : Nat} {f g : Nat → Option Nat} (h : ∀ i, i < n → f i = g i) : vp_cell c (n, .inr (.inr (.inr (.inr f)))) = vp_cell c (n, .inr (.inr (.inr (.inr g)))) := by
  rw [vp_cell_q, vp_cell_q]
  exact arrV_congr (fun i hi => by rw [h i hi])
theorem so_1 {i : Nat} (h : i < 30) : so (31 * 0 + 1 + i) = 10 + 4 * i := by
  unfold so
  rw [if_neg (by omega), if_pos (by omega)]
  omega
theorem so_2 {i : Nat} (h : i < 30) : so (31 * 1 + 1 + i) = 139 + 4 * i := by
  unfold so
  rw [if_neg (by omega), if_neg (by omega), if_neg (by omega), if_pos (by omega)]
  omega
theorem so_3 {i : Nat} (h : i < 4) : so (62 + i) = 264 + 4 * i := by
  unfold so
  rw [if_neg (by omega), if_neg (by omega), if_neg (by omega), if_neg (by omega)]
  omega
theorem st_now {G : v_G} (i : Nat) (h : i < 30) : stc (v_B G + 1 + 9) 30 i = some (v_B G + so (31 * 0 + 1 + i)) := by
  unfold stc
  rw [if_pos h, so_1 h]
  congr 1
  omega
theorem st_kept {G : v_G} (i : Nat) (h : i < 30) : stc (v_B G + 130 + 9) 30 i = some (v_B G + so (31 * 1 + 1 + i)) := by
  unfold stc
  rw [if_pos h, so_2 h]
  congr 1
  omega
theorem st_tries {G : v_G} (i : Nat) (h : i < 4) : stc (v_B G + 261 + 3) 4 i = some (v_B G + so (62 + i)) := by
  unfold stc
  rw [if_pos h, so_3 h]
  congr 1
  omega
def MoL (z : Nat) : List va_E := [.inr (9, [.ref (z + 1), .ref (z + 2), .ref (z + 3), .ref (z + 4), .int 0, .int (-1 : Int32), .int (-1 : Int32), .int 0, .int 0, .int 0, .int 0, .long 0, .int 0, .int 0, .int 0, .ref (z + 5), .int 0, .int 0, .int 0, .int 0, .ref (z + 6), .ref (z + 7), .ref (z + 8), .int (1 : Int32), .int 0, .ref (z + 9), .ref (z + 10), .ref (z + 11), .ref (z + 12)]), .inl (0, 3015, .inl (fun _ => 0)), .inl (0, 3015, .inl (fun _ => 0)), .inl (0, 2724, .inl (fun _ => 0)), .inl (0, 300, .inl (fun _ => 0)), .inl (0, 160, .inl (fun _ => 0)), .inl (0, 8, .inl (fun _ => 0)), .inl (1, 330, .inr (.inl (fun _ => 0))), .inl (2, 330, .inl (fun _ => 0)), .inl (0, 41, .inl (fun _ => 0)), .inl (0, 12, .inl (fun _ => 0)), .inl (0, 144, .inl (fun _ => 0)), .inl (0, 19, .inl (fun _ => 0))]
def hB0 (G : v_G) : v_H := (fun _ => none, v_B G)
def IL (G : v_G) : List va_E := ROL (v_B G) (v_tN G) ++ MoL (v_B G + 291)
theorem ap_get {α : Type} (X Y Z : List α) (n m : Nat) (hn : X.length = n) (hm : m < Y.length) : (X ++ (Y ++ Z))[n + m]? = Y[m]? := by
  subst hn
  rw [List.getElem?_append_right (by omega), Nat.add_sub_cancel_left, List.getElem?_append_left hm]
theorem shs_get (z : Nat) : ∀ (n i r : Nat), i < n → r < 4 → (shs z n)[4 * i + r]? = (shL (z + 4 * i))[r]?
  | 0, i, r, h, _ => absurd h (by omega)
  | n + 1, i, r, h, hr => by
    rw [shs_succ]
    by_cases hi : i < n
    · rw [List.getElem?_append_left (by rw [shs_len]; omega)]
      exact shs_get z n i r hi hr
    · have hin : i = n := by omega
      subst hin
      rw [List.getElem?_append_right (by rw [shs_len]; omega), shs_len, Nat.add_sub_cancel_left]
theorem W_sh (z i r : Nat) (hi : i < 30) (hr : r < 4) : (WL z)[9 + (4 * i + r)]? = (shL (z + 9 + 4 * i))[r]? := by
  unfold WL
  rw [List.getElem?_append_right (by show 9 ≤ _; omega)]
  show (shs (z + 9) 30)[9 + (4 * i + r) - 9]? = _
  rw [Nat.add_sub_cancel_left]
  exact shs_get _ 30 i r hi hr
theorem T_sh (z a b c i r : Nat) (hi : i < 4) (hr : r < 4) : (TrL z a b c)[3 + (4 * i + r)]? = (shL (z + 3 + 4 * i))[r]? := by
  unfold TrL
  rw [List.getElem?_append_right (by show 3 ≤ _; omega)]
  show (shs (z + 3) 4)[3 + (4 * i + r) - 3]? = _
  rw [Nat.add_sub_cancel_left]
  exact shs_get _ 4 i r hi hr
theorem W_9 (z m : Nat) (hm : m < 9) : (WL z)[m]? = (W9 z (stc (z + 9) 30))[m]? := by
  unfold WL
  rw [List.getElem?_append_left (by show m < 9; exact hm)]
theorem T_3 (z a b c m : Nat) (hm : m < 3) : (TrL z a b c)[m]? = (T3 z a b c (stc (z + 3) 4))[m]? := by
  unfold TrL
  rw [List.getElem?_append_left (by show m < 3; exact hm)]
def ro0 (G : v_G) : va_E := .inr (8, [.ref (v_B G + 1), .ref (v_B G + 130), .ref (v_B G + 259), .ref (v_B G + 261), .ref (v_B G + 280), .ref (v_B G + 283), .ref (v_B G + 288)])
theorem IL_eq {G : v_G} : IL G = [ro0 G] ++ (WL (v_B G + 1) ++ (WL (v_B G + 130) ++ (RuL (v_B G + 259) (v_B G + 1) (v_B G + 2) ++ (TrL (v_B G + 261) (v_B G + 1) (v_B G + 130) (v_B G + 259) ++ (ShL (v_B G + 280) ++ (TaL (v_B G + 283) ++ (ReL (v_B G + 288) (v_B G + 283) (v_tN G) ++ (MoL (v_B G + 291))))))))) := by
  unfold IL ROL ro0
  simp only [List.cons_append, List.append_assoc, List.nil_append]
theorem il_W0 {G : v_G} (m : Nat) (hm : m < 129) : (IL G)[1 + m]? = (WL (v_B G + 1))[m]? := by
  rw [IL_eq, show [ro0 G] ++ (WL (v_B G + 1) ++ (WL (v_B G + 130) ++ (RuL (v_B G + 259) (v_B G + 1) (v_B G + 2) ++ (TrL (v_B G + 261) (v_B G + 1) (v_B G + 130) (v_B G + 259) ++ (ShL (v_B G + 280) ++ (TaL (v_B G + 283) ++ (ReL (v_B G + 288) (v_B G + 283) (v_tN G) ++ (MoL (v_B G + 291))))))))) = ([ro0 G]) ++ (WL (v_B G + 1) ++ (WL (v_B G + 130) ++ (RuL (v_B G + 259) (v_B G + 1) (v_B G + 2) ++ (TrL (v_B G + 261) (v_B G + 1) (v_B G + 130) (v_B G + 259) ++ (ShL (v_B G + 280) ++ (TaL (v_B G + 283) ++ (ReL (v_B G + 288) (v_B G + 283) (v_tN G) ++ (MoL (v_B G + 291))))))))) from by simp only [List.append_assoc, List.append_nil]]
  exact ap_get _ _ _ 1 m (by simp only [List.length_cons, List.length_append, WL_len, TrL_len, List.length_nil, RuL, ShL, TaL, ReL, MoL]) (by simp only [List.length_cons, List.length_append, WL_len, TrL_len, List.length_nil, RuL, ShL, TaL, ReL, MoL]; exact hm)
theorem il_W1 {G : v_G} (m : Nat) (hm : m < 129) : (IL G)[130 + m]? = (WL (v_B G + 130))[m]? := by
  rw [IL_eq, show [ro0 G] ++ (WL (v_B G + 1) ++ (WL (v_B G + 130) ++ (RuL (v_B G + 259) (v_B G + 1) (v_B G + 2) ++ (TrL (v_B G + 261) (v_B G + 1) (v_B G + 130) (v_B G + 259) ++ (ShL (v_B G + 280) ++ (TaL (v_B G + 283) ++ (ReL (v_B G + 288) (v_B G + 283) (v_tN G) ++ (MoL (v_B G + 291))))))))) = ([ro0 G] ++ WL (v_B G + 1)) ++ (WL (v_B G + 130) ++ (RuL (v_B G + 259) (v_B G + 1) (v_B G + 2) ++ (TrL (v_B G + 261) (v_B G + 1) (v_B G + 130) (v_B G + 259) ++ (ShL (v_B G + 280) ++ (TaL (v_B G + 283) ++ (ReL (v_B G + 288) (v_B G + 283) (v_tN G) ++ (MoL (v_B G + 291)))))))) from by simp only [List.append_assoc, List.append_nil]]
  exact ap_get _ _ _ 130 m (by simp only [List.length_cons, List.length_append, WL_len, TrL_len, List.length_nil, RuL, ShL, TaL, ReL, MoL]) (by simp only [List.length_cons, List.length_append, WL_len, TrL_len, List.length_nil, RuL, ShL, TaL, ReL, MoL]; exact hm)
theorem il_R {G : v_G} (m : Nat) (hm : m < 2) : (IL G)[259 + m]? = (RuL (v_B G + 259) (v_B G + 1) (v_B G + 2))[m]? := by
  rw [IL_eq, show [ro0 G] ++ (WL (v_B G + 1) ++ (WL (v_B G + 130) ++ (RuL (v_B G + 259) (v_B G + 1) (v_B G + 2) ++ (TrL (v_B G + 261) (v_B G + 1) (v_B G + 130) (v_B G + 259) ++ (ShL (v_B G + 280) ++ (TaL (v_B G + 283) ++ (ReL (v_B G + 288) (v_B G + 283) (v_tN G) ++ (MoL (v_B G + 291))))))))) = ([ro0 G] ++ WL (v_B G + 1) ++ WL (v_B G + 130)) ++ (RuL (v_B G + 259) (v_B G + 1) (v_B G + 2) ++ (TrL (v_B G + 261) (v_B G + 1) (v_B G + 130) (v_B G + 259) ++ (ShL (v_B G + 280) ++ (TaL (v_B G + 283) ++ (ReL (v_B G + 288) (v_B G + 283) (v_tN G) ++ (MoL (v_B G + 291))))))) from by simp only [List.append_assoc, List.append_nil]]
  exact ap_get _ _ _ 259 m (by simp only [List.length_cons, List.length_append, WL_len, TrL_len, List.length_nil, RuL, ShL, TaL, ReL, MoL]) (by simp only [List.length_cons, List.length_append, WL_len, TrL_len, List.length_nil, RuL, ShL, TaL, ReL, MoL]; exact hm)
theorem il_T {G : v_G} (m : Nat) (hm : m < 19) : (IL G)[261 + m]? = (TrL (v_B G + 261) (v_B G + 1) (v_B G + 130) (v_B G + 259))[m]? := by
  rw [IL_eq, show [ro0 G] ++ (WL (v_B G + 1) ++ (WL (v_B G + 130) ++ (RuL (v_B G + 259) (v_B G + 1) (v_B G + 2) ++ (TrL (v_B G + 261) (v_B G + 1) (v_B G + 130) (v_B G + 259) ++ (ShL (v_B G + 280) ++ (TaL (v_B G + 283) ++ (ReL (v_B G + 288) (v_B G + 283) (v_tN G) ++ (MoL (v_B G + 291))))))))) = ([ro0 G] ++ WL (v_B G + 1) ++ WL (v_B G + 130) ++ RuL (v_B G + 259) (v_B G + 1) (v_B G + 2)) ++ (TrL (v_B G + 261) (v_B G + 1) (v_B G + 130) (v_B G + 259) ++ (ShL (v_B G + 280) ++ (TaL (v_B G + 283) ++ (ReL (v_B G + 288) (v_B G + 283) (v_tN G) ++ (MoL (v_B G + 291)))))) from by simp only [List.append_assoc, List.append_nil]]
  exact ap_get _ _ _ 261 m (by simp only [List.length_cons, List.length_append, WL_len, TrL_len, List.length_nil, RuL, ShL, TaL, ReL, MoL]) (by simp only [List.length_cons, List.length_append, WL_len, TrL_len, List.length_nil, RuL, ShL, TaL, ReL, MoL]; exact hm)
theorem il_S {G : v_G} (m : Nat) (hm : m < 3) : (IL G)[280 + m]? = (ShL (v_B G + 280))[m]? := by
  rw [IL_eq, show [ro0 G] ++ (WL (v_B G + 1) ++ (WL (v_B G + 130) ++ (RuL (v_B G + 259) (v_B G + 1) (v_B G + 2) ++ (TrL (v_B G + 261) (v_B G + 1) (v_B G + 130) (v_B G + 259) ++ (ShL (v_B G + 280) ++ (TaL (v_B G + 283) ++ (ReL (v_B G + 288) (v_B G + 283) (v_tN G) ++ (MoL (v_B G + 291))))))))) = ([ro0 G] ++ WL (v_B G + 1) ++ WL (v_B G + 130) ++ RuL (v_B G + 259) (v_B G + 1) (v_B G + 2) ++ TrL (v_B G + 261) (v_B G + 1) (v_B G + 130) (v_B G + 259)) ++ (ShL (v_B G + 280) ++ (TaL (v_B G + 283) ++ (ReL (v_B G + 288) (v_B G + 283) (v_tN G) ++ (MoL (v_B G + 291))))) from by simp only [List.append_assoc, List.append_nil]]
  exact ap_get _ _ _ 280 m (by simp only [List.length_cons, List.length_append, WL_len, TrL_len, List.length_nil, RuL, ShL, TaL, ReL, MoL]) (by simp only [List.length_cons, List.length_append, WL_len, TrL_len, List.length_nil, RuL, ShL, TaL, ReL, MoL]; exact hm)
theorem il_Ta {G : v_G} (m : Nat) (hm : m < 5) : (IL G)[283 + m]? = (TaL (v_B G + 283))[m]? := by
  rw [IL_eq, show [ro0 G] ++ (WL (v_B G + 1) ++ (WL (v_B G + 130) ++ (RuL (v_B G + 259) (v_B G + 1) (v_B G + 2) ++ (TrL (v_B G + 261) (v_B G + 1) (v_B G + 130) (v_B G + 259) ++ (ShL (v_B G + 280) ++ (TaL (v_B G + 283) ++ (ReL (v_B G + 288) (v_B G + 283) (v_tN G) ++ (MoL (v_B G + 291))))))))) = ([ro0 G] ++ WL (v_B G + 1) ++ WL (v_B G + 130) ++ RuL (v_B G + 259) (v_B G + 1) (v_B G + 2) ++ TrL (v_B G + 261) (v_B G + 1) (v_B G + 130) (v_B G + 259) ++ ShL (v_B G + 280)) ++ (TaL (v_B G + 283) ++ (ReL (v_B G + 288) (v_B G + 283) (v_tN G) ++ (MoL (v_B G + 291)))) from by simp only [List.append_assoc, List.append_nil]]
  exact ap_get _ _ _ 283 m (by simp only [List.length_cons, List.length_append, WL_len, TrL_len, List.length_nil, RuL, ShL, TaL, ReL, MoL]) (by simp only [List.length_cons, List.length_append, WL_len, TrL_len, List.length_nil, RuL, ShL, TaL, ReL, MoL]; exact hm)
theorem il_Re {G : v_G} (m : Nat) (hm : m < 3) : (IL G)[288 + m]? = (ReL (v_B G + 288) (v_B G + 283) (v_tN G))[m]? := by
  rw [IL_eq, show [ro0 G] ++ (WL (v_B G + 1) ++ (WL (v_B G + 130) ++ (RuL (v_B G + 259) (v_B G + 1) (v_B G + 2) ++ (TrL (v_B G + 261) (v_B G + 1) (v_B G + 130) (v_B G + 259) ++ (ShL (v_B G + 280) ++ (TaL (v_B G + 283) ++ (ReL (v_B G + 288) (v_B G + 283) (v_tN G) ++ (MoL (v_B G + 291))))))))) = ([ro0 G] ++ WL (v_B G + 1) ++ WL (v_B G + 130) ++ RuL (v_B G + 259) (v_B G + 1) (v_B G + 2) ++ TrL (v_B G + 261) (v_B G + 1) (v_B G + 130) (v_B G + 259) ++ ShL (v_B G + 280) ++ TaL (v_B G + 283)) ++ (ReL (v_B G + 288) (v_B G + 283) (v_tN G) ++ (MoL (v_B G + 291))) from by simp only [List.append_assoc, List.append_nil]]
  exact ap_get _ _ _ 288 m (by simp only [List.length_cons, List.length_append, WL_len, TrL_len, List.length_nil, RuL, ShL, TaL, ReL, MoL]) (by simp only [List.length_cons, List.length_append, WL_len, TrL_len, List.length_nil, RuL, ShL, TaL, ReL, MoL]; exact hm)
theorem il_Mo {G : v_G} (m : Nat) (hm : m < 13) : (IL G)[291 + m]? = (MoL (v_B G + 291))[m]? := by
  rw [IL_eq, show [ro0 G] ++ (WL (v_B G + 1) ++ (WL (v_B G + 130) ++ (RuL (v_B G + 259) (v_B G + 1) (v_B G + 2) ++ (TrL (v_B G + 261) (v_B G + 1) (v_B G + 130) (v_B G + 259) ++ (ShL (v_B G + 280) ++ (TaL (v_B G + 283) ++ (ReL (v_B G + 288) (v_B G + 283) (v_tN G) ++ (MoL (v_B G + 291))))))))) = ([ro0 G] ++ WL (v_B G + 1) ++ WL (v_B G + 130) ++ RuL (v_B G + 259) (v_B G + 1) (v_B G + 2) ++ TrL (v_B G + 261) (v_B G + 1) (v_B G + 130) (v_B G + 259) ++ ShL (v_B G + 280) ++ TaL (v_B G + 283) ++ ReL (v_B G + 288) (v_B G + 283) (v_tN G)) ++ (MoL (v_B G + 291) ++ ([])) from by simp only [List.append_assoc, List.append_nil]]
  exact ap_get _ _ _ 291 m (by simp only [List.length_cons, List.length_append, WL_len, TrL_len, List.length_nil, RuL, ShL, TaL, ReL, MoL]) (by simp only [List.length_cons, List.length_append, WL_len, TrL_len, List.length_nil, RuL, ShL, TaL, ReL, MoL]; exact hm)
def PE (G : v_G) (kd j : Nat) : Prop := ∃ e1 : va_E, (IL G)[enc kd j]? = some e1 ∧ eqE e1 (ent G S00 kd j)
theorem sh_ent {G : v_G} {j z : Nat} (hz : z = v_B G + so j) : shL z = [ent G S00 2 j, ent G S00 3 j, ent G S00 4 j, ent G S00 5 j] := by
  subst hz
  rfl
theorem eqE_rf (e : va_E) : eqE e e := by
  match e with
  | .inl (t, x) => exact ⟨rfl, fun _ => rfl⟩
  | .inr a => exact rfl
theorem PE_of {G : v_G} {kd j k : Nat} {X : List va_E} {m : Nat} (hk : enc kd j = k) (h1 : (IL G)[k]? = X[m]?) (h2 : X[m]? = some (ent G S00 kd j)) : PE G kd j := ⟨_, by rw [hk, h1, h2], eqE_rf _⟩
theorem so_a {j : Nat} (h0 : 0 < j) (h : j < 31) : so j = 10 + 4 * (j - 1) := by
  unfold so
  rw [if_neg (by omega), if_pos h]
  omega
theorem so_b {j : Nat} (h0 : 31 < j) (h : j < 62) : so j = 139 + 4 * (j - 32) := by
  unfold so
  rw [if_neg (by omega), if_neg (by omega), if_neg (by omega), if_pos h]
  omega
theorem so_c {j : Nat} (h0 : 62 ≤ j) (h : j < 66) : so j = 264 + 4 * (j - 62) := by
  unfold so
  rw [if_neg (by omega), if_neg (by omega), if_neg (by omega), if_neg (by omega)]
  omega
/-- the cell r of sheet j -/
theorem PE_sheet {G : v_G} {j r : Nat} (hj : j < 66) (hr : r < 4) : (IL G)[so j + r]? = [ent G S00 2 j, ent G S00 3 j, ent G S00 4 j, ent G S00 5 j][r]? := by
  by_cases h0 : j = 0
  · subst h0
    have := il_W0 (G := G) (1 + r) (by omega)
    rw [show so 0 + r = 1 + (1 + r) from by show 2 + r = _; omega, this, W_9 _ _ (by omega)]
    match r, hr with
    | 0, _ => rfl
    | 1, _ => rfl
    | 2, _ => rfl
    | 3, _ => rfl
  by_cases h1 : j < 31
  · have e := so_a (by omega) h1
    rw [← sh_ent (G := G) (j := j) (z := v_B G + 1 + 9 + 4 * (j - 1)) (by rw [e]; omega), e]
    rw [show 10 + 4 * (j - 1) + r = 1 + (9 + (4 * (j - 1) + r)) from by omega, il_W0 _ (by omega), W_sh _ _ _ (by omega) hr]
  by_cases h2 : j = 31
  · subst h2
    have := il_W1 (G := G) (1 + r) (by omega)
    rw [show so 31 + r = 130 + (1 + r) from by show 131 + r = _; omega, this, W_9 _ _ (by omega)]
    match r, hr with
    | 0, _ => rfl
    | 1, _ => rfl
    | 2, _ => rfl
    | 3, _ => rfl
  by_cases h3 : j < 62
  · have e := so_b (by omega) h3
    rw [← sh_ent (G := G) (j := j) (z := v_B G + 130 + 9 + 4 * (j - 32)) (by rw [e]; omega), e]
    rw [show 139 + 4 * (j - 32) + r = 130 + (9 + (4 * (j - 32) + r)) from by omega, il_W1 _ (by omega), W_sh _ _ _ (by omega) hr]
  · have e := so_c (by omega) hj
    rw [← sh_ent (G := G) (j := j) (z := v_B G + 261 + 3 + 4 * (j - 62)) (by rw [e]; omega), e]
    rw [show 264 + 4 * (j - 62) + r = 261 + (3 + (4 * (j - 62) + r)) from by omega, il_T _ (by omega), T_sh _ _ _ _ _ _ (by omega) hr]
set_option maxRecDepth 100000 in
theorem PE_0_0 {G : v_G} : PE G 0 0 := ⟨_, (by rw [IL_eq]; rfl : (IL G)[enc 0 0]? = some (ro0 G)), rfl⟩
set_option maxRecDepth 100000 in
theorem PE_0 {G : v_G} {j : Nat} (hj : j < 1) : PE G 0 j := by
  have : j = 0 := by omega
  subst this
  exact PE_0_0
set_option maxRecDepth 100000 in
theorem PE_1_0 {G : v_G} : PE G 1 0 := ⟨_, (((il_W0 0 (by decide)).trans (W_9 _ 0 (by decide))) : (IL G)[enc 1 0]? = _).trans rfl, rfl⟩
set_option maxRecDepth 100000 in
theorem PE_1_1 {G : v_G} : PE G 1 1 := ⟨_, (((il_W1 0 (by decide)).trans (W_9 _ 0 (by decide))) : (IL G)[enc 1 1]? = _).trans rfl, rfl⟩
set_option maxRecDepth 100000 in
theorem PE_1 {G : v_G} {j : Nat} (hj : j < 2) : PE G 1 j := by
  match j, hj with
  | 0, _ => exact PE_1_0
  | 1, _ => exact PE_1_1
set_option maxRecDepth 100000 in
theorem PE_2 {G : v_G} {j : Nat} (hj : j < 66) : PE G 2 j := PE_of (m := 0) (X := [ent G S00 2 j, ent G S00 3 j, ent G S00 4 j, ent G S00 5 j]) rfl (PE_sheet (r := 0) hj (by decide)) rfl
set_option maxRecDepth 100000 in
theorem PE_3 {G : v_G} {j : Nat} (hj : j < 66) : PE G 3 j := PE_of (m := 1) (X := [ent G S00 2 j, ent G S00 3 j, ent G S00 4 j, ent G S00 5 j]) rfl (PE_sheet (r := 1) hj (by decide)) rfl
set_option maxRecDepth 100000 in
theorem PE_4 {G : v_G} {j : Nat} (hj : j < 66) : PE G 4 j := PE_of (m := 2) (X := [ent G S00 2 j, ent G S00 3 j, ent G S00 4 j, ent G S00 5 j]) rfl (PE_sheet (r := 2) hj (by decide)) rfl
set_option maxRecDepth 100000 in
theorem PE_5 {G : v_G} {j : Nat} (hj : j < 66) : PE G 5 j := PE_of (m := 3) (X := [ent G S00 2 j, ent G S00 3 j, ent G S00 4 j, ent G S00 5 j]) rfl (PE_sheet (r := 3) hj (by decide)) rfl
set_option maxRecDepth 100000 in
theorem PE_6_0 {G : v_G} : PE G 6 0 := ⟨_, (((il_W0 5 (by decide)).trans (W_9 _ 5 (by decide))) : (IL G)[enc 6 0]? = _).trans rfl, ⟨rfl, fun c => eq_sheets (fun i hi => st_now i hi)⟩⟩
set_option maxRecDepth 100000 in
theorem PE_6_1 {G : v_G} : PE G 6 1 := ⟨_, (((il_W1 5 (by decide)).trans (W_9 _ 5 (by decide))) : (IL G)[enc 6 1]? = _).trans rfl, ⟨rfl, fun c => eq_sheets (fun i hi => st_kept i hi)⟩⟩
set_option maxRecDepth 100000 in
theorem PE_6 {G : v_G} {j : Nat} (hj : j < 2) : PE G 6 j := by
  match j, hj with
  | 0, _ => exact PE_6_0
  | 1, _ => exact PE_6_1
set_option maxRecDepth 100000 in
theorem PE_7_0 {G : v_G} : PE G 7 0 := ⟨_, (((il_W0 6 (by decide)).trans (W_9 _ 6 (by decide))) : (IL G)[enc 7 0]? = _).trans rfl, ⟨rfl, fun c => rfl⟩⟩
set_option maxRecDepth 100000 in
theorem PE_7_1 {G : v_G} : PE G 7 1 := ⟨_, (((il_W1 6 (by decide)).trans (W_9 _ 6 (by decide))) : (IL G)[enc 7 1]? = _).trans rfl, ⟨rfl, fun c => rfl⟩⟩
set_option maxRecDepth 100000 in
theorem PE_7 {G : v_G} {j : Nat} (hj : j < 2) : PE G 7 j := by
  match j, hj with
  | 0, _ => exact PE_7_0
  | 1, _ => exact PE_7_1
set_option maxRecDepth 100000 in
theorem PE_8_0 {G : v_G} : PE G 8 0 := ⟨_, (((il_W0 7 (by decide)).trans (W_9 _ 7 (by decide))) : (IL G)[enc 8 0]? = _).trans rfl, ⟨rfl, fun c => rfl⟩⟩
set_option maxRecDepth 100000 in
theorem PE_8_1 {G : v_G} : PE G 8 1 := ⟨_, (((il_W1 7 (by decide)).trans (W_9 _ 7 (by decide))) : (IL G)[enc 8 1]? = _).trans rfl, ⟨rfl, fun c => rfl⟩⟩
set_option maxRecDepth 100000 in
theorem PE_8 {G : v_G} {j : Nat} (hj : j < 2) : PE G 8 j := by
  match j, hj with
  | 0, _ => exact PE_8_0
  | 1, _ => exact PE_8_1
set_option maxRecDepth 100000 in
theorem PE_9_0 {G : v_G} : PE G 9 0 := ⟨_, (((il_W0 8 (by decide)).trans (W_9 _ 8 (by decide))) : (IL G)[enc 9 0]? = _).trans rfl, ⟨rfl, fun c => rfl⟩⟩
set_option maxRecDepth 100000 in
theorem PE_9_1 {G : v_G} : PE G 9 1 := ⟨_, (((il_W1 8 (by decide)).trans (W_9 _ 8 (by decide))) : (IL G)[enc 9 1]? = _).trans rfl, ⟨rfl, fun c => rfl⟩⟩
set_option maxRecDepth 100000 in
theorem PE_9 {G : v_G} {j : Nat} (hj : j < 2) : PE G 9 j := by
  match j, hj with
  | 0, _ => exact PE_9_0
  | 1, _ => exact PE_9_1
set_option maxRecDepth 100000 in
theorem PE_10_0 {G : v_G} : PE G 10 0 := ⟨_, ((il_R 0 (by decide)) : (IL G)[enc 10 0]? = _).trans rfl, rfl⟩
set_option maxRecDepth 100000 in
theorem PE_10 {G : v_G} {j : Nat} (hj : j < 1) : PE G 10 j := by
  have : j = 0 := by omega
  subst this
  exact PE_10_0
set_option maxRecDepth 100000 in
theorem PE_11_0 {G : v_G} : PE G 11 0 := ⟨_, ((il_R 1 (by decide)) : (IL G)[enc 11 0]? = _).trans rfl, ⟨rfl, fun c => rfl⟩⟩
set_option maxRecDepth 100000 in
theorem PE_11 {G : v_G} {j : Nat} (hj : j < 1) : PE G 11 j := by
  have : j = 0 := by omega
  subst this
  exact PE_11_0
set_option maxRecDepth 100000 in
theorem PE_12_0 {G : v_G} : PE G 12 0 := ⟨_, (((il_T 0 (by decide)).trans (T_3 _ _ _ _ 0 (by decide))) : (IL G)[enc 12 0]? = _).trans rfl, rfl⟩
set_option maxRecDepth 100000 in
theorem PE_12 {G : v_G} {j : Nat} (hj : j < 1) : PE G 12 j := by
  have : j = 0 := by omega
  subst this
  exact PE_12_0
set_option maxRecDepth 100000 in
theorem PE_13_0 {G : v_G} : PE G 13 0 := ⟨_, (((il_T 1 (by decide)).trans (T_3 _ _ _ _ 1 (by decide))) : (IL G)[enc 13 0]? = _).trans rfl, ⟨rfl, fun c => eq_sheets (fun i hi => st_tries i hi)⟩⟩
set_option maxRecDepth 100000 in
theorem PE_13 {G : v_G} {j : Nat} (hj : j < 1) : PE G 13 j := by
  have : j = 0 := by omega
  subst this
  exact PE_13_0
set_option maxRecDepth 100000 in
theorem PE_14_0 {G : v_G} : PE G 14 0 := ⟨_, (((il_T 2 (by decide)).trans (T_3 _ _ _ _ 2 (by decide))) : (IL G)[enc 14 0]? = _).trans rfl, ⟨rfl, fun c => rfl⟩⟩
set_option maxRecDepth 100000 in
theorem PE_14 {G : v_G} {j : Nat} (hj : j < 1) : PE G 14 j := by
  have : j = 0 := by omega
  subst this
  exact PE_14_0
set_option maxRecDepth 100000 in
theorem PE_15_0 {G : v_G} : PE G 15 0 := ⟨_, ((il_S 0 (by decide)) : (IL G)[enc 15 0]? = _).trans rfl, rfl⟩
set_option maxRecDepth 100000 in
theorem PE_15 {G : v_G} {j : Nat} (hj : j < 1) : PE G 15 j := by
  have : j = 0 := by omega
  subst this
  exact PE_15_0
set_option maxRecDepth 100000 in
theorem PE_16_0 {G : v_G} : PE G 16 0 := ⟨_, ((il_S 1 (by decide)) : (IL G)[enc 16 0]? = _).trans rfl, ⟨rfl, fun c => rfl⟩⟩
set_option maxRecDepth 100000 in
theorem PE_16 {G : v_G} {j : Nat} (hj : j < 1) : PE G 16 j := by
  have : j = 0 := by omega
  subst this
  exact PE_16_0
set_option maxRecDepth 100000 in
theorem PE_17_0 {G : v_G} : PE G 17 0 := ⟨_, ((il_S 2 (by decide)) : (IL G)[enc 17 0]? = _).trans rfl, ⟨rfl, fun c => rfl⟩⟩
set_option maxRecDepth 100000 in
theorem PE_17 {G : v_G} {j : Nat} (hj : j < 1) : PE G 17 j := by
  have : j = 0 := by omega
  subst this
  exact PE_17_0
set_option maxRecDepth 100000 in
theorem PE_18_0 {G : v_G} : PE G 18 0 := ⟨_, ((il_Ta 0 (by decide)) : (IL G)[enc 18 0]? = _).trans rfl, rfl⟩
set_option maxRecDepth 100000 in
theorem PE_18 {G : v_G} {j : Nat} (hj : j < 1) : PE G 18 j := by
  have : j = 0 := by omega
  subst this
  exact PE_18_0
set_option maxRecDepth 100000 in
theorem PE_19_0 {G : v_G} : PE G 19 0 := ⟨_, ((il_Ta 1 (by decide)) : (IL G)[enc 19 0]? = _).trans rfl, ⟨rfl, fun c => rfl⟩⟩
set_option maxRecDepth 100000 in
theorem PE_19 {G : v_G} {j : Nat} (hj : j < 1) : PE G 19 j := by
  have : j = 0 := by omega
  subst this
  exact PE_19_0
set_option maxRecDepth 100000 in
theorem PE_20_0 {G : v_G} : PE G 20 0 := ⟨_, ((il_Ta 2 (by decide)) : (IL G)[enc 20 0]? = _).trans rfl, ⟨rfl, fun c => rfl⟩⟩
set_option maxRecDepth 100000 in
theorem PE_20 {G : v_G} {j : Nat} (hj : j < 1) : PE G 20 j := by
  have : j = 0 := by omega
  subst this
  exact PE_20_0
set_option maxRecDepth 100000 in
theorem PE_21_0 {G : v_G} : PE G 21 0 := ⟨_, ((il_Ta 3 (by decide)) : (IL G)[enc 21 0]? = _).trans rfl, ⟨rfl, fun c => rfl⟩⟩
set_option maxRecDepth 100000 in
theorem PE_21 {G : v_G} {j : Nat} (hj : j < 1) : PE G 21 j := by
  have : j = 0 := by omega
  subst this
  exact PE_21_0
set_option maxRecDepth 100000 in
theorem PE_22_0 {G : v_G} : PE G 22 0 := ⟨_, ((il_Ta 4 (by decide)) : (IL G)[enc 22 0]? = _).trans rfl, ⟨rfl, fun c => rfl⟩⟩
set_option maxRecDepth 100000 in
theorem PE_22 {G : v_G} {j : Nat} (hj : j < 1) : PE G 22 j := by
  have : j = 0 := by omega
  subst this
  exact PE_22_0
set_option maxRecDepth 100000 in
theorem PE_23_0 {G : v_G} : PE G 23 0 := ⟨_, ((il_Re 0 (by decide)) : (IL G)[enc 23 0]? = _).trans rfl, rfl⟩
set_option maxRecDepth 100000 in
theorem PE_23 {G : v_G} {j : Nat} (hj : j < 1) : PE G 23 j := by
  have : j = 0 := by omega
  subst this
  exact PE_23_0
set_option maxRecDepth 100000 in
theorem PE_24_0 {G : v_G} : PE G 24 0 := ⟨_, ((il_Re 1 (by decide)) : (IL G)[enc 24 0]? = _).trans rfl, ⟨rfl, fun c => rfl⟩⟩
set_option maxRecDepth 100000 in
theorem PE_24 {G : v_G} {j : Nat} (hj : j < 1) : PE G 24 j := by
  have : j = 0 := by omega
  subst this
  exact PE_24_0
set_option maxRecDepth 100000 in
theorem PE_25_0 {G : v_G} : PE G 25 0 := ⟨_, ((il_Re 2 (by decide)) : (IL G)[enc 25 0]? = _).trans rfl, ⟨rfl, fun c => rfl⟩⟩
set_option maxRecDepth 100000 in
theorem PE_25 {G : v_G} {j : Nat} (hj : j < 1) : PE G 25 j := by
  have : j = 0 := by omega
  subst this
  exact PE_25_0
set_option maxRecDepth 100000 in
theorem PE_26_0 {G : v_G} : PE G 26 0 := ⟨_, ((il_Mo 0 (by decide)) : (IL G)[enc 26 0]? = _).trans rfl, rfl⟩
set_option maxRecDepth 100000 in
theorem PE_26 {G : v_G} {j : Nat} (hj : j < 1) : PE G 26 j := by
  have : j = 0 := by omega
  subst this
  exact PE_26_0
set_option maxRecDepth 100000 in
theorem PE_27_0 {G : v_G} : PE G 27 0 := ⟨_, ((il_Mo 1 (by decide)) : (IL G)[enc 27 0]? = _).trans rfl, ⟨rfl, fun c => rfl⟩⟩
set_option maxRecDepth 100000 in
theorem PE_27 {G : v_G} {j : Nat} (hj : j < 1) : PE G 27 j := by
  have : j = 0 := by omega
  subst this
  exact PE_27_0
set_option maxRecDepth 100000 in
theorem PE_28_0 {G : v_G} : PE G 28 0 := ⟨_, ((il_Mo 2 (by decide)) : (IL G)[enc 28 0]? = _).trans rfl, ⟨rfl, fun c => rfl⟩⟩
set_option maxRecDepth 100000 in
theorem PE_28 {G : v_G} {j : Nat} (hj : j < 1) : PE G 28 j := by
  have : j = 0 := by omega
  subst this
  exact PE_28_0
set_option maxRecDepth 100000 in
theorem PE_29_0 {G : v_G} : PE G 29 0 := ⟨_, ((il_Mo 3 (by decide)) : (IL G)[enc 29 0]? = _).trans rfl, ⟨rfl, fun c => rfl⟩⟩
set_option maxRecDepth 100000 in
theorem PE_29 {G : v_G} {j : Nat} (hj : j < 1) : PE G 29 j := by
  have : j = 0 := by omega
  subst this
  exact PE_29_0
set_option maxRecDepth 100000 in
theorem PE_30_0 {G : v_G} : PE G 30 0 := ⟨_, ((il_Mo 4 (by decide)) : (IL G)[enc 30 0]? = _).trans rfl, ⟨rfl, fun c => rfl⟩⟩
set_option maxRecDepth 100000 in
theorem PE_30 {G : v_G} {j : Nat} (hj : j < 1) : PE G 30 j := by
  have : j = 0 := by omega
  subst this
  exact PE_30_0
set_option maxRecDepth 100000 in
theorem PE_31_0 {G : v_G} : PE G 31 0 := ⟨_, ((il_Mo 5 (by decide)) : (IL G)[enc 31 0]? = _).trans rfl, ⟨rfl, fun c => rfl⟩⟩
set_option maxRecDepth 100000 in
theorem PE_31 {G : v_G} {j : Nat} (hj : j < 1) : PE G 31 j := by
  have : j = 0 := by omega
  subst this
  exact PE_31_0
set_option maxRecDepth 100000 in
theorem PE_32_0 {G : v_G} : PE G 32 0 := ⟨_, ((il_Mo 6 (by decide)) : (IL G)[enc 32 0]? = _).trans rfl, ⟨rfl, fun c => rfl⟩⟩
set_option maxRecDepth 100000 in
theorem PE_32 {G : v_G} {j : Nat} (hj : j < 1) : PE G 32 j := by
  have : j = 0 := by omega
  subst this
  exact PE_32_0
set_option maxRecDepth 100000 in
theorem PE_33_0 {G : v_G} : PE G 33 0 := ⟨_, ((il_Mo 7 (by decide)) : (IL G)[enc 33 0]? = _).trans rfl, ⟨rfl, fun c => rfl⟩⟩
set_option maxRecDepth 100000 in
theorem PE_33 {G : v_G} {j : Nat} (hj : j < 1) : PE G 33 j := by
  have : j = 0 := by omega
  subst this
  exact PE_33_0
set_option maxRecDepth 100000 in
theorem PE_34_0 {G : v_G} : PE G 34 0 := ⟨_, ((il_Mo 8 (by decide)) : (IL G)[enc 34 0]? = _).trans rfl, ⟨rfl, fun c => rfl⟩⟩
set_option maxRecDepth 100000 in
theorem PE_34 {G : v_G} {j : Nat} (hj : j < 1) : PE G 34 j := by
  have : j = 0 := by omega
  subst this
  exact PE_34_0
set_option maxRecDepth 100000 in
theorem PE_35_0 {G : v_G} : PE G 35 0 := ⟨_, ((il_Mo 9 (by decide)) : (IL G)[enc 35 0]? = _).trans rfl, ⟨rfl, fun c => rfl⟩⟩
set_option maxRecDepth 100000 in
theorem PE_35 {G : v_G} {j : Nat} (hj : j < 1) : PE G 35 j := by
  have : j = 0 := by omega
  subst this
  exact PE_35_0
set_option maxRecDepth 100000 in
theorem PE_36_0 {G : v_G} : PE G 36 0 := ⟨_, ((il_Mo 10 (by decide)) : (IL G)[enc 36 0]? = _).trans rfl, ⟨rfl, fun c => rfl⟩⟩
set_option maxRecDepth 100000 in
theorem PE_36 {G : v_G} {j : Nat} (hj : j < 1) : PE G 36 j := by
  have : j = 0 := by omega
  subst this
  exact PE_36_0
set_option maxRecDepth 100000 in
theorem PE_37_0 {G : v_G} : PE G 37 0 := ⟨_, ((il_Mo 11 (by decide)) : (IL G)[enc 37 0]? = _).trans rfl, ⟨rfl, fun c => rfl⟩⟩
set_option maxRecDepth 100000 in
theorem PE_37 {G : v_G} {j : Nat} (hj : j < 1) : PE G 37 j := by
  have : j = 0 := by omega
  subst this
  exact PE_37_0
set_option maxRecDepth 100000 in
theorem PE_38_0 {G : v_G} : PE G 38 0 := ⟨_, ((il_Mo 12 (by decide)) : (IL G)[enc 38 0]? = _).trans rfl, ⟨rfl, fun c => rfl⟩⟩
set_option maxRecDepth 100000 in
theorem PE_38 {G : v_G} {j : Nat} (hj : j < 1) : PE G 38 j := by
  have : j = 0 := by omega
  subst this
  exact PE_38_0
def cnt (kd : Nat) : Nat := match kd with
  | 0 => 1
  | 1 => 2
  | 2 => 66
  | 3 => 66
  | 4 => 66
  | 5 => 66
  | 6 => 2
  | 7 => 2
  | 8 => 2
  | 9 => 2
  | 10 => 1
  | 11 => 1
  | 12 => 1
  | 13 => 1
  | 14 => 1
  | 15 => 1
  | 16 => 1
  | 17 => 1
  | 18 => 1
  | 19 => 1
  | 20 => 1
  | 21 => 1
  | 22 => 1
  | 23 => 1
  | 24 => 1
  | 25 => 1
  | 26 => 1
  | 27 => 1
  | 28 => 1
  | 29 => 1
  | 30 => 1
  | 31 => 1
  | 32 => 1
  | 33 => 1
  | 34 => 1
  | 35 => 1
  | 36 => 1
  | 37 => 1
  | 38 => 1
  | _ => 0
theorem lk_cnt : ∀ k, k < 304 → ∃ q, lkL[k]? = some q ∧ enc q.1 q.2 = k ∧ q.2 < cnt q.1 := by decide +kernel
theorem PE_all {G : v_G} {kd j : Nat} (h : j < cnt kd) : PE G kd j := by
  match kd, h with
  | 0, h => exact PE_0 h
  | 1, h => exact PE_1 h
  | 2, h => exact PE_2 h
  | 3, h => exact PE_3 h
  | 4, h => exact PE_4 h
  | 5, h => exact PE_5 h
  | 6, h => exact PE_6 h
  | 7, h => exact PE_7 h
  | 8, h => exact PE_8 h
  | 9, h => exact PE_9 h
  | 10, h => exact PE_10 h
  | 11, h => exact PE_11 h
  | 12, h => exact PE_12 h
  | 13, h => exact PE_13 h
  | 14, h => exact PE_14 h
  | 15, h => exact PE_15 h
  | 16, h => exact PE_16 h
  | 17, h => exact PE_17 h
  | 18, h => exact PE_18 h
  | 19, h => exact PE_19 h
  | 20, h => exact PE_20 h
  | 21, h => exact PE_21 h
  | 22, h => exact PE_22 h
  | 23, h => exact PE_23 h
  | 24, h => exact PE_24 h
  | 25, h => exact PE_25 h
  | 26, h => exact PE_26 h
  | 27, h => exact PE_27 h
  | 28, h => exact PE_28 h
  | 29, h => exact PE_29 h
  | 30, h => exact PE_30 h
  | 31, h => exact PE_31 h
  | 32, h => exact PE_32 h
  | 33, h => exact PE_33 h
  | 34, h => exact PE_34 h
  | 35, h => exact PE_35 h
  | 36, h => exact PE_36 h
  | 37, h => exact PE_37 h
  | 38, h => exact PE_38 h
  | n + 39, h => exact absurd h (Nat.not_lt_zero _)
theorem IL_len {G : v_G} : (IL G).length = 304 := by
  unfold IL ROL
  simp only [List.length_cons, List.length_append, WL_len, TrL_len, List.length_nil, RuL, ShL, TaL, ReL, MoL]
theorem lay_init {G : v_G} {H : Heap} (hR : v_R G (hL (hB0 G) (IL G)) H) : v_R G (lay G S00) H := by
  refine ⟨hR.1.trans ?_, fun a e he => ?_⟩
  · show v_B G + (IL G).length = v_B G + (304 + 0)
    rw [IL_len]
  · unfold lay at he
    dsimp only at he
    by_cases hb : a < v_B G
    · rw [if_pos hb] at he; cases he
    · rw [if_neg hb] at he
      cases hq : lkL[a - v_B G]? with
      | none =>
        rw [hq] at he
        cases he
      | some q =>
        rw [hq] at he
        dsimp only at he
        have hlt : a - v_B G < 304 := by rw [← lk_len]; exact (List.getElem?_eq_some_iff.mp hq).1
        obtain ⟨q', h1, h2, h3⟩ := lk_cnt (a - v_B G) hlt
        rw [hq] at h1
        cases h1
        obtain ⟨e1, g1, g2⟩ := PE_all (G := G) h3
        cases he
        rw [h2] at g1
        refine eqE_at g2 (hR.2 a e1 ?_)
        have := hL_at (h := hB0 G) (a - v_B G) g1
        have e : (hB0 G).2 + (a - v_B G) = a := by show v_B G + (a - v_B G) = a; omega
        rw [e] at this
        exact this
