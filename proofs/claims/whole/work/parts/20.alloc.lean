/-! What is made while a text is read. -/
theorem push_at {h : v_H} {e : va_E} {a : Nat} (ha : a < h.2) : (v_push h e).1 a = h.1 a := by
  unfold v_push
  dsimp only
  rw [if_neg (by omega)]
theorem push_new {h : v_H} {e : va_E} : (v_push h e).1 h.2 = some e := by
  unfold v_push
  dsimp only
  rw [if_pos rfl]
theorem gD_sD (S : St) (e : (Nat × (Nat → Int32)) ⊕ (Nat × Nat × Nat)) (n : Nat) : gD (sD S e) n = if n = gZ S then some e else gD S n := rfl
theorem lay_push {G : v_G} {S : St} {e : (Nat × (Nat → Int32)) ⊕ (Nat × Nat × Nat)} : v_push (lay G S) (dyn G e) = lay G (sD S e) := by
  refine Prod.ext (funext fun a => ?_) ?_
  · show (if a = v_B G + (304 + gZ S) then some (dyn G e) else (lay G S).1 a) = (lay G (sD S e)).1 a
    unfold lay
    dsimp only
    by_cases ha : a = v_B G + (304 + gZ S)
    · rw [if_pos ha, if_neg (by omega)]
      have h1 : lkL[a - v_B G]? = none := by
        have : a - v_B G = 304 + gZ S := by omega
        rw [this]; exact lk_none _
      rw [h1]
      dsimp only
      have h2 : a - v_B G - 304 = gZ S := by omega
      rw [h2]
      rw [gD_sD, if_pos rfl]
      rfl
    · rw [if_neg ha]
      by_cases hb : a < v_B G
      · rw [if_pos hb, if_pos hb]
      · rw [if_neg hb, if_neg hb]
        cases hq : lkL[a - v_B G]? with
        | some q => rfl
        | none =>
          dsimp only
          have h1 : 304 ≤ a - v_B G := by
            have := List.getElem?_eq_none_iff.mp hq
            rw [lk_len] at this
            exact this
          rw [gD_sD, if_neg (by omega)]
  · rfl
theorem lay_2 {G : v_G} {S : St} : (lay G S).2 = da G (gZ S + 2) := by
  unfold da
  rw [if_neg (by omega)]
  show v_B G + (304 + gZ S) = v_B G + (302 + (gZ S + 2))
  omega
theorem up_push2 {h : v_H} {e e2 f : va_E} : v_up (v_push (v_push h e) f) h.2 e2 = v_push (v_push h e2) f := by
  unfold v_up v_push
  refine Prod.ext (funext fun q => ?_) rfl
  dsimp only
  by_cases hq : q = h.2
  · rw [if_pos hq, if_neg (by omega), if_pos hq]
  · rw [if_neg hq]
    by_cases h1 : q = h.2 + 1
    · rw [if_pos h1, if_pos h1]
    · rw [if_neg h1, if_neg h1, if_neg hq, if_neg hq]
section VALLOC
variable {l : Launch} {G : v_G} {y : MethodName} {cc : ByteArray} {nL : Nat} {ret : Option FieldType} {R : Room} {Qr : Option Value → v_H → Prop} {cells slots pc : Nat} {lv : List (Nat × Value)} {st st0 : List Value} {h h2 : v_H} {S : St}
variable {y2 : MethodName} {cc2 : ByteArray} {nL2 : Nat} {ret2 : Option FieldType} {d2 k2 n2 : Nat} {index nA : Nat}
theorem v_callViA {b ci : Nat} {fs As : List Value} {r0 : vw_C} {r : Int32} (hM : v_M l G y2 cc2 nL2 ret2 d2 k2 n2 (.ref b :: As) h (QI r h2)) (hd : decode cc pc = .ok (.invokevirtual index, 3)) (hY : v_YV y2 cc2 nL2 ret2 nA) (hlink : Cond.methodLink y.cls index y2 ∈ v_W) (hc : vwCl[ci]? = some r0) (hr : r0.1 = y2.cls) (hb0 : h.1 b = some (.inr (ci, fs))) (hn : As.length = nA) (hst : st0 = As.reverse ++ .ref b :: st) (hw : (st.map fun v => v.category).sum ≤ 8) (hrm : d2 + 1 ≤ R.frames ∧ 8 + (nL2 + 11) + 64 * d2 ≤ R.locals) (hf : cells + k2 ≤ R.cells ∧ slots + n2 ≤ R.slots)
    (kk : V l G y cc nL ret R Qr (cells + k2) (slots + n2) (pc + 3) lv (.int r :: st) h2) : V l G y cc nL ret R Qr cells slots pc lv st0 h := v_callV hM hd hY hlink hc hr hb0 hn hst hw hrm hf (fun v h' hq => by obtain ⟨rfl, rfl⟩ := hq; exact kk)
theorem v_callVt {b ci x : Nat} {fs As : List Value} {r0 : vw_C} (hM : v_M l G y2 cc2 nL2 ret2 d2 k2 n2 (.ref b :: As) h (QA (if x = 0 then .null else .ref (da G x)) h2)) (hd : decode cc pc = .ok (.invokevirtual index, 3)) (hY : v_YV y2 cc2 nL2 ret2 nA) (hlink : Cond.methodLink y.cls index y2 ∈ v_W) (hc : vwCl[ci]? = some r0) (hr : r0.1 = y2.cls) (hb0 : h.1 b = some (.inr (ci, fs))) (hn : As.length = nA) (hst : st0 = As.reverse ++ .ref b :: st) (hw : (st.map fun v => v.category).sum ≤ 8) (hrm : d2 + 1 ≤ R.frames ∧ 8 + (nL2 + 11) + 64 * d2 ≤ R.locals) (hf : cells + k2 ≤ R.cells ∧ slots + n2 ≤ R.slots)
    (k1 : x = 0 → V l G y cc nL ret R Qr (cells + k2) (slots + n2) (pc + 3) lv (.null :: st) h2) (k3 : ¬ x = 0 → V l G y cc nL ret R Qr (cells + k2) (slots + n2) (pc + 3) lv (.ref (da G x) :: st) h2) : V l G y cc nL ret R Qr cells slots pc lv st0 h := v_callV hM hd hY hlink hc hr hb0 hn hst hw hrm hf (fun v h' hq => by
      obtain ⟨rfl, rfl⟩ := hq
      by_cases hx : x = 0
      · rw [if_pos hx]; exact k1 hx
      · rw [if_neg hx]; exact k3 hx)
theorem cpO_lawbuf {n : Int32} (hn : vp_in n 301) (hd : decode cc pc = .ok (.invokestatic index, 3)) (hlink : Cond.methodLink y.cls index yJ7_copyOf_59c91 ∈ v_W) (hw : (st.map fun v => v.category).sum ≤ 8) (hrm : 1 + 1 ≤ R.frames ∧ 8 + (3 + 11) + 64 * 1 ≤ R.locals) (hf : cells + 1 ≤ R.cells ∧ slots + 300 ≤ R.slots)
    (kk : V l G y cc nL ret R Qr (cells + 1) (slots + 300) (pc + 3) lv (.ref (da G (gZ S + 2)) :: st) (lay G (sD S (.inl (n.toNatClampNeg, fun i => gI S 108 0 i))))) : V l G y cc nL ret R Qr cells slots pc lv (.int n :: .ref (v_B G + 290) :: st) (lay G S) := by
  refine v_callS (t_copyOf (e_lawbuf (G := G) (S := S)) (by show v_B G + 290 < v_B G + (304 + gZ S); omega) (by show v_B G ≤ v_B G + (304 + gZ S); omega) (fun q => hn (Or.inl q)) (by have : n.toNatClampNeg < 301 := Nat.not_le.mp fun q => hn (Or.inr q); omega) (by decide)) hd y_J7_copyOf_59c91 hlink rfl rfl hw hrm hf (fun v h' hq => ?_)
  obtain ⟨rfl, rfl⟩ := hq
  rw [lay_2]
  have := lay_push (G := G) (S := S) (e := .inl (n.toNatClampNeg, fun i => gI S 108 0 i))
  rw [show v_push (lay G S) (.inl (0, n.toNatClampNeg, .inl (fun i => gI S 108 0 i))) = lay G (sD S (.inl (n.toNatClampNeg, fun i => gI S 108 0 i))) from this]
  exact kk
end VALLOC
set_option maxRecDepth 100000 in
theorem mk_text {l : Launch} {G : v_G} {R : Room} {Qr : Option Value → v_H → Prop} {cells slots : Nat} {lv : List (Nat × Value)} {S : St} (q : Nat) (hq : lv[q]? = some (0, .ref (v_B G + 288))) (hn : vp_in ((3 : Int32) * (gI S 107 0 0)) 73) (hc : cells + 2 ≤ R.cells) (hs : slots + 303 ≤ R.slots) (hrm : 2 ≤ R.frames ∧ 128 ≤ R.locals)
    (kk : V l G yX1_readTape cX1_readTape 3 (some (.object "RolledOut$Text")) R Qr (cells + 2) (slots + 303) 136 lv [.ref (da G (gZ S + 2))] (lay G (sD (sD S (.inr (gZ S + 3, gR S 110 0 0, gR S 111 0 0))) (.inl (((3 : Int32) * (gI S 107 0 0)).toNatClampNeg, fun i => gI S 106 0 i))))) : V l G yX1_readTape cX1_readTape 3 (some (.object "RolledOut$Text")) R Qr cells slots 108 lv [] (lay G S) := by
  have hn2 : ((3 : Int32) * (gI S 107 0 0)).toNatClampNeg < 73 := Nat.not_le.mp fun q => hn (Or.inr q)
  refine v_new tyX6 tyX6_ok dX1_readTape_108 rfl (ci := 5) (fs := [.null, .null, .null]) rfl i_X6 cl_X1_19 ib_X6 ini_X6 (fun j hj => by match j, hj with | 0, _ => rfl | 1, _ => rfl | 2, _ => rfl) (by omega) (by omega) ?_
  refine v_dup dX1_readTape_111 rfl ?_
  refine v_aload_n q dX1_readTape_112 rfl hq ?_
  have hz : (lay G S).2 = v_B G + (304 + gZ S) := rfl
  have a1 : (v_push (lay G S) (.inr (5, [.null, .null, .null]))).1 (v_B G + 288) = some (.inr (0, [.ref (v_B G + 283), .int (gI S 101 0 0), .int (gI S 102 0 0), .int (gI S 103 0 0), .int (gI S 104 0 0), .int (gI S 105 0 0), .ref (v_B G + 289), .int (gI S 107 0 0), .ref (v_B G + 290), .int (gI S 109 0 0), .ref (da G (gR S 110 0 0)), .ref (da G (gR S 111 0 0))])) := (push_at (by rw [hz]; omega)).trans (e_Reader (G := G) (S := S))
  refine v_get dX1_readTape_113 rfl (ci := 0) (k := 6) rfl i_X1 (by decide) fl_X1_11 a1 rfl ?_
  refine v_iconst dX1_readTape_116 (by decide : _ = (3 : Int32)) ?_
  refine v_aload_n q dX1_readTape_117 rfl hq ?_
  refine v_get dX1_readTape_118 rfl (ci := 0) (k := 7) rfl i_X1 (by decide) fl_X1_44 a1 rfl ?_
  refine v_imul dX1_readTape_121 ?_
  refine v_callS (st := [.ref (lay G S).2, .ref (lay G S).2]) (t_copyOf (f := fun i => gI S 106 0 i) (n0 := 72) ((push_at (by rw [hz]; omega)).trans (e_clauses (G := G) (S := S))) (by show v_B G + 289 < (v_B G + (304 + gZ S)) + 1; omega) (by show v_B G ≤ (v_B G + (304 + gZ S)) + 1; omega) (fun q => hn (Or.inl q)) (by omega) (by decide)) dX1_readTape_122 y_J7_copyOf_59c91 ml_X1_70 rfl rfl (Nat.le_of_ble_eq_true rfl) ⟨by omega, by omega⟩ ⟨by omega, by omega⟩ (fun v h' hq2 => ?_)
  obtain ⟨rfl, rfl⟩ := hq2
  generalize hN : ((3 : Int32) * (gI S 107 0 0)).toNatClampNeg = nn at hn2 kk ⊢
  have a2 : (v_push (v_push (lay G S) (.inr (5, [.null, .null, .null]))) (.inl (0, nn, .inl (fun i => gI S 106 0 i)))).1 (v_B G + 288) = some (.inr (0, [.ref (v_B G + 283), .int (gI S 101 0 0), .int (gI S 102 0 0), .int (gI S 103 0 0), .int (gI S 104 0 0), .int (gI S 105 0 0), .ref (v_B G + 289), .int (gI S 107 0 0), .ref (v_B G + 290), .int (gI S 109 0 0), .ref (da G (gR S 110 0 0)), .ref (da G (gR S 111 0 0))])) := (push_at (by show v_B G + 288 < (v_B G + (304 + gZ S)) + 1; omega)).trans a1
  refine v_aload_n q dX1_readTape_125 rfl hq ?_
  refine v_get dX1_readTape_126 rfl (ci := 0) (k := 10) rfl i_X1 (by decide) fl_X1_23 a2 rfl ?_
  refine v_aload_n q dX1_readTape_129 rfl hq ?_
  refine v_get dX1_readTape_130 rfl (ci := 0) (k := 11) rfl i_X1 (by decide) fl_X1_26 a2 rfl ?_
  refine v_callI (st := [.ref (lay G S).2]) (b := (lay G S).2) (As := [.ref (v_push (lay G S) (.inr (5, [.null, .null, .null]))).2, .ref (da G (gR S 110 0 0)), .ref (da G (gR S 111 0 0))]) (t_X6_init ((push_at (by show v_B G + (304 + gZ S) < (v_B G + (304 + gZ S)) + 1; omega)).trans push_new) (by show v_B G ≤ v_B G + (304 + gZ S); omega)) dX1_readTape_133 y_X6_init ml_X1_76 rfl rfl (Nat.le_of_ble_eq_true rfl) ⟨by omega, by omega⟩ ⟨by omega, by omega⟩ (fun v h' hq2 => ?_)
  obtain ⟨rfl, rfl⟩ := hq2
  rw [up_push2]
  have hd3 : (v_push (lay G S) (.inr (5, [.null, .null, .null]))).2 = da G (gZ S + 3) := by
    unfold da
    rw [if_neg (by omega)]
    show v_B G + (304 + gZ S) + 1 = v_B G + (302 + (gZ S + 3))
    omega
  rw [hd3]
  have e1 := lay_push (G := G) (S := S) (e := .inr (gZ S + 3, gR S 110 0 0, gR S 111 0 0))
  have e2 := lay_push (G := G) (S := sD S (.inr (gZ S + 3, gR S 110 0 0, gR S 111 0 0))) (e := .inl (nn, fun i => gI S 106 0 i))
  rw [show v_push (lay G S) (.inr (5, [.ref (da G (gZ S + 3)), .ref (da G (gR S 110 0 0)), .ref (da G (gR S 111 0 0))])) = lay G (sD S (.inr (gZ S + 3, gR S 110 0 0, gR S 111 0 0))) from e1]
  rw [show v_push (lay G (sD S (.inr (gZ S + 3, gR S 110 0 0, gR S 111 0 0)))) (.inl (0, nn, .inl (fun i => gI S 106 0 i))) = _ from e2]
  rw [lay_2]
  exact kk
