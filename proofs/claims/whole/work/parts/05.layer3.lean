/-! THE LAYER, third part: calls. -/
def v_Y (y : MethodName) (cc : ByteArray) (nL : Nat) (ret : Option FieldType) (n : Nat) : Prop := Cond.code y cc nL ret ∈ v_W ∧ Cond.initialized y.cls ∈ v_W ∧ (y.cls ≠ "java/lang/invoke/MethodHandle" ∧ y.cls ≠ "java/lang/invoke/VarHandle" ∧ (parseMethodDescriptor y.desc).map (fun d => d.parameters.length) = some n)
def v_YS (y : MethodName) (cc : ByteArray) (nL : Nat) (ret : Option FieldType) (n : Nat) : Prop := v_Y y cc nL ret n ∧ Cond.static y ∈ v_W
def v_YV (y : MethodName) (cc : ByteArray) (nL : Nat) (ret : Option FieldType) (n : Nat) : Prop := v_Y y cc nL ret n ∧ Cond.instanceMethod y ∈ v_W ∧ Cond.selects y.cls y y ∈ v_W
def v_YI (y : MethodName) (cc : ByteArray) (nL : Nat) (n : Nat) : Prop := v_Y y cc nL none n ∧ y.name = "<init>" ∧ Cond.instanceMethod y ∈ v_W
section VCALL
variable {l : Launch} {G : v_G} {y : MethodName} {cc : ByteArray} {nL : Nat} {ret : Option FieldType} {R : Room} {Qr : Option Value → v_H → Prop} {cells slots pc : Nat} {lv : List (Nat × Value)} {st st0 : List Value} {h : v_H}
variable {y2 : MethodName} {cc2 : ByteArray} {nL2 : Nat} {ret2 : Option FieldType} {d2 k2 n2 : Nat} {av : List Value} {Qr2 : Option Value → v_H → Prop} {index nA : Nat}
theorem v_blind {G : v_G} {av : List Value} {h : v_H} : FrameBlind (va_Pc av (v_Pre G h)) := fun _ _ _ _ hp => ⟨hp.1, hp.2.1, hp.2.2.1, v_K_blind hp.2.2.2⟩
theorem v_pre {G : v_G} {s : State} {H : Heap} {locs : List Loc} {av : List Value} {h : v_H} (hK : v_K G s) (hB : v_B G ≤ s.heap.size) (hR : v_R G h H) (hS : va_S (v_A G) s.heap H locs) : ∀ U : State, U.heap = H → s.WarmedH U.vm → va_Pc av (v_Pre G h) av.toArray U := fun U hU hW =>
  ⟨rfl, Nat.le_trans hB (by rw [hU]; exact hS.1), by rw [hU]; exact hR, v_K_warm hK hU hW hS⟩
theorem v_run {p : Program} {e : Env} {s : State} {m : MethodId} {args a : Array Value} {below : List Frame} {meth : Method} {c : Code} {H : Heap} {locs : List Loc} {ls : Array Slot} (C0 : v_C G y cc nL ret p s m args meth c) (hS : va_S (v_A G) s.heap H locs) (hl : lv_has ls nL lv)
    (hr : va_Run p l e R s m args below meth c H locs cells slots k2 n2 (F0 m pc ls st0) st (v_Q G Qr2 a) (v_A G)) (kk : ∀ (v : Option Value) (h' : v_H), Qr2 v h' → V l G y cc nL ret R Qr (cells + k2) (slots + n2) (pc + 3) lv (v.toList ++ st) h') :
    W p l e R s m args below meth c H locs cells slots (MQ below (v_Q G Qr) args s R.cells R.slots (v_A G)) (F0 m pc ls st0) := by
  intro T hT X
  obtain ⟨v, st₀, t, T', L, h0, X', hL, e1, e2, ⟨⟨v', h', hv, hq, hR'⟩, hz, hk⟩, go⟩ := hr T hT X
  cases hv
  rw [h0] at hz hk
  obtain ⟨t2, a1, b1⟩ := kk v h' hq p e s m args below meth c C0 T'.heap (locs ++ L) ls (by rw [e1]; exact hR') ⟨Nat.le_trans hS.1 (by rw [e1]; exact hz), fun q h1 h2 => by rw [e1, hk q (Nat.lt_of_lt_of_le h1 hS.1) h2]; exact hS.2.1 q h1 h2, fun q hq => by
      rcases List.mem_append.mp hq with h | h
      · exact hS.2.2 q h
      · exact hL q h⟩ hl T' rfl X'
  exact ⟨t2, go t2 a1, b1⟩
theorem v_callS (hM : v_M l G y2 cc2 nL2 ret2 d2 k2 n2 av h Qr2) (hd : decode cc pc = .ok (.invokestatic index, 3)) (hY : v_YS y2 cc2 nL2 ret2 nA) (hlink : Cond.methodLink y.cls index y2 ∈ v_W) (hn : av.length = nA) (hst : st0 = av.reverse ++ st) (hw : (st.map fun v => v.category).sum ≤ 8) (hrm : d2 + 1 ≤ R.frames ∧ 8 + (nL2 + 11) + 64 * d2 ≤ R.locals) (hf : cells + k2 ≤ R.cells ∧ slots + n2 ≤ R.slots)
    (kk : ∀ (v : Option Value) (h' : v_H), Qr2 v h' → V l G y cc nL ret R Qr (cells + k2) (slots + n2) (pc + 3) lv (v.toList ++ st) h') : V l G y cc nL ret R Qr cells slots pc lv st0 h := by
  intro p e s m args below meth c C0 H locs ls hR hS hl
  obtain ⟨hx, hb, hml, hrt, hlocks, hfc, hts, hK, hB, hnm⟩ := id C0
  exact v_run C0 hS hl (va_runS (As := av) (rest := st) (n := nA) ⟨hx, hb, hml, hfc, hts⟩ hM ⟨callB_of nA hts (v_goodIn hY.1.1) rfl rfl rfl (hts _ hY.1.2.1) (hts _ hlink) hY.1.2.2 hrm, hts _ hY.2⟩ ⟨v_blind, v_pre hK hB hR hS⟩ rfl hn hl.1 hst (lv_room hw) hd hf) kk
theorem v_callV {b ci : Nat} {fs As : List Value} {r : vw_C} (hM : v_M l G y2 cc2 nL2 ret2 d2 k2 n2 (.ref b :: As) h Qr2) (hd : decode cc pc = .ok (.invokevirtual index, 3)) (hY : v_YV y2 cc2 nL2 ret2 nA) (hlink : Cond.methodLink y.cls index y2 ∈ v_W) (hc : vwCl[ci]? = some r) (hr : r.1 = y2.cls) (hb0 : h.1 b = some (.inr (ci, fs))) (hn : As.length = nA) (hst : st0 = As.reverse ++ .ref b :: st) (hw : (st.map fun v => v.category).sum ≤ 8) (hrm : d2 + 1 ≤ R.frames ∧ 8 + (nL2 + 11) + 64 * d2 ≤ R.locals) (hf : cells + k2 ≤ R.cells ∧ slots + n2 ≤ R.slots)
    (kk : ∀ (v : Option Value) (h' : v_H), Qr2 v h' → V l G y cc nL ret R Qr (cells + k2) (slots + n2) (pc + 3) lv (v.toList ++ st) h') : V l G y cc nL ret R Qr cells slots pc lv st0 h := by
  intro p e s m args below meth c C0 H locs ls hR hS hl
  obtain ⟨hx, hb, hml, hrt, hlocks, hfc, hts, hK, hB, hnm⟩ := id C0
  have hrec := va_recv hK.1 (v_one hR hb0) (ci := ci) (q0 := 0) hc rfl
  rw [hr] at hrec
  exact v_run C0 hS hl (va_runV (As := As) (rest := st) (n := nA) (C := y2.cls) ⟨hx, hb, hml, hfc, hts⟩ hM ⟨callB_of nA hts (v_goodIn hY.1.1) rfl rfl rfl (hts _ hY.1.2.1) (hts _ hlink) hY.1.2.2 hrm, hts _ hY.2.1, hts _ hY.2.2⟩ ⟨v_blind, hrec, v_pre hK hB hR hS⟩ rfl hn hl.1 hst (lv_room hw) hd hf) kk
theorem v_callI {b : Nat} {As : List Value} (hM : v_M l G y2 cc2 nL2 none d2 k2 n2 (.ref b :: As) h Qr2) (hd : decode cc pc = .ok (.invokespecial index, 3)) (hY : v_YI y2 cc2 nL2 nA) (hlink : Cond.methodLink y.cls index y2 ∈ v_W) (hn : As.length = nA) (hst : st0 = As.reverse ++ .ref b :: st) (hw : (st.map fun v => v.category).sum ≤ 8) (hrm : d2 + 1 ≤ R.frames ∧ 8 + (nL2 + 11) + 64 * d2 ≤ R.locals) (hf : cells + k2 ≤ R.cells ∧ slots + n2 ≤ R.slots)
    (kk : ∀ (v : Option Value) (h' : v_H), Qr2 v h' → V l G y cc nL ret R Qr (cells + k2) (slots + n2) (pc + 3) lv (v.toList ++ st) h') : V l G y cc nL ret R Qr cells slots pc lv st0 h := by
  intro p e s m args below meth c C0 H locs ls hR hS hl
  obtain ⟨hx, hb, hml, hrt, hlocks, hfc, hts, hK, hB, hnm⟩ := id C0
  exact v_run C0 hS hl (va_runI (As := As) (rest := st) (n := nA) ⟨hx, hb, hml, hfc, hts⟩ hM ⟨callB_of nA hts (v_goodIn hY.1.1) rfl rfl rfl (hts _ hY.1.2.1) (hts _ hlink) hY.1.2.2 hrm, hY.2.1, hts _ hY.2.2⟩ ⟨v_blind, v_pre hK hB hR hS⟩ rfl hn hl.1 hst (lv_room hw) hd hf) kk
theorem v_callIN {b : Nat} {As : List Value} {host : String} (hM : v_M l G y2 cc2 nL2 none d2 k2 n2 (.ref b :: As) h Qr2) (hd : decode cc pc = .ok (.invokespecial index, 3)) (hY : v_YI y2 cc2 nL2 nA) (hlink : ∀ s, v_K G s → va_Nw (.methodLinkNest y.cls index y2 host) s) (hn : As.length = nA) (hst : st0 = As.reverse ++ .ref b :: st) (hw : (st.map fun v => v.category).sum ≤ 8) (hrm : d2 + 1 ≤ R.frames ∧ 8 + (nL2 + 11) + 64 * d2 ≤ R.locals) (hf : cells + k2 ≤ R.cells ∧ slots + n2 ≤ R.slots)
    (kk : ∀ (v : Option Value) (h' : v_H), Qr2 v h' → V l G y cc nL ret R Qr (cells + k2) (slots + n2) (pc + 3) lv (v.toList ++ st) h') : V l G y cc nL ret R Qr cells slots pc lv st0 h := by
  intro p e s m args below meth c C0 H locs ls hR hS hl
  obtain ⟨hx, hb, hml, hrt, hlocks, hfc, hts, hK, hB, hnm⟩ := id C0
  exact v_run C0 hS hl (va_runIN (As := As) (rest := st) (n := nA) ⟨hx, hb, hml, hfc, hts⟩ hM ⟨va_cnB nA hts (v_goodIn hY.1.1) rfl rfl rfl (hlink s hK) (hts _ hY.1.2.1) hY.1.2.2 hrm, hY.2.1, hts _ hY.2.2⟩ ⟨v_blind, v_pre hK hB hR hS⟩ rfl hn hl.1 hst (lv_room hw) hd hf) kk
theorem v_objInit {b : Nat} (hd : decode cc pc = .ok (.invokespecial index, 3)) (hlink : Cond.methodLink y.cls index Lib.objectInit ∈ v_W) (hinst : Cond.instanceMethod Lib.objectInit ∈ v_W) (hcode : Cond.code Lib.objectInit ⟨#[0xb1]⟩ 1 none ∈ v_W) (hfr : 1 ≤ R.frames) (hlo : (st.map fun v => v.category).sum + 12 ≤ R.locals)
    (k : V l G y cc nL ret R Qr cells slots (pc + 3) lv st h) : V l G y cc nL ret R Qr cells slots pc lv (.ref b :: st) h := by
  intro p e s m args below meth c C0 H locs ls hR hS hl
  obtain ⟨hx, hb, hml, hrt, hlocks, hfc, hts, hK, hB, hnm⟩ := id C0
  exact W.objInit hx hb hfc (hts _ hlink) (hts _ hinst) (hts _ hcode) rfl (by rw [hml]; exact hl.1) rfl hd hfr (by show 2 * 0 + _ + 12 ≤ _; omega) (k p e s m args below meth c C0 H locs ls hR hS hl)
theorem v_mmax {a b : Int32} (hd : decode cc pc = .ok (.invokestatic index, 3)) (hlink : Cond.methodLink y.cls index Lib.Math.max.name ∈ v_W) (hstat : Cond.static Lib.Math.max.name ∈ v_W) (hini : Cond.initialized "java/lang/Math" ∈ v_W) (hcode : Cond.code Lib.Math.max.name Lib.Math.max.code 2 (some .int) ∈ v_W) (hfr : 1 ≤ R.frames) (hlo : (st.map fun v => v.category).sum + 13 ≤ R.locals) (hc : cells ≤ R.cells) (hs : slots ≤ R.slots)
    (k : V l G y cc nL ret R Qr cells slots (pc + 3) lv (.int (if a < b then b else a) :: st) h) : V l G y cc nL ret R Qr cells slots pc lv (.int b :: .int a :: st) h := by
  intro p e s m args below meth c C0 H locs ls hR hS hl
  obtain ⟨hx, hb, hml, hrt, hlocks, hfc, hts, hK, hB, hnm⟩ := id C0
  exact va_mmax hx hb (by rw [hml]; exact hl.1.symm) hfc (hts _ hlink) (hts _ hstat) (hts _ hini) (hts _ hcode) hfr hlo hc hs hd (k p e s m args below meth c C0 H locs ls hR hS hl)
theorem v_mmin {a b : Int32} (hd : decode cc pc = .ok (.invokestatic index, 3)) (hlink : Cond.methodLink y.cls index Lib.Math.min.name ∈ v_W) (hstat : Cond.static Lib.Math.min.name ∈ v_W) (hini : Cond.initialized "java/lang/Math" ∈ v_W) (hcode : Cond.code Lib.Math.min.name Lib.Math.min.code 2 (some .int) ∈ v_W) (hfr : 1 ≤ R.frames) (hlo : (st.map fun v => v.category).sum + 13 ≤ R.locals) (hc : cells ≤ R.cells) (hs : slots ≤ R.slots)
    (k : V l G y cc nL ret R Qr cells slots (pc + 3) lv (.int (if b < a then b else a) :: st) h) : V l G y cc nL ret R Qr cells slots pc lv (.int b :: .int a :: st) h := by
  intro p e s m args below meth c C0 H locs ls hR hS hl
  obtain ⟨hx, hb, hml, hrt, hlocks, hfc, hts, hK, hB, hnm⟩ := id C0
  exact va_mmin hx hb (by rw [hml]; exact hl.1.symm) hfc (hts _ hlink) (hts _ hstat) (hts _ hini) (hts _ hcode) hfr hlo hc hs hd (k p e s m args below meth c C0 H locs ls hR hS hl)
theorem v_mabs {a : Int32} (hd : decode cc pc = .ok (.invokestatic index, 3)) (hlink : Cond.methodLink y.cls index Lib.Math.abs.name ∈ v_W) (hstat : Cond.static Lib.Math.abs.name ∈ v_W) (hini : Cond.initialized "java/lang/Math" ∈ v_W) (hcode : Cond.code Lib.Math.abs.name Lib.Math.abs.code 1 (some .int) ∈ v_W) (hfr : 1 ≤ R.frames) (hlo : (st.map fun v => v.category).sum + 13 ≤ R.locals) (hc : cells ≤ R.cells) (hs : slots ≤ R.slots)
    (k : V l G y cc nL ret R Qr cells slots (pc + 3) lv (.int (if 0 ≤ a then a else 0 - a) :: st) h) : V l G y cc nL ret R Qr cells slots pc lv (.int a :: st) h := by
  intro p e s m args below meth c C0 H locs ls hR hS hl
  obtain ⟨hx, hb, hml, hrt, hlocks, hfc, hts, hK, hB, hnm⟩ := id C0
  exact va_mabs hx hb (by rw [hml]; exact hl.1.symm) hfc (hts _ hlink) (hts _ hstat) (hts _ hini) (hts _ hcode) hfr hlo hc hs hd (k p e s m args below meth c C0 H locs ls hR hS hl)
theorem v_mmaxL {a b : Int64} (hd : decode cc pc = .ok (.invokestatic index, 3)) (hlink : Cond.methodLink y.cls index Lib.MathLoose.max_long.x ∈ v_W) (hstat : Cond.static Lib.MathLoose.max_long.x ∈ v_W) (hini : Cond.initialized "java/lang/Math" ∈ v_W) (hcode : Cond.code Lib.MathLoose.max_long.x Lib.MathLoose.max_long.code 4 (some .long) ∈ v_W) (hfr : 1 ≤ R.frames) (hlo : (st.map fun v => v.category).sum + 15 ≤ R.locals) (hc : cells ≤ R.cells) (hs : slots ≤ R.slots)
    (k : V l G y cc nL ret R Qr cells slots (pc + 3) lv (.long (if b < a then a else b) :: st) h) : V l G y cc nL ret R Qr cells slots pc lv (.long b :: .long a :: st) h := by
  intro p e s m args below meth c C0 H locs ls hR hS hl
  obtain ⟨hx, hb, hml, hrt, hlocks, hfc, hts, hK, hB, hnm⟩ := id C0
  exact va_mmax_long hx hb (by rw [hml]; exact hl.1.symm) hfc (hts _ hlink) (hts _ hstat) (hts _ hini) (hts _ hcode) hfr hlo hc hs hd (k p e s m args below meth c C0 H locs ls hR hS hl)
theorem v_mminL {a b : Int64} (hd : decode cc pc = .ok (.invokestatic index, 3)) (hlink : Cond.methodLink y.cls index Lib.MathLoose.min_long.x ∈ v_W) (hstat : Cond.static Lib.MathLoose.min_long.x ∈ v_W) (hini : Cond.initialized "java/lang/Math" ∈ v_W) (hcode : Cond.code Lib.MathLoose.min_long.x Lib.MathLoose.min_long.code 4 (some .long) ∈ v_W) (hfr : 1 ≤ R.frames) (hlo : (st.map fun v => v.category).sum + 15 ≤ R.locals) (hc : cells ≤ R.cells) (hs : slots ≤ R.slots)
    (k : V l G y cc nL ret R Qr cells slots (pc + 3) lv (.long (if b < a then b else a) :: st) h) : V l G y cc nL ret R Qr cells slots pc lv (.long b :: .long a :: st) h := by
  intro p e s m args below meth c C0 H locs ls hR hS hl
  obtain ⟨hx, hb, hml, hrt, hlocks, hfc, hts, hK, hB, hnm⟩ := id C0
  exact va_mmin_long hx hb (by rw [hml]; exact hl.1.symm) hfc (hts _ hlink) (hts _ hstat) (hts _ hini) (hts _ hcode) hfr hlo hc hs hd (k p e s m args below meth c C0 H locs ls hR hS hl)
end VCALL
