/-! THE LAYER: a judgement V over the kit's W, that speaks of an abstract heap (a function of addresses, and a size), of a list of locals and of a stack alone; each row of the kit once, as a row of V. -/
def v_W : List Cond := lw_tbl.filter goodWord
theorem v_in {w : Cond} (h : w ∈ lw_tbl) (g : goodWord w = true) : w ∈ v_W := List.mem_filter.mpr ⟨h, g⟩
theorem v_at (i : Nat) {w : Cond} (h : lw_tbl[i]? = some w) (g : goodWord w = true) : w ∈ v_W := v_in (List.mem_of_getElem? h) g
theorem v_goodIn {w : Cond} (h : w ∈ v_W) : GoodIn v_W (w :: v_W) := by
  intro x hx
  have key : ∀ x ∈ v_W, x ∈ v_W ∧ ((x.onTables && x.keeps) = true ∨ ∃ ty, x = .arrayClass ty) := fun x hx => ⟨hx, good_of_word (List.mem_filter.mp hx).2⟩
  rcases List.mem_cons.mp hx with rfl | hx
  · exact key _ h
  · exact key _ hx
/-- the fixed things of a run: classes and slots, array classes, where our cells begin, where the empty law lies, the text of words and its bytes -/
abbrev v_G : Type := va_G × (Nat → ClassId) × Nat × Nat × Nat × Nat × Nat × Nat × (Nat → Int32)
abbrev v_B (G : v_G) : Nat := G.2.2.1
abbrev v_tN (G : v_G) : Nat := G.2.2.2.1
abbrev v_str (G : v_G) : Nat := G.2.2.2.2.1
abbrev v_strV (G : v_G) : Nat := G.2.2.2.2.2.1
abbrev v_sb (G : v_G) : Nat := G.2.2.2.2.2.2.1
abbrev v_sL (G : v_G) : Nat := G.2.2.2.2.2.2.2.1
abbrev v_xs (G : v_G) : Nat → Int32 := G.2.2.2.2.2.2.2.2
abbrev v_H : Type := (Nat → Option va_E) × Nat
def v_tys (G : v_G) : List (ClassId × FieldType) := [(G.2.1 0, .int), (G.2.1 1, .long), (G.2.1 2, .boolean), (G.2.1 3, .object "RolledOut$Sheet"), (G.2.1 4, .object "RolledOut$Text")]
def v_E (G : v_G) (e : va_E) : va_E := match e with
  | .inl (t, x) => .inl (G.2.1 t, x)
  | .inr o => .inr o
def v_R (G : v_G) (h : v_H) (H : Heap) : Prop := H.size = h.2 ∧ ∀ (a : Nat) (e : va_E), h.1 a = some e → va_at G.1 vwCl (a, v_E G e) H
def v_A (G : v_G) : Nat → Prop := fun q => v_B G ≤ q
def v_up (h : v_H) (a : Nat) (e : va_E) : v_H := (fun q => if q = a then some e else h.1 q, h.2)
def v_push (h : v_H) (e : va_E) : v_H := (fun q => if q = h.2 then some e else h.1 q, h.2 + 1)
def v_words : List Int32 := [109, 111, 118, 101, 115, 32, 116, 101, 97, 114, 115, 32, 104, 97, 110, 100, 32, 100, 111, 117, 103, 104, 32, 116, 111, 119, 110, 32, 108, 101, 102, 116, 32, 114, 105, 103, 104, 116, 32, 116, 114, 105, 109, 32, 112, 97, 116, 99, 104, 32, 116, 117, 114, 110, 32, 97, 116, 32, 98, 121, 32, 116, 104, 101, 110, 32, 101, 108, 115, 101, 32, 101, 110, 100, 32, 105, 102, 32, 99, 101, 108, 108, 32, 116, 111, 114, 110, 32, 115, 116, 114, 101, 110, 103, 116, 104, 32, 119, 104, 111, 32, 110, 101, 120, 116, 32, 110, 111, 116, 32, 115, 113, 117, 97, 114, 101, 32, 115, 104, 101, 101, 116, 32, 111, 114, 32, 97, 110, 100, 32]
def v_K (G : v_G) (U : State) : Prop := va_K G.1 vwCl (v_tys G) U ∧ va_Z "RolledOut$Text" "NO_LAW" "[I" (.ref (v_tN G)) (v_A G) U U.heap ∧ va_T .int (v_tN G) 0 (fun _ => .int 0) (v_A G) U U.heap ∧ va_Nw (.methodLinkNest "RolledOut" 39 ⟨"RolledOut$Shape", "<init>", "()V"⟩ "RolledOut") U ∧ va_Nw (.methodLinkNest "RolledOut" 46 ⟨"RolledOut$Tape", "<init>", "()V"⟩ "RolledOut") U ∧ va_AO "RolledOut$Sheet" U ∧ va_AO "RolledOut$Text" U ∧ va_Z "java/lang/String" "COMPACT_STRINGS" "Z" (.int 1) (v_A G) U U.heap ∧ vk_R "RolledOut$Tape" 66 "moves tears hand dough town left right trim patch turn at by then else end if cell torn strength who next not square sheet or and " (v_str G) U ∧ vk_S 1 [130] [v_words] (fun _ => v_str G) (fun _ => v_strV G) (v_A G) U U.heap ∧ va_Nw (.castable "[I" "java/lang/Cloneable") U ∧ va_Zq "jdk/internal/util/Preconditions" "SIOOBE_FORMATTER" "Ljava/util/function/BiFunction;" (v_A G) U U.heap ∧ va_X (v_sb G) (v_sL G) (v_xs G) U U.heap ∧ v_sb G < U.heap.size ∧ ¬ v_A G (v_sb G)
theorem v_K_blind {G : v_G} {U : State} {g : JFrame} {mk : MethodId} {a : Array Value} (h : v_K G U) : v_K G (U.calling g mk a) := by
  obtain ⟨h1, h2, h3, h4, h5, h6, h7, h8, h9, h10, h11, h12, h13, h14, h15⟩ := h
  exact ⟨va_K.moved (u := U) (U := U.calling g mk a) (Vm.Alike.refl U.vm) h1, va_Z.moved (u := U) (U := U.calling g mk a) (Vm.Alike.refl U.vm) h2, va_T.moved (u := U) (U := U.calling g mk a) (Vm.Alike.refl U.vm) h3, va_Nw.same (u := U) (U := U.calling g mk a) rfl rfl h4, va_Nw.same (u := U) (U := U.calling g mk a) rfl rfl h5, va_AO.moved (u := U) (U := U.calling g mk a) (Vm.Alike.refl U.vm) h6, va_AO.moved (u := U) (U := U.calling g mk a) (Vm.Alike.refl U.vm) h7, va_Z.moved (u := U) (U := U.calling g mk a) (Vm.Alike.refl U.vm) h8, vk_R.same (u := U) (U := U.calling g mk a) rfl h9, vk_S.moved (u := U) (U := U.calling g mk a) (Vm.Alike.refl U.vm) h10, va_Nw.same (u := U) (U := U.calling g mk a) rfl rfl h11, va_Zq.moved (u := U) (U := U.calling g mk a) (Vm.Alike.refl U.vm) h12, va_X.moved (u := U) (U := U.calling g mk a) (Vm.Alike.refl U.vm) h13, h14, h15⟩
theorem v_K_warm {G : v_G} {s U : State} {H : Heap} {locs : List Loc} (h : v_K G s) (hU : U.heap = H) (hW : s.WarmedH U.vm) (hS : va_S (v_A G) s.heap H locs) : v_K G U := by
  obtain ⟨h1, h2, h3, h4, h5, h6, h7, h8, h9, h10, h11, h12, h13, h14, h15⟩ := h
  subst hU
  have hq : ∀ a : Nat, a < s.heap.size → ¬ v_A G a → U.heap[a]? = s.heap[a]? := hS.2.1
  exact ⟨va_K.moved hW.alike h1, (va_Z.moved hW.alike h2).kept hq, (va_T.moved hW.alike h3).kept hq, va_Nw.warmM hW h4, va_Nw.warmM hW h5, va_AO.moved hW.alike h6, va_AO.moved hW.alike h7, (va_Z.moved hW.alike h8).kept hq, vk_R.warm hW h9, (vk_S.moved hW.alike h10).kept hq, va_Nw.warmC hW h11, (va_Zq.moved hW.alike h12).kept hq, (va_X.moved hW.alike h13).kept (hq _ h14 h15), Nat.lt_of_lt_of_le h14 hS.1, h15⟩
def v_C (G : v_G) (y : MethodName) (cc : ByteArray) (nL : Nat) (ret : Option FieldType) (p : Program) (s : State) (m : MethodId) (args : Array Value) (meth : Method) (c : Code) : Prop :=
  p.tables.exec = Jvm.exec ∧ c.code = cc ∧ c.maxLocals = nL ∧ meth.sig.returnType = ret ∧ meth.locks = false ∧ s.vm.findClass y.cls = some m.cls ∧ (∀ w ∈ v_W, w.before args s = true) ∧ v_K G s ∧ v_B G ≤ s.heap.size ∧ meth.name = y.name
def v_Q (G : v_G) (Qr : Option Value → v_H → Prop) : Array Value → State → Outcome → State → Prop := fun _ st oc t => (∃ (v : Option Value) (h : v_H), oc = .returned v ∧ Qr v h ∧ v_R G h t.heap) ∧ va_F (v_A G) st t
def v_Pre (G : v_G) (h : v_H) (U : State) : Prop := v_B G ≤ U.heap.size ∧ v_R G h U.heap ∧ v_K G U
def v_rm (d k n : Nat) : Room := { frames := d, cells := k, slots := n, locals := 64 * d }
/-- a method's contract: from these arguments and this heap it returns, and Qr holds of its answer and the heap behind it -/
def v_M (l : Launch) (G : v_G) (y : MethodName) (cc : ByteArray) (nL : Nat) (ret : Option FieldType) (d k n : Nat) (av : List Value) (h : v_H) (Qr : Option Value → v_H → Prop) : Prop :=
  Met l y (.code y cc nL ret :: v_W) (v_rm d k n) (va_Pc av (v_Pre G h)) (v_Q G Qr) k n (v_A G)
/-- the machine within a method at pc, with these locals, this stack and this heap, comes to the method's end, and there Qr holds -/
def V (l : Launch) (G : v_G) (y : MethodName) (cc : ByteArray) (nL : Nat) (ret : Option FieldType) (R : Room) (Qr : Option Value → v_H → Prop) (cells slots pc : Nat) (lv : List (Nat × Value)) (st : List Value) (h : v_H) : Prop :=
  ∀ (p : Program) (e : Env) (s : State) (m : MethodId) (args : Array Value) (below : List Frame) (meth : Method) (c : Code), v_C G y cc nL ret p s m args meth c →
    ∀ (H : Heap) (locs : List Loc) (ls : Array Slot), v_R G h H → va_S (v_A G) s.heap H locs → lv_has ls nL lv →
      W p l e R s m args below meth c H locs cells slots (MQ below (v_Q G Qr) args s R.cells R.slots (v_A G)) (F0 m pc ls st)
theorem v_A_of {G : v_G} {s : State} (hB : v_B G ≤ s.heap.size) : ∀ q, s.heap.size ≤ q → v_A G q := fun _ h => Nat.le_trans hB h
/-- the contract out of the walk from its entry -/
theorem v_entry {l : Launch} {G : v_G} {y : MethodName} {cc : ByteArray} {nL : Nat} {ret : Option FieldType} {d k n : Nat} {av : List Value} {h : v_H} {Qr : Option Value → v_H → Prop} (hy : plainName y.cls = true) (hn : (lg_sl av).length ≤ nL)
    (kk : V l G y cc nL ret (v_rm d k n) Qr 0 0 0 (lv_args 0 av) [] h) : v_M l G y cc nL ret d k n av h Qr := by
  refine Met.ofW (cc := cc) (maxL := nL) (ret := ret) hy rfl ?_
  intro p e s m args below meth c s₁ B hml hv
  obtain ⟨rfl, hB, hR, hK⟩ := hv
  have hts := atoms_spec (ws := .code y cc nL ret :: v_W) B.pre
  have hl := lv_entry av (n := nL) hn
  rw [lg_entry_eq]
  exact kk p e s m _ below meth c ⟨B.exec, B.bytes, hml, B.returns, B.notSynchronized, findClass_of_methodNamed B.named, fun w hw => hts w (List.mem_cons_of_mem _ hw), hK, hB, (name_of_methodNamed B.named B.method).1⟩ s.heap [] _ hR va_S.rf hl
theorem v_R_up {G : v_G} {h : v_H} {H H1 : Heap} {a : Nat} {e : va_E} (hR : v_R G h H) (he : va_at G.1 vwCl (a, v_E G e) H1) (z : H1.size = H.size) (oq : ∀ q : Nat, q ≠ a → H1[q]? = H[q]?) : v_R G (v_up h a e) H1 := by
  refine ⟨z.trans hR.1, fun b e' hb => ?_⟩
  unfold v_up at hb
  by_cases hq : b = a
  · subst hq
    simp at hb
    subst hb
    exact he
  · simp only [hq, if_false] at hb
    exact (hR.2 b e' hb).kept (oq b hq)
theorem v_R_push {G : v_G} {h : v_H} {H H1 : Heap} {e : va_E} (hR : v_R G h H) (he : va_at G.1 vwCl (h.2, v_E G e) H1) (z : H1.size = h.2 + 1) (oq : ∀ q : Nat, q < h.2 → H1[q]? = H[q]?) : v_R G (v_push h e) H1 := by
  refine ⟨z, fun b e' hb => ?_⟩
  unfold v_push at hb
  by_cases hq : b = h.2
  · subst hq
    simp at hb
    subst hb
    exact he
  · simp only [hq, if_false] at hb
    have hlt : b < H.size := (hR.2 b e' hb).lt
    exact (hR.2 b e' hb).kept (oq b (by rw [← hR.1]; exact hlt))

section VROWS
variable {l : Launch} {G : v_G} {y : MethodName} {cc : ByteArray} {nL : Nat} {ret : Option FieldType} {R : Room} {Qr : Option Value → v_H → Prop} {cells slots pc : Nat} {lv : List (Nat × Value)} {st : List Value} {h : v_H}
theorem v_iconst {n : Int} {v : Int32} (hd : decode cc pc = .ok (.iconst n, 1)) (hv : Int32.ofInt n = v) (k : V l G y cc nL ret R Qr cells slots (pc + 1) lv (.int v :: st) h) : V l G y cc nL ret R Qr cells slots pc lv (st) h :=
  fun p e s m args below meth c C H locs ls hR hS hl => lv_iconst C.1 C.2.1 hd hv (k p e s m args below meth c C H locs ls hR hS hl)
theorem v_bipush {n : Int} {v : Int32} (hd : decode cc pc = .ok (.bipush n, 2)) (hv : (Int8.ofInt n).toInt32 = v) (k : V l G y cc nL ret R Qr cells slots (pc + 2) lv (.int v :: st) h) : V l G y cc nL ret R Qr cells slots pc lv (st) h :=
  fun p e s m args below meth c C H locs ls hR hS hl => lv_bipush C.1 C.2.1 hd hv (k p e s m args below meth c C H locs ls hR hS hl)
theorem v_sipush {n : Int} {v : Int32} (hd : decode cc pc = .ok (.sipush n, 3)) (hv : (Int16.ofInt n).toInt32 = v) (k : V l G y cc nL ret R Qr cells slots (pc + 3) lv (.int v :: st) h) : V l G y cc nL ret R Qr cells slots pc lv (st) h :=
  fun p e s m args below meth c C H locs ls hR hS hl => lv_sipush C.1 C.2.1 hd hv (k p e s m args below meth c C H locs ls hR hS hl)
theorem v_lconst {n : Fin 2} {v : Int64} (hd : decode cc pc = .ok (.lconst n, 1)) (hv : Int64.ofNat (n : Nat) = v) (k : V l G y cc nL ret R Qr cells slots (pc + 1) lv (.long v :: st) h) : V l G y cc nL ret R Qr cells slots pc lv (st) h :=
  fun p e s m args below meth c C H locs ls hR hS hl => lv_lconst C.1 C.2.1 hd hv (k p e s m args below meth c C H locs ls hR hS hl)
theorem v_null (hd : decode cc pc = .ok (.aconst_null, 1)) (k : V l G y cc nL ret R Qr cells slots (pc + 1) lv (.null :: st) h) : V l G y cc nL ret R Qr cells slots pc lv (st) h :=
  fun p e s m args below meth c C H locs ls hR hS hl => lv_null C.1 C.2.1 hd (k p e s m args below meth c C H locs ls hR hS hl)
theorem v_ldc {index : Nat} {v : Int32} (hd : decode cc pc = .ok (.ldc index, 2)) (hw : Cond.constant y.cls index v ∈ v_W) (k : V l G y cc nL ret R Qr cells slots (pc + 2) lv (.int v :: st) h) : V l G y cc nL ret R Qr cells slots pc lv (st) h :=
  fun p e s m args below meth c C H locs ls hR hS hl => lv_ldc C.1 C.2.1 C.2.2.2.2.2.1 (C.2.2.2.2.2.2.1 _ hw) hd (k p e s m args below meth c C H locs ls hR hS hl)
theorem v_ldcw {index : Nat} {v : Int32} (hd : decode cc pc = .ok (.ldc_w index, 3)) (hw : Cond.constant y.cls index v ∈ v_W) (k : V l G y cc nL ret R Qr cells slots (pc + 3) lv (.int v :: st) h) : V l G y cc nL ret R Qr cells slots pc lv (st) h :=
  fun p e s m args below meth c C H locs ls hR hS hl => lv_ldcw C.1 C.2.1 C.2.2.2.2.2.1 (C.2.2.2.2.2.2.1 _ hw) hd (k p e s m args below meth c C H locs ls hR hS hl)
theorem v_ldc2 {index : Nat} {v : Int64} (hd : decode cc pc = .ok (.ldc2_w index, 3)) (hw : Cond.constantLong y.cls index v ∈ v_W) (k : V l G y cc nL ret R Qr cells slots (pc + 3) lv (.long v :: st) h) : V l G y cc nL ret R Qr cells slots pc lv (st) h :=
  fun p e s m args below meth c C H locs ls hR hS hl => lv_ldc2 C.1 C.2.1 C.2.2.2.2.2.1 (C.2.2.2.2.2.2.1 _ hw) hd (k p e s m args below meth c C H locs ls hR hS hl)
theorem v_iload_n {j : Fin 4} {x : Int32} (q : Nat) {i : Nat} (hd : decode cc pc = .ok (.iload_n j, 1)) (hi : (j : Nat) = i) (hx : lv[q]? = some (i, .int x)) (k : V l G y cc nL ret R Qr cells slots (pc + 1) lv (.int x :: st) h) : V l G y cc nL ret R Qr cells slots pc lv (st) h :=
  fun p e s m args below meth c C H locs ls hR hS hl => lv_iload_n C.1 C.2.1 hd hi (lv_at hl q hx) (k p e s m args below meth c C H locs ls hR hS hl)
theorem v_iload {i : Nat} {x : Int32} (q : Nat) (hd : decode cc pc = .ok (.iload i, 2)) (hx : lv[q]? = some (i, .int x)) (k : V l G y cc nL ret R Qr cells slots (pc + 2) lv (.int x :: st) h) : V l G y cc nL ret R Qr cells slots pc lv (st) h :=
  fun p e s m args below meth c C H locs ls hR hS hl => lv_iload C.1 C.2.1 hd (lv_at hl q hx) (k p e s m args below meth c C H locs ls hR hS hl)
theorem v_lload_n {j : Fin 4} {x : Int64} (q : Nat) {i : Nat} (hd : decode cc pc = .ok (.lload_n j, 1)) (hi : (j : Nat) = i) (hx : lv[q]? = some (i, .long x)) (k : V l G y cc nL ret R Qr cells slots (pc + 1) lv (.long x :: st) h) : V l G y cc nL ret R Qr cells slots pc lv (st) h :=
  fun p e s m args below meth c C H locs ls hR hS hl => lv_lload_n C.1 C.2.1 hd hi (lv_at hl q hx) (k p e s m args below meth c C H locs ls hR hS hl)
theorem v_lload {i : Nat} {x : Int64} (q : Nat) (hd : decode cc pc = .ok (.lload i, 2)) (hx : lv[q]? = some (i, .long x)) (k : V l G y cc nL ret R Qr cells slots (pc + 2) lv (.long x :: st) h) : V l G y cc nL ret R Qr cells slots pc lv (st) h :=
  fun p e s m args below meth c C H locs ls hR hS hl => lv_lload C.1 C.2.1 hd (lv_at hl q hx) (k p e s m args below meth c C H locs ls hR hS hl)
theorem v_aload_n {j : Fin 4} {x : Nat} (q : Nat) {i : Nat} (hd : decode cc pc = .ok (.aload_n j, 1)) (hi : (j : Nat) = i) (hx : lv[q]? = some (i, .ref x)) (k : V l G y cc nL ret R Qr cells slots (pc + 1) lv (.ref x :: st) h) : V l G y cc nL ret R Qr cells slots pc lv (st) h :=
  fun p e s m args below meth c C H locs ls hR hS hl => lv_aload_n C.1 C.2.1 hd hi (lv_at hl q hx) (k p e s m args below meth c C H locs ls hR hS hl)
theorem v_aload {i : Nat} {x : Nat} (q : Nat) (hd : decode cc pc = .ok (.aload i, 2)) (hx : lv[q]? = some (i, .ref x)) (k : V l G y cc nL ret R Qr cells slots (pc + 2) lv (.ref x :: st) h) : V l G y cc nL ret R Qr cells slots pc lv (st) h :=
  fun p e s m args below meth c C H locs ls hR hS hl => lv_aload C.1 C.2.1 hd (lv_at hl q hx) (k p e s m args below meth c C H locs ls hR hS hl)
theorem v_aload_nN {j : Fin 4} (q : Nat) {i : Nat} (hd : decode cc pc = .ok (.aload_n j, 1)) (hi : (j : Nat) = i) (hx : lv[q]? = some (i, .null)) (k : V l G y cc nL ret R Qr cells slots (pc + 1) lv (.null :: st) h) : V l G y cc nL ret R Qr cells slots pc lv (st) h :=
  fun p e s m args below meth c C H locs ls hR hS hl => lv_aload_nN C.1 C.2.1 hd hi (lv_at hl q hx) (k p e s m args below meth c C H locs ls hR hS hl)
theorem v_aloadN {i : Nat} (q : Nat) (hd : decode cc pc = .ok (.aload i, 2)) (hx : lv[q]? = some (i, .null)) (k : V l G y cc nL ret R Qr cells slots (pc + 2) lv (.null :: st) h) : V l G y cc nL ret R Qr cells slots pc lv (st) h :=
  fun p e s m args below meth c C H locs ls hR hS hl => lv_aloadN C.1 C.2.1 hd (lv_at hl q hx) (k p e s m args below meth c C H locs ls hR hS hl)
theorem v_istore_n {j : Fin 4} {i : Nat} {x : Int32} {lv2 : List (Nat × Value)} (hd : decode cc pc = .ok (.istore_n j, 1)) (hi : (j : Nat) = i) (hn : i < nL) (hl2 : (i, Value.int x) :: lv.filter (fun q => !(q.1 == i) && !(q.1 + 1 == i && q.2.category == 2)) = lv2) (k : V l G y cc nL ret R Qr cells slots (pc + 1) lv2 st h) : V l G y cc nL ret R Qr cells slots pc lv (Value.int x :: st) h :=
  fun p e s m args below meth c C H locs ls hR hS hl => lv_istore_n C.1 C.2.1 hd hi hl hn hl2 (fun ls2 hl3 => k p e s m args below meth c C H locs ls2 hR hS hl3)
theorem v_istore {i : Nat} {x : Int32} {lv2 : List (Nat × Value)} (hd : decode cc pc = .ok (.istore i, 2)) (hn : i < nL) (hl2 : (i, Value.int x) :: lv.filter (fun q => !(q.1 == i) && !(q.1 + 1 == i && q.2.category == 2)) = lv2) (k : V l G y cc nL ret R Qr cells slots (pc + 2) lv2 st h) : V l G y cc nL ret R Qr cells slots pc lv (Value.int x :: st) h :=
  fun p e s m args below meth c C H locs ls hR hS hl => lv_istore C.1 C.2.1 hd hl hn hl2 (fun ls2 hl3 => k p e s m args below meth c C H locs ls2 hR hS hl3)
theorem v_lstore_n {j : Fin 4} {i : Nat} {x : Int64} {lv2 : List (Nat × Value)} (hd : decode cc pc = .ok (.lstore_n j, 1)) (hi : (j : Nat) = i) (hn : i + 1 < nL) (hl2 : (i, Value.long x) :: lv.filter (fun q => !(q.1 == i) && (!(q.1 == i + 1) && !(q.1 + 1 == i && q.2.category == 2))) = lv2) (k : V l G y cc nL ret R Qr cells slots (pc + 1) lv2 st h) : V l G y cc nL ret R Qr cells slots pc lv (Value.long x :: st) h :=
  fun p e s m args below meth c C H locs ls hR hS hl => lv_lstore_n C.1 C.2.1 hd hi hl hn hl2 (fun ls2 hl3 => k p e s m args below meth c C H locs ls2 hR hS hl3)
theorem v_lstore {i : Nat} {x : Int64} {lv2 : List (Nat × Value)} (hd : decode cc pc = .ok (.lstore i, 2)) (hn : i + 1 < nL) (hl2 : (i, Value.long x) :: lv.filter (fun q => !(q.1 == i) && (!(q.1 == i + 1) && !(q.1 + 1 == i && q.2.category == 2))) = lv2) (k : V l G y cc nL ret R Qr cells slots (pc + 2) lv2 st h) : V l G y cc nL ret R Qr cells slots pc lv (Value.long x :: st) h :=
  fun p e s m args below meth c C H locs ls hR hS hl => lv_lstore C.1 C.2.1 hd hl hn hl2 (fun ls2 hl3 => k p e s m args below meth c C H locs ls2 hR hS hl3)
theorem v_astore_n {j : Fin 4} {i : Nat} {x : Nat} {lv2 : List (Nat × Value)} (hd : decode cc pc = .ok (.astore_n j, 1)) (hi : (j : Nat) = i) (hn : i < nL) (hl2 : (i, Value.ref x) :: lv.filter (fun q => !(q.1 == i) && !(q.1 + 1 == i && q.2.category == 2)) = lv2) (k : V l G y cc nL ret R Qr cells slots (pc + 1) lv2 st h) : V l G y cc nL ret R Qr cells slots pc lv (Value.ref x :: st) h :=
  fun p e s m args below meth c C H locs ls hR hS hl => lv_astore_n C.1 C.2.1 hd hi hl hn hl2 (fun ls2 hl3 => k p e s m args below meth c C H locs ls2 hR hS hl3)
theorem v_astore {i : Nat} {x : Nat} {lv2 : List (Nat × Value)} (hd : decode cc pc = .ok (.astore i, 2)) (hn : i < nL) (hl2 : (i, Value.ref x) :: lv.filter (fun q => !(q.1 == i) && !(q.1 + 1 == i && q.2.category == 2)) = lv2) (k : V l G y cc nL ret R Qr cells slots (pc + 2) lv2 st h) : V l G y cc nL ret R Qr cells slots pc lv (Value.ref x :: st) h :=
  fun p e s m args below meth c C H locs ls hR hS hl => lv_astore C.1 C.2.1 hd hl hn hl2 (fun ls2 hl3 => k p e s m args below meth c C H locs ls2 hR hS hl3)
theorem v_astore_nN {j : Fin 4} {i : Nat} {lv2 : List (Nat × Value)} (hd : decode cc pc = .ok (.astore_n j, 1)) (hi : (j : Nat) = i) (hn : i < nL) (hl2 : (i, Value.null) :: lv.filter (fun q => !(q.1 == i) && !(q.1 + 1 == i && q.2.category == 2)) = lv2) (k : V l G y cc nL ret R Qr cells slots (pc + 1) lv2 st h) : V l G y cc nL ret R Qr cells slots pc lv (Value.null :: st) h :=
  fun p e s m args below meth c C H locs ls hR hS hl => lv_astore_nN C.1 C.2.1 hd hi hl hn hl2 (fun ls2 hl3 => k p e s m args below meth c C H locs ls2 hR hS hl3)
theorem v_astoreN {i : Nat} {lv2 : List (Nat × Value)} (hd : decode cc pc = .ok (.astore i, 2)) (hn : i < nL) (hl2 : (i, Value.null) :: lv.filter (fun q => !(q.1 == i) && !(q.1 + 1 == i && q.2.category == 2)) = lv2) (k : V l G y cc nL ret R Qr cells slots (pc + 2) lv2 st h) : V l G y cc nL ret R Qr cells slots pc lv (Value.null :: st) h :=
  fun p e s m args below meth c C H locs ls hR hS hl => lv_astoreN C.1 C.2.1 hd hl hn hl2 (fun ls2 hl3 => k p e s m args below meth c C H locs ls2 hR hS hl3)
theorem v_iinc {i : Nat} {n : Int} {x v : Int32} {lv2 : List (Nat × Value)} (q : Nat) (hd : decode cc pc = .ok (.iinc i n, 3)) (hx : lv[q]? = some (i, .int x)) (hv : x + Int32.ofInt n = v) (hn : i < nL) (hl2 : (i, Value.int v) :: lv.filter (fun q => !(q.1 == i) && !(q.1 + 1 == i && q.2.category == 2)) = lv2) (k : V l G y cc nL ret R Qr cells slots (pc + 3) lv2 st h) : V l G y cc nL ret R Qr cells slots pc lv st h :=
  fun p e s m args below meth c C H locs ls hR hS hl => lv_iinc C.1 C.2.1 hd hl hx hv hn hl2 (fun ls2 hl3 => k p e s m args below meth c C H locs ls2 hR hS hl3)
theorem v_iadd {a b : Int32} (hd : decode cc pc = .ok (.iadd, 1)) (k : V l G y cc nL ret R Qr cells slots (pc + 1) lv (.int (a + b) :: st) h) : V l G y cc nL ret R Qr cells slots pc lv (.int b :: .int a :: st) h :=
  fun p e s m args below meth c C H locs ls hR hS hl => lv_iadd C.1 C.2.1 hd (k p e s m args below meth c C H locs ls hR hS hl)
theorem v_ladd {a b : Int64} (hd : decode cc pc = .ok (.ladd, 1)) (k : V l G y cc nL ret R Qr cells slots (pc + 1) lv (.long (a + b) :: st) h) : V l G y cc nL ret R Qr cells slots pc lv (.long b :: .long a :: st) h :=
  fun p e s m args below meth c C H locs ls hR hS hl => lv_ladd C.1 C.2.1 hd (k p e s m args below meth c C H locs ls hR hS hl)
theorem v_isub {a b : Int32} (hd : decode cc pc = .ok (.isub, 1)) (k : V l G y cc nL ret R Qr cells slots (pc + 1) lv (.int (a - b) :: st) h) : V l G y cc nL ret R Qr cells slots pc lv (.int b :: .int a :: st) h :=
  fun p e s m args below meth c C H locs ls hR hS hl => lv_isub C.1 C.2.1 hd (k p e s m args below meth c C H locs ls hR hS hl)
theorem v_lsub {a b : Int64} (hd : decode cc pc = .ok (.lsub, 1)) (k : V l G y cc nL ret R Qr cells slots (pc + 1) lv (.long (a - b) :: st) h) : V l G y cc nL ret R Qr cells slots pc lv (.long b :: .long a :: st) h :=
  fun p e s m args below meth c C H locs ls hR hS hl => lv_lsub C.1 C.2.1 hd (k p e s m args below meth c C H locs ls hR hS hl)
theorem v_imul {a b : Int32} (hd : decode cc pc = .ok (.imul, 1)) (k : V l G y cc nL ret R Qr cells slots (pc + 1) lv (.int (a * b) :: st) h) : V l G y cc nL ret R Qr cells slots pc lv (.int b :: .int a :: st) h :=
  fun p e s m args below meth c C H locs ls hR hS hl => lv_imul C.1 C.2.1 hd (k p e s m args below meth c C H locs ls hR hS hl)
theorem v_lmul {a b : Int64} (hd : decode cc pc = .ok (.lmul, 1)) (k : V l G y cc nL ret R Qr cells slots (pc + 1) lv (.long (a * b) :: st) h) : V l G y cc nL ret R Qr cells slots pc lv (.long b :: .long a :: st) h :=
  fun p e s m args below meth c C H locs ls hR hS hl => lv_lmul C.1 C.2.1 hd (k p e s m args below meth c C H locs ls hR hS hl)
theorem v_iand {a b : Int32} (hd : decode cc pc = .ok (.iand, 1)) (k : V l G y cc nL ret R Qr cells slots (pc + 1) lv (.int (a &&& b) :: st) h) : V l G y cc nL ret R Qr cells slots pc lv (.int b :: .int a :: st) h :=
  fun p e s m args below meth c C H locs ls hR hS hl => lv_iand C.1 C.2.1 hd (k p e s m args below meth c C H locs ls hR hS hl)
theorem v_land {a b : Int64} (hd : decode cc pc = .ok (.land, 1)) (k : V l G y cc nL ret R Qr cells slots (pc + 1) lv (.long (a &&& b) :: st) h) : V l G y cc nL ret R Qr cells slots pc lv (.long b :: .long a :: st) h :=
  fun p e s m args below meth c C H locs ls hR hS hl => lv_land C.1 C.2.1 hd (k p e s m args below meth c C H locs ls hR hS hl)
theorem v_ior {a b : Int32} (hd : decode cc pc = .ok (.ior, 1)) (k : V l G y cc nL ret R Qr cells slots (pc + 1) lv (.int (a ||| b) :: st) h) : V l G y cc nL ret R Qr cells slots pc lv (.int b :: .int a :: st) h :=
  fun p e s m args below meth c C H locs ls hR hS hl => lv_ior C.1 C.2.1 hd (k p e s m args below meth c C H locs ls hR hS hl)
theorem v_lor {a b : Int64} (hd : decode cc pc = .ok (.lor, 1)) (k : V l G y cc nL ret R Qr cells slots (pc + 1) lv (.long (a ||| b) :: st) h) : V l G y cc nL ret R Qr cells slots pc lv (.long b :: .long a :: st) h :=
  fun p e s m args below meth c C H locs ls hR hS hl => lv_lor C.1 C.2.1 hd (k p e s m args below meth c C H locs ls hR hS hl)
theorem v_ixor {a b : Int32} (hd : decode cc pc = .ok (.ixor, 1)) (k : V l G y cc nL ret R Qr cells slots (pc + 1) lv (.int (a ^^^ b) :: st) h) : V l G y cc nL ret R Qr cells slots pc lv (.int b :: .int a :: st) h :=
  fun p e s m args below meth c C H locs ls hR hS hl => lv_ixor C.1 C.2.1 hd (k p e s m args below meth c C H locs ls hR hS hl)
theorem v_lxor {a b : Int64} (hd : decode cc pc = .ok (.lxor, 1)) (k : V l G y cc nL ret R Qr cells slots (pc + 1) lv (.long (a ^^^ b) :: st) h) : V l G y cc nL ret R Qr cells slots pc lv (.long b :: .long a :: st) h :=
  fun p e s m args below meth c C H locs ls hR hS hl => lv_lxor C.1 C.2.1 hd (k p e s m args below meth c C H locs ls hR hS hl)
theorem v_idiv {a b : Int32} (hd : decode cc pc = .ok (.idiv, 1)) (hne : ¬ b = 0) (k : V l G y cc nL ret R Qr cells slots (pc + 1) lv (.int (a / b) :: st) h) : V l G y cc nL ret R Qr cells slots pc lv (.int b :: .int a :: st) h :=
  fun p e s m args below meth c C H locs ls hR hS hl => lv_idiv C.1 C.2.1 hd hne (k p e s m args below meth c C H locs ls hR hS hl)
theorem v_irem {a b : Int32} (hd : decode cc pc = .ok (.irem, 1)) (hne : ¬ b = 0) (k : V l G y cc nL ret R Qr cells slots (pc + 1) lv (.int (a - a / b * b) :: st) h) : V l G y cc nL ret R Qr cells slots pc lv (.int b :: .int a :: st) h :=
  fun p e s m args below meth c C H locs ls hR hS hl => lv_irem C.1 C.2.1 hd hne (k p e s m args below meth c C H locs ls hR hS hl)
theorem v_ineg {a : Int32} (hd : decode cc pc = .ok (.ineg, 1)) (k : V l G y cc nL ret R Qr cells slots (pc + 1) lv (.int (-a) :: st) h) : V l G y cc nL ret R Qr cells slots pc lv (.int a :: st) h :=
  fun p e s m args below meth c C H locs ls hR hS hl => lv_ineg C.1 C.2.1 hd (k p e s m args below meth c C H locs ls hR hS hl)
theorem v_ldiv {a b : Int64} (hd : decode cc pc = .ok (.ldiv, 1)) (hne : ¬ b = 0) (k : V l G y cc nL ret R Qr cells slots (pc + 1) lv (.long (a / b) :: st) h) : V l G y cc nL ret R Qr cells slots pc lv (.long b :: .long a :: st) h :=
  fun p e s m args below meth c C H locs ls hR hS hl => lv_ldiv C.1 C.2.1 hd hne (k p e s m args below meth c C H locs ls hR hS hl)
theorem v_lrem {a b : Int64} (hd : decode cc pc = .ok (.lrem, 1)) (hne : ¬ b = 0) (k : V l G y cc nL ret R Qr cells slots (pc + 1) lv (.long (a - a / b * b) :: st) h) : V l G y cc nL ret R Qr cells slots pc lv (.long b :: .long a :: st) h :=
  fun p e s m args below meth c C H locs ls hR hS hl => lv_lrem C.1 C.2.1 hd hne (k p e s m args below meth c C H locs ls hR hS hl)
theorem v_lneg {a : Int64} (hd : decode cc pc = .ok (.lneg, 1)) (k : V l G y cc nL ret R Qr cells slots (pc + 1) lv (.long (-a) :: st) h) : V l G y cc nL ret R Qr cells slots pc lv (.long a :: st) h :=
  fun p e s m args below meth c C H locs ls hR hS hl => lv_lneg C.1 C.2.1 hd (k p e s m args below meth c C H locs ls hR hS hl)
theorem v_ishl {a b : Int32} (hd : decode cc pc = .ok (.ishl, 1)) (k : V l G y cc nL ret R Qr cells slots (pc + 1) lv (.int (a <<< (b &&& 31)) :: st) h) : V l G y cc nL ret R Qr cells slots pc lv (.int b :: .int a :: st) h :=
  fun p e s m args below meth c C H locs ls hR hS hl => lv_ishl C.1 C.2.1 hd (k p e s m args below meth c C H locs ls hR hS hl)
theorem v_ishr {a b : Int32} (hd : decode cc pc = .ok (.ishr, 1)) (k : V l G y cc nL ret R Qr cells slots (pc + 1) lv (.int (a >>> (b &&& 31)) :: st) h) : V l G y cc nL ret R Qr cells slots pc lv (.int b :: .int a :: st) h :=
  fun p e s m args below meth c C H locs ls hR hS hl => lv_ishr C.1 C.2.1 hd (k p e s m args below meth c C H locs ls hR hS hl)
theorem v_iushr {a b : Int32} (hd : decode cc pc = .ok (.iushr, 1)) (k : V l G y cc nL ret R Qr cells slots (pc + 1) lv (.int ((a.toUInt32 >>> (b.toUInt32 &&& Int32.toUInt32 31)).toInt32) :: st) h) : V l G y cc nL ret R Qr cells slots pc lv (.int b :: .int a :: st) h :=
  fun p e s m args below meth c C H locs ls hR hS hl => lv_iushr C.1 C.2.1 hd rfl (k p e s m args below meth c C H locs ls hR hS hl)
theorem v_lshl {a : Int64} {b : Int32} (hd : decode cc pc = .ok (.lshl, 1)) (k : V l G y cc nL ret R Qr cells slots (pc + 1) lv (.long (a <<< (b.toInt64 &&& 63)) :: st) h) : V l G y cc nL ret R Qr cells slots pc lv (.int b :: .long a :: st) h :=
  fun p e s m args below meth c C H locs ls hR hS hl => lv_lshl C.1 C.2.1 hd rfl (k p e s m args below meth c C H locs ls hR hS hl)
theorem v_lshr {a : Int64} {b : Int32} (hd : decode cc pc = .ok (.lshr, 1)) (k : V l G y cc nL ret R Qr cells slots (pc + 1) lv (.long (a >>> (b.toInt64 &&& 63)) :: st) h) : V l G y cc nL ret R Qr cells slots pc lv (.int b :: .long a :: st) h :=
  fun p e s m args below meth c C H locs ls hR hS hl => lv_lshr C.1 C.2.1 hd rfl (k p e s m args below meth c C H locs ls hR hS hl)
theorem v_i2l {a : Int32} (hd : decode cc pc = .ok (.i2l, 1)) (k : V l G y cc nL ret R Qr cells slots (pc + 1) lv (.long a.toInt64 :: st) h) : V l G y cc nL ret R Qr cells slots pc lv (.int a :: st) h :=
  fun p e s m args below meth c C H locs ls hR hS hl => lv_i2l C.1 C.2.1 hd rfl (k p e s m args below meth c C H locs ls hR hS hl)
theorem v_l2i {a : Int64} (hd : decode cc pc = .ok (.l2i, 1)) (k : V l G y cc nL ret R Qr cells slots (pc + 1) lv (.int a.toInt32 :: st) h) : V l G y cc nL ret R Qr cells slots pc lv (.long a :: st) h :=
  fun p e s m args below meth c C H locs ls hR hS hl => lv_l2i C.1 C.2.1 hd rfl (k p e s m args below meth c C H locs ls hR hS hl)
theorem v_i2c {a : Int32} (hd : decode cc pc = .ok (.i2c, 1)) (k : V l G y cc nL ret R Qr cells slots (pc + 1) lv (.int (a.toUInt32 % 65536).toInt32 :: st) h) : V l G y cc nL ret R Qr cells slots pc lv (.int a :: st) h :=
  fun p e s m args below meth c C H locs ls hR hS hl => lv_i2c C.1 C.2.1 hd rfl (k p e s m args below meth c C H locs ls hR hS hl)
theorem v_lcmp {a b : Int64} (hd : decode cc pc = .ok (.lcmp, 1)) (k : V l G y cc nL ret R Qr cells slots (pc + 1) lv (.int (lg_cmp a b) :: st) h) : V l G y cc nL ret R Qr cells slots pc lv (.long b :: .long a :: st) h :=
  fun p e s m args below meth c C H locs ls hR hS hl => W.lcmp C.1 C.2.1 hd (k p e s m args below meth c C H locs ls hR hS hl)
theorem v_dup {a : Value} (hd : decode cc pc = .ok (.dup, 1)) (ha : a.category = 1) (k : V l G y cc nL ret R Qr cells slots (pc + 1) lv (a :: a :: st) h) : V l G y cc nL ret R Qr cells slots pc lv (a :: st) h :=
  fun p e s m args below meth c C H locs ls hR hS hl => lv_dup C.1 C.2.1 hd ha (k p e s m args below meth c C H locs ls hR hS hl)
theorem v_pop {a : Value} (hd : decode cc pc = .ok (.pop, 1)) (ha : a.category = 1) (k : V l G y cc nL ret R Qr cells slots (pc + 1) lv (st) h) : V l G y cc nL ret R Qr cells slots pc lv (a :: st) h :=
  fun p e s m args below meth c C H locs ls hR hS hl => lv_pop C.1 C.2.1 hd ha (k p e s m args below meth c C H locs ls hR hS hl)
theorem v_dup_x1 {a b : Value} (hd : decode cc pc = .ok (.dup_x1, 1)) (ha : a.category = 1) (hb : b.category = 1) (k : V l G y cc nL ret R Qr cells slots (pc + 1) lv (a :: b :: a :: st) h) : V l G y cc nL ret R Qr cells slots pc lv (a :: b :: st) h :=
  fun p e s m args below meth c C H locs ls hR hS hl => lv_dup_x1 C.1 C.2.1 hd ha hb (k p e s m args below meth c C H locs ls hR hS hl)
theorem v_dup_x2 {a b d : Value} (hd : decode cc pc = .ok (.dup_x2, 1)) (ha : a.category = 1) (hb : b.category = 1) (hv : d.category = 1) (k : V l G y cc nL ret R Qr cells slots (pc + 1) lv (a :: b :: d :: a :: st) h) : V l G y cc nL ret R Qr cells slots pc lv (a :: b :: d :: st) h :=
  fun p e s m args below meth c C H locs ls hR hS hl => lv_dup_x2 C.1 C.2.1 hd ha hb hv (k p e s m args below meth c C H locs ls hR hS hl)
theorem v_dup2 {a b : Value} (hd : decode cc pc = .ok (.dup2, 1)) (ha : a.category = 1) (hb : b.category = 1) (k : V l G y cc nL ret R Qr cells slots (pc + 1) lv (a :: b :: a :: b :: st) h) : V l G y cc nL ret R Qr cells slots pc lv (a :: b :: st) h :=
  fun p e s m args below meth c C H locs ls hR hS hl => lv_dup2_11 C.1 C.2.1 hd ha hb (k p e s m args below meth c C H locs ls hR hS hl)
theorem v_dup2L {a : Value} (hd : decode cc pc = .ok (.dup2, 1)) (ha : a.category = 2) (k : V l G y cc nL ret R Qr cells slots (pc + 1) lv (a :: a :: st) h) : V l G y cc nL ret R Qr cells slots pc lv (a :: st) h :=
  fun p e s m args below meth c C H locs ls hR hS hl => lv_dup2_2 C.1 C.2.1 hd ha (k p e s m args below meth c C H locs ls hR hS hl)
theorem v_if_eq {a : Int32} {off : Int} {tgt : Nat} (hd : decode cc pc = .ok (.ifCond .eq off, 3)) (ht : (pc : Int) + off = (tgt : Int)) (kt : a = 0 → V l G y cc nL ret R Qr cells slots tgt lv st h) (kf : ¬ a = 0 → V l G y cc nL ret R Qr cells slots (pc + 3) lv st h) : V l G y cc nL ret R Qr cells slots pc lv (.int a :: st) h :=
  fun p e s m args below meth c C H locs ls hR hS hl => lv_if_eq C.1 C.2.1 hd ht (fun z => kt z p e s m args below meth c C H locs ls hR hS hl) (fun z => kf z p e s m args below meth c C H locs ls hR hS hl)
theorem v_icmp_eq {a b : Int32} {off : Int} {tgt : Nat} (hd : decode cc pc = .ok (.if_icmp .eq off, 3)) (ht : (pc : Int) + off = (tgt : Int)) (kt : a = b → V l G y cc nL ret R Qr cells slots tgt lv st h) (kf : ¬ a = b → V l G y cc nL ret R Qr cells slots (pc + 3) lv st h) : V l G y cc nL ret R Qr cells slots pc lv (.int b :: .int a :: st) h :=
  fun p e s m args below meth c C H locs ls hR hS hl => lv_icmp_eq C.1 C.2.1 hd ht (fun z => kt z p e s m args below meth c C H locs ls hR hS hl) (fun z => kf z p e s m args below meth c C H locs ls hR hS hl)
theorem v_if_ne {a : Int32} {off : Int} {tgt : Nat} (hd : decode cc pc = .ok (.ifCond .ne off, 3)) (ht : (pc : Int) + off = (tgt : Int)) (kt : ¬ a = 0 → V l G y cc nL ret R Qr cells slots tgt lv st h) (kf : a = 0 → V l G y cc nL ret R Qr cells slots (pc + 3) lv st h) : V l G y cc nL ret R Qr cells slots pc lv (.int a :: st) h :=
  fun p e s m args below meth c C H locs ls hR hS hl => lv_if_ne C.1 C.2.1 hd ht (fun z => kt z p e s m args below meth c C H locs ls hR hS hl) (fun z => kf z p e s m args below meth c C H locs ls hR hS hl)
theorem v_icmp_ne {a b : Int32} {off : Int} {tgt : Nat} (hd : decode cc pc = .ok (.if_icmp .ne off, 3)) (ht : (pc : Int) + off = (tgt : Int)) (kt : ¬ a = b → V l G y cc nL ret R Qr cells slots tgt lv st h) (kf : a = b → V l G y cc nL ret R Qr cells slots (pc + 3) lv st h) : V l G y cc nL ret R Qr cells slots pc lv (.int b :: .int a :: st) h :=
  fun p e s m args below meth c C H locs ls hR hS hl => lv_icmp_ne C.1 C.2.1 hd ht (fun z => kt z p e s m args below meth c C H locs ls hR hS hl) (fun z => kf z p e s m args below meth c C H locs ls hR hS hl)
theorem v_if_lt {a : Int32} {off : Int} {tgt : Nat} (hd : decode cc pc = .ok (.ifCond .lt off, 3)) (ht : (pc : Int) + off = (tgt : Int)) (kt : a < 0 → V l G y cc nL ret R Qr cells slots tgt lv st h) (kf : ¬ a < 0 → V l G y cc nL ret R Qr cells slots (pc + 3) lv st h) : V l G y cc nL ret R Qr cells slots pc lv (.int a :: st) h :=
  fun p e s m args below meth c C H locs ls hR hS hl => lv_if_lt C.1 C.2.1 hd ht (fun z => kt z p e s m args below meth c C H locs ls hR hS hl) (fun z => kf z p e s m args below meth c C H locs ls hR hS hl)
theorem v_icmp_lt {a b : Int32} {off : Int} {tgt : Nat} (hd : decode cc pc = .ok (.if_icmp .lt off, 3)) (ht : (pc : Int) + off = (tgt : Int)) (kt : a < b → V l G y cc nL ret R Qr cells slots tgt lv st h) (kf : ¬ a < b → V l G y cc nL ret R Qr cells slots (pc + 3) lv st h) : V l G y cc nL ret R Qr cells slots pc lv (.int b :: .int a :: st) h :=
  fun p e s m args below meth c C H locs ls hR hS hl => lv_icmp_lt C.1 C.2.1 hd ht (fun z => kt z p e s m args below meth c C H locs ls hR hS hl) (fun z => kf z p e s m args below meth c C H locs ls hR hS hl)
theorem v_if_ge {a : Int32} {off : Int} {tgt : Nat} (hd : decode cc pc = .ok (.ifCond .ge off, 3)) (ht : (pc : Int) + off = (tgt : Int)) (kt : 0 ≤ a → V l G y cc nL ret R Qr cells slots tgt lv st h) (kf : ¬ 0 ≤ a → V l G y cc nL ret R Qr cells slots (pc + 3) lv st h) : V l G y cc nL ret R Qr cells slots pc lv (.int a :: st) h :=
  fun p e s m args below meth c C H locs ls hR hS hl => lv_if_ge C.1 C.2.1 hd ht (fun z => kt z p e s m args below meth c C H locs ls hR hS hl) (fun z => kf z p e s m args below meth c C H locs ls hR hS hl)
theorem v_icmp_ge {a b : Int32} {off : Int} {tgt : Nat} (hd : decode cc pc = .ok (.if_icmp .ge off, 3)) (ht : (pc : Int) + off = (tgt : Int)) (kt : b ≤ a → V l G y cc nL ret R Qr cells slots tgt lv st h) (kf : ¬ b ≤ a → V l G y cc nL ret R Qr cells slots (pc + 3) lv st h) : V l G y cc nL ret R Qr cells slots pc lv (.int b :: .int a :: st) h :=
  fun p e s m args below meth c C H locs ls hR hS hl => lv_icmp_ge C.1 C.2.1 hd ht (fun z => kt z p e s m args below meth c C H locs ls hR hS hl) (fun z => kf z p e s m args below meth c C H locs ls hR hS hl)
theorem v_if_gt {a : Int32} {off : Int} {tgt : Nat} (hd : decode cc pc = .ok (.ifCond .gt off, 3)) (ht : (pc : Int) + off = (tgt : Int)) (kt : 0 < a → V l G y cc nL ret R Qr cells slots tgt lv st h) (kf : ¬ 0 < a → V l G y cc nL ret R Qr cells slots (pc + 3) lv st h) : V l G y cc nL ret R Qr cells slots pc lv (.int a :: st) h :=
  fun p e s m args below meth c C H locs ls hR hS hl => lv_if_gt C.1 C.2.1 hd ht (fun z => kt z p e s m args below meth c C H locs ls hR hS hl) (fun z => kf z p e s m args below meth c C H locs ls hR hS hl)
theorem v_icmp_gt {a b : Int32} {off : Int} {tgt : Nat} (hd : decode cc pc = .ok (.if_icmp .gt off, 3)) (ht : (pc : Int) + off = (tgt : Int)) (kt : b < a → V l G y cc nL ret R Qr cells slots tgt lv st h) (kf : ¬ b < a → V l G y cc nL ret R Qr cells slots (pc + 3) lv st h) : V l G y cc nL ret R Qr cells slots pc lv (.int b :: .int a :: st) h :=
  fun p e s m args below meth c C H locs ls hR hS hl => lv_icmp_gt C.1 C.2.1 hd ht (fun z => kt z p e s m args below meth c C H locs ls hR hS hl) (fun z => kf z p e s m args below meth c C H locs ls hR hS hl)
theorem v_if_le {a : Int32} {off : Int} {tgt : Nat} (hd : decode cc pc = .ok (.ifCond .le off, 3)) (ht : (pc : Int) + off = (tgt : Int)) (kt : a ≤ 0 → V l G y cc nL ret R Qr cells slots tgt lv st h) (kf : ¬ a ≤ 0 → V l G y cc nL ret R Qr cells slots (pc + 3) lv st h) : V l G y cc nL ret R Qr cells slots pc lv (.int a :: st) h :=
  fun p e s m args below meth c C H locs ls hR hS hl => lv_if_le C.1 C.2.1 hd ht (fun z => kt z p e s m args below meth c C H locs ls hR hS hl) (fun z => kf z p e s m args below meth c C H locs ls hR hS hl)
theorem v_icmp_le {a b : Int32} {off : Int} {tgt : Nat} (hd : decode cc pc = .ok (.if_icmp .le off, 3)) (ht : (pc : Int) + off = (tgt : Int)) (kt : a ≤ b → V l G y cc nL ret R Qr cells slots tgt lv st h) (kf : ¬ a ≤ b → V l G y cc nL ret R Qr cells slots (pc + 3) lv st h) : V l G y cc nL ret R Qr cells slots pc lv (.int b :: .int a :: st) h :=
  fun p e s m args below meth c C H locs ls hR hS hl => lv_icmp_le C.1 C.2.1 hd ht (fun z => kt z p e s m args below meth c C H locs ls hR hS hl) (fun z => kf z p e s m args below meth c C H locs ls hR hS hl)
theorem v_goto {off : Int} {tgt : Nat} (hd : decode cc pc = .ok (.goto off, 3)) (ht : (pc : Int) + off = (tgt : Int)) (k : V l G y cc nL ret R Qr cells slots tgt lv st h) : V l G y cc nL ret R Qr cells slots pc lv (st) h :=
  fun p e s m args below meth c C H locs ls hR hS hl => lv_goto C.1 C.2.1 hd ht (k p e s m args below meth c C H locs ls hR hS hl)
theorem v_ifnonnull {x : Nat} {off : Int} {tgt : Nat} (hd : decode cc pc = .ok (.ifnonnull off, 3)) (ht : (pc : Int) + off = (tgt : Int)) (k : V l G y cc nL ret R Qr cells slots tgt lv st h) : V l G y cc nL ret R Qr cells slots pc lv (.ref x :: st) h :=
  fun p e s m args below meth c C H locs ls hR hS hl => lv_ifnonnull C.1 C.2.1 hd ht (k p e s m args below meth c C H locs ls hR hS hl)
theorem v_ifnull {x : Nat} {off : Int} (hd : decode cc pc = .ok (.ifnull off, 3)) (k : V l G y cc nL ret R Qr cells slots (pc + 3) lv st h) : V l G y cc nL ret R Qr cells slots pc lv (.ref x :: st) h :=
  fun p e s m args below meth c C H locs ls hR hS hl => lv_ifnull C.1 C.2.1 hd (k p e s m args below meth c C H locs ls hR hS hl)
theorem v_ifnullN {off : Int} {tgt : Nat} (hd : decode cc pc = .ok (.ifnull off, 3)) (ht : (pc : Int) + off = (tgt : Int)) (k : V l G y cc nL ret R Qr cells slots tgt lv st h) : V l G y cc nL ret R Qr cells slots pc lv (.null :: st) h :=
  fun p e s m args below meth c C H locs ls hR hS hl => lv_ifnullN C.1 C.2.1 hd ht (k p e s m args below meth c C H locs ls hR hS hl)
theorem v_ifnonnullN {off : Int} (hd : decode cc pc = .ok (.ifnonnull off, 3)) (k : V l G y cc nL ret R Qr cells slots (pc + 3) lv st h) : V l G y cc nL ret R Qr cells slots pc lv (.null :: st) h :=
  fun p e s m args below meth c C H locs ls hR hS hl => lv_ifnonnullN C.1 C.2.1 hd (k p e s m args below meth c C H locs ls hR hS hl)
theorem v_tableIn {dflt lo hi : Int} {offs : Array Int} {len : Nat} {x : Int32} {off : Int} {tgt : Nat} (hd : decode cc pc = .ok (.tableswitch dflt lo hi offs, len)) (h1 : ¬ x.toInt < lo) (h2 : ¬ hi < x.toInt) (ho : offs[(x.toInt - lo).toNat]? = some off) (ht : (pc : Int) + off = (tgt : Int)) (k : V l G y cc nL ret R Qr cells slots tgt lv st h) : V l G y cc nL ret R Qr cells slots pc lv (.int x :: st) h :=
  fun p e s m args below meth c C H locs ls hR hS hl => lv_tableIn C.1 C.2.1 hd h1 h2 ho ht (k p e s m args below meth c C H locs ls hR hS hl)
theorem v_tableOut {dflt lo hi : Int} {offs : Array Int} {len : Nat} {x : Int32} {tgt : Nat} (hd : decode cc pc = .ok (.tableswitch dflt lo hi offs, len)) (h1 : x.toInt < lo ∨ hi < x.toInt) (ht : (pc : Int) + dflt = (tgt : Int)) (k : V l G y cc nL ret R Qr cells slots tgt lv st h) : V l G y cc nL ret R Qr cells slots pc lv (.int x :: st) h :=
  fun p e s m args below meth c C H locs ls hR hS hl => lv_tableOut C.1 C.2.1 hd h1 ht (k p e s m args below meth c C H locs ls hR hS hl)
theorem v_lookup {dflt : Int} {ps : Array (Int × Int)} {len : Nat} {x : Int32} {off : Int} {tgt : Nat} (hd : decode cc pc = .ok (.lookupswitch dflt ps, len)) (hp : (ps.toList.zip (ps.toList.drop 1)).all (fun (a, next) => a.1 < next.1) = true) (ho : Op.lookupswitch.offset ps.toList dflt x.toInt = off) (ht : (pc : Int) + off = (tgt : Int)) (k : V l G y cc nL ret R Qr cells slots tgt lv st h) : V l G y cc nL ret R Qr cells slots pc lv (.int x :: st) h :=
  fun p e s m args below meth c C H locs ls hR hS hl => lv_lookup C.1 C.2.1 hd hp ho ht (k p e s m args below meth c C H locs ls hR hS hl)
/-- returns -/
theorem v_iret {a : Int32} (hd : decode cc pc = .ok (.ireturn, 1)) (hr : ret = some .int) (hc : cells ≤ R.cells) (hs : slots ≤ R.slots) (hq : Qr (some (.int a)) h) : V l G y cc nL ret R Qr cells slots pc lv (.int a :: []) h :=
  fun p e s m args below meth c C H locs ls hR hS hl => by
    obtain ⟨hx, hb, hml, hrt, hlocks, -⟩ := C
    exact W.widen hc hs (W.iret (v := a) hx hb (hrt.trans hr) (fun t ht hW => ⟨⟨_, h, rfl, hq, by rw [ht]; exact hR⟩, hS.F ht⟩) hS.2.2 hd)
theorem v_zret {a : Int32} {ty : FieldType} (hd : decode cc pc = .ok (.ireturn, 1)) (hr : ret = some ty) (hn : narrow ty (.int a) = .int a) (hc : cells ≤ R.cells) (hs : slots ≤ R.slots) (hq : Qr (some (.int a)) h) : V l G y cc nL ret R Qr cells slots pc lv (.int a :: []) h :=
  fun p e s m args below meth c C H locs ls hR hS hl => by
    obtain ⟨hx, hb, hml, hrt, hlocks, -⟩ := C
    exact W.widen hc hs (W.zret (v := a) (ty := ty) hx hb (hrt.trans hr) hn (fun t ht hW => ⟨⟨_, h, rfl, hq, by rw [ht]; exact hR⟩, hS.F ht⟩) hS.2.2 hd)
theorem v_lret {a : Int64} (hd : decode cc pc = .ok (.lreturn, 1)) (hr : ret = some .long) (hc : cells ≤ R.cells) (hs : slots ≤ R.slots) (hq : Qr (some (.long a)) h) : V l G y cc nL ret R Qr cells slots pc lv (.long a :: []) h :=
  fun p e s m args below meth c C H locs ls hR hS hl => by
    obtain ⟨hx, hb, hml, hrt, hlocks, -⟩ := C
    exact W.widen hc hs (W.lret (v := a) hx hb (hrt.trans hr) (fun t ht hW => ⟨⟨_, h, rfl, hq, by rw [ht]; exact hR⟩, hS.F ht⟩) hS.2.2 hd)
theorem v_aret {a : Value} {rt : FieldType} (hd : decode cc pc = .ok (.areturn, 1)) (hr : ret = some rt) (hrt0 : (∃ n, rt = .object n) ∨ ∃ t, rt = .array t) (hv : a = .null ∨ ∃ q, a = .ref q) (hc : cells ≤ R.cells) (hs : slots ≤ R.slots) (hq : Qr (some a) h) : V l G y cc nL ret R Qr cells slots pc lv (a :: []) h :=
  fun p e s m args below meth c C H locs ls hR hS hl => by
    obtain ⟨hx, hb, hml, hrt, hlocks, -⟩ := C
    exact W.widen hc hs (W.aret (v := a) hx hb (hrt.trans hr) hrt0 hv (fun t ht hW => ⟨⟨_, h, rfl, hq, by rw [ht]; exact hR⟩, hS.F ht⟩) hS.2.2 hd)
theorem v_vret (hd : decode cc pc = .ok (.return_, 1)) (hr : ret = none) (hc : cells ≤ R.cells) (hs : slots ≤ R.slots) (hq : Qr none h) : V l G y cc nL ret R Qr cells slots pc lv [] h :=
  fun p e s m args below meth c C H locs ls hR hS hl => by
    obtain ⟨hx, hb, hml, hrt, hlocks, -⟩ := C
    exact W.widen hc hs (W.vret hx hb (hrt.trans hr) (fun t ht hW => ⟨⟨_, h, rfl, hq, by rw [ht]; exact hR⟩, hS.F ht⟩) hS.2.2 hd)
theorem v_mono {lv2 : List (Nat × Value)} (hs : ∀ x ∈ lv2, x ∈ lv) (k : V l G y cc nL ret R Qr cells slots pc lv2 st h) : V l G y cc nL ret R Qr cells slots pc lv st h :=
  fun p e s m args below meth c C H locs ls hR hS hl => k p e s m args below meth c C H locs ls hR hS ⟨hl.1, hl.2.1, fun q hq => hl.2.2 q (hs q hq)⟩
theorem v_widen {k n : Nat} (h1 : cells ≤ k) (h2 : slots ≤ n) (kk : V l G y cc nL ret R Qr k n pc lv st h) : V l G y cc nL ret R Qr cells slots pc lv st h :=
  fun p e s m args below meth c C H locs ls hR hS hl => W.widen h1 h2 (kk p e s m args below meth c C H locs ls hR hS hl)
end VROWS
