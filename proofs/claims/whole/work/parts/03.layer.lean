/-! THE LAYER: a judgement V over the kit's W, that speaks of an abstract heap (a function of addresses, and a size), of a list of locals and of a stack alone; each row of the kit once, as a row of V. -/
def v_W : List Cond := lw_tbl.filter goodWord
theorem v_in {w : Cond} (h : w ∈ lw_tbl) (g : goodWord w = true) : w ∈ v_W := List.mem_filter.mpr ⟨h, g⟩
theorem v_at (i : Nat) {w : Cond} (h : lw_tbl[i]? = some w) (g : goodWord w = true) : w ∈ v_W := v_in (List.mem_of_getElem? h) g
theorem v_goodIn {w : Cond} (h : w ∈ v_W) : GoodIn v_W (w :: v_W) := by
  intro x hx
  have key : ∀ x ∈ v_W, x ∈ v_W ∧ ((x.onTables && x.keeps) = true ∨ ∃ ty, x = .arrayClass ty) := fun x hx => ⟨hx, good_of_word (List.mem_filter.mp hx).2⟩
  rcases List.mem_cons.mp hx with rfl | hx
  · exact key _ h
  · exact key _ hx
/-- the fixed things of a run: classes and slots, array classes, where our cells begin, where the empty law lies -/
abbrev v_G : Type := va_G × (Nat → ClassId) × Nat × Nat
abbrev v_H : Type := (Nat → Option va_E) × Nat
def v_tys (G : v_G) : List (ClassId × FieldType) := [(G.2.1 0, .int), (G.2.1 1, .long), (G.2.1 2, .boolean), (G.2.1 3, .object "RolledOut$Sheet"), (G.2.1 4, .object "RolledOut$Text")]
def v_E (G : v_G) (e : va_E) : va_E := match e with
  | .inl (t, x) => .inl (G.2.1 t, x)
  | .inr o => .inr o
def v_R (G : v_G) (h : v_H) (H : Heap) : Prop := H.size = h.2 ∧ ∀ (a : Nat) (e : va_E), h.1 a = some e → va_at G.1 vwCl (a, v_E G e) H
def v_A (G : v_G) : Nat → Prop := fun q => G.2.2.1 ≤ q
def v_up (h : v_H) (a : Nat) (e : va_E) : v_H := (fun q => if q = a then some e else h.1 q, h.2)
def v_push (h : v_H) (e : va_E) : v_H := (fun q => if q = h.2 then some e else h.1 q, h.2 + 1)
def v_K (G : v_G) (U : State) : Prop := va_K G.1 vwCl (v_tys G) U ∧ va_Z "RolledOut$Text" "NO_LAW" "[I" (.ref G.2.2.2) (v_A G) U U.heap ∧ va_Nw (.methodLinkNest "RolledOut" 26 ⟨"RolledOut$Shape", "<init>", "()V"⟩ "RolledOut") U ∧ va_Nw (.methodLinkNest "RolledOut" 32 ⟨"RolledOut$Tape", "<init>", "()V"⟩ "RolledOut") U ∧ va_AO "RolledOut$Sheet" U ∧ va_AO "RolledOut$Text" U
def v_C (G : v_G) (y : MethodName) (cc : ByteArray) (nL : Nat) (ret : Option FieldType) (p : Program) (s : State) (m : MethodId) (args : Array Value) (meth : Method) (c : Code) : Prop :=
  p.tables.exec = Jvm.exec ∧ c.code = cc ∧ c.maxLocals = nL ∧ meth.sig.returnType = ret ∧ meth.locks = false ∧ s.vm.findClass y.cls = some m.cls ∧ (∀ w ∈ v_W, w.before args s = true) ∧ v_K G s ∧ G.2.2.1 ≤ s.heap.size ∧ meth.name = y.name
def v_Q (G : v_G) (Qr : Option Value → v_H → Prop) : Array Value → State → Outcome → State → Prop := fun _ st oc t => (∃ (v : Option Value) (h : v_H), oc = .returned v ∧ Qr v h ∧ v_R G h t.heap) ∧ va_F (v_A G) st t
def v_Pre (G : v_G) (h : v_H) (U : State) : Prop := G.2.2.1 ≤ U.heap.size ∧ v_R G h U.heap ∧ v_K G U
def v_rm (d k n : Nat) : Room := { frames := d, cells := k, slots := n, locals := 64 * d }
/-- a method's contract: from these arguments and this heap it returns, and Qr holds of its answer and the heap behind it -/
def v_M (l : Launch) (G : v_G) (y : MethodName) (cc : ByteArray) (nL : Nat) (ret : Option FieldType) (d k n : Nat) (av : List Value) (h : v_H) (Qr : Option Value → v_H → Prop) : Prop :=
  Met l y (.code y cc nL ret :: v_W) (v_rm d k n) (va_Pc av (v_Pre G h)) (v_Q G Qr) k n (v_A G)
/-- the machine within a method at pc, with these locals, this stack and this heap, comes to the method's end, and there Qr holds -/
def V (l : Launch) (G : v_G) (y : MethodName) (cc : ByteArray) (nL : Nat) (ret : Option FieldType) (R : Room) (Qr : Option Value → v_H → Prop) (cells slots pc : Nat) (lv : List (Nat × Value)) (st : List Value) (h : v_H) : Prop :=
  ∀ (p : Program) (e : Env) (s : State) (m : MethodId) (args : Array Value) (below : List Frame) (meth : Method) (c : Code), v_C G y cc nL ret p s m args meth c →
    ∀ (H : Heap) (locs : List Loc) (ls : Array Slot), v_R G h H → va_S (v_A G) s.heap H locs → lv_has ls nL lv →
      W p l e R s m args below meth c H locs cells slots (MQ below (v_Q G Qr) args s R.cells R.slots (v_A G)) (F0 m pc ls st)
theorem v_A_of {G : v_G} {s : State} (hB : G.2.2.1 ≤ s.heap.size) : ∀ q, s.heap.size ≤ q → v_A G q := fun _ h => Nat.le_trans hB h
/-- the contract out of the walk from its entry -/
theorem v_entry {l : Launch} {G : v_G} {y : MethodName} {cc : ByteArray} {nL : Nat} {ret : Option FieldType} {d k n : Nat} {av : List Value} {h : v_H} {Qr : Option Value → v_H → Prop} (hy : plainName y.cls = true) (hn : (lg_sl av).length ≤ nL)
    (kk : V l G y cc nL ret (v_rm d k n) Qr 0 0 0 (lv_args 0 av) [] h) : v_M l G y cc nL ret d k n av h Qr := by
  refine Met.ofW (cc := cc) (maxL := nL) (ret := ret) hy rfl ?_
  intro p e s m args below meth c s₁ B hml hv
  obtain ⟨rfl, hB, hR, hK⟩ := hv
  have hts := atoms_spec (ws := .code y cc nL ret :: v_W) B.pre
  have hl := lv_entry av (n := nL) hn
  rw [lg_entry_eq]
  exact kk p e s m _ below meth c ⟨B.exec, B.bytes, hml, B.returns, B.notSynchronized, findClass_of_methodNamed B.named, fun w hw => hts w (List.mem_cons_of_mem _ hw), hK, hB, (name_of_methodNamed B.named B.method).1⟩ s.heap [] _ hR va_S.rf hl
