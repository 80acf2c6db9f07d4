/-- what the reference and the class must do, in numbers alone: for every script the mirror of the law answers 1 -/
def PURE : Prop := ∀ (xs : Nat → Int32) (sL : Nat), sL ≤ 3072 → ∃ (N : Nat) (r0 r : St), f_X10_initb N S00 = some r0 ∧ f_L_law_b18 xs sL N 513 0 r0 = some ((1 : Int32), r)
/-! THE CLAIM OUT OF ONE WALK OF THE LAW'S BODY. Your part is whole_start (and what it stands on); all else here is the same for every law, but numbers. -/
def R_law : String := "RolledOutLaw"
def lw_P (b : Addr) (xs : List Int32) (args : Array Value) (s : State) : Prop := args = #[.ref b] ∧ s.IntsAt b xs ∧ xs.length ≤ 3072 ∧ (Jvm.Cond.and given_1 narrow_1).before args s = true
def lw_Q (_ : Array Value) (s : State) (o : Outcome) (t : State) : Prop := o = .returned (some (.int 1)) ∧ Framed s o t [] 600000 7302249
def lw_Z (below : List Frame) (a : Array Value) (s : State) : State → Prop := fun t => ∃ o, t.status = .running ∧ Ended t below o ∧ lw_Q a s o t
/-- what holds at the law's entry: the machine, the code, the tables' words (any of lw_tbl by 'hts w (by decide +kernel)'), the script of L ints xs at the cell b, what the Statement gives of the start (any of its parts by flat_of_before) -/
def lw_At (p : Program) (s : State) (m : MethodId) (meth : Method) (c : Code) (b L : Nat) (xs : Nat → Int32) : Prop :=
  p.tables.exec = Jvm.exec ∧ c.code = code ∧ meth.sig.returnType = ret ∧ c.maxLocals = 4 ∧ s.vm.findClass R_law = some m.cls ∧ (∀ w ∈ lw_tbl, w.before #[Value.ref b] s = true) ∧ va_X b L xs s s.heap ∧ b < s.heap.size ∧ meth.locks = false ∧ (Jvm.Cond.and given_1 narrow_1).before #[Value.ref b] s = true ∧ meth.name = "law"

theorem fl_words : ∀ j, j < 130 → Cond.eq (.elem (.field (.string "RolledOut$Tape" 66) "java/lang/String" "value" "[B") (.int (Int32.ofNat j))) (.int (v_words.getD j 0)) ∈ flatC (Jvm.Cond.and given_1 narrow_1) := by decide +kernel
theorem arr_of {s : State} {cA comp : ClassId} {kA : Class} {ty : FieldType} (h2 : s.vm.classes[cA]? = some kA) (h3 : kA.kind = .array comp ty) : ArrOfT s cA ty := fun n z => ⟨fun k h => (by cases h), kA, h2, comp, h3⟩
theorem start_K {s : State} {b L : Nat} {xs : Nat → Int32} (hts : ∀ w ∈ lw_tbl, w.before #[Value.ref b] s = true) (hX : va_X b L xs s s.heap) (hbl : b < s.heap.size) (hgv : (Jvm.Cond.and given_1 narrow_1).before #[Value.ref b] s = true) : ∃ G : v_G, v_K G s ∧ v_B G = s.heap.size ∧ v_sb G = b ∧ v_sL G = L ∧ v_xs G = xs := by
  have hW : ∀ w ∈ v_W, w.before #[Value.ref b] s = true := fun w hw => hts w (List.mem_filter.mp hw).1
  have hs := flat_of_before _ hgv
  obtain ⟨c0, i0, k0⟩ := u_known (C := RX1) (T := TX1) (N := 12) hW i_X1 (hW _ ib_X1)
  obtain ⟨c1, i1, k1⟩ := u_known (C := RX2) (T := TX2) (N := 6) hW i_X2 (hW _ ib_X2)
  obtain ⟨c2, i2, k2⟩ := u_known (C := RX3) (T := TX3) (N := 2) hW i_X3 (hW _ ib_X3)
  obtain ⟨c3, i3, k3⟩ := u_known (C := RX4) (T := TX4) (N := 9) hW i_X4 (hW _ ib_X4)
  obtain ⟨c4, i4, k4⟩ := u_known (C := RX5) (T := TX5) (N := 6) hW i_X5 (hW _ ib_X5)
  obtain ⟨c5, i5, k5⟩ := u_known (C := RX6) (T := TX6) (N := 3) hW i_X6 (hW _ ib_X6)
  obtain ⟨c6, i6, k6⟩ := u_known (C := RX7) (T := TX7) (N := 8) hW i_X7 (hW _ ib_X7)
  obtain ⟨c7, i7, k7⟩ := u_known (C := RX8) (T := TX8) (N := 12) hW i_X8 (hW _ ib_X8)
  obtain ⟨c8, i8, k8⟩ := u_known (C := RX9) (T := TX9) (N := 7) hW i_X9 (hW _ ib_X9)
  obtain ⟨c9, i9, k9⟩ := u_known (C := RX10) (T := TX10) (N := 29) hW i_X10 (hW _ ib_X10)
  obtain ⟨aI, kI, qI, f1, f2, f3⟩ := Cond.arrayClass_spec (hW _ ac_int)
  obtain ⟨aJ, kJ, qJ, g1, g2, g3⟩ := Cond.arrayClass_spec (hW _ ac_long)
  obtain ⟨aZ, kZ, qZ, e1, e2, e3⟩ := Cond.arrayClass_spec (hW _ ac_boolean)
  have oS : va_AO "RolledOut$Sheet" s := va_AO.of (hts (.arrayOver (.object "RolledOut$Sheet")) (List.mem_of_getElem? (i := 185) (by decide +kernel)))
  have oT : va_AO "RolledOut$Text" s := va_AO.of (hts (.arrayOver (.object "RolledOut$Text")) (List.mem_of_getElem? (i := 187) (by decide +kernel)))
  obtain ⟨pS, aS, kS, s1, -, s3, s4, s5⟩ := Cond.arrayOver_spec oS
  obtain ⟨pT, aT, kT, t1, -, t3, t4, t5⟩ := Cond.arrayOver_spec oT
  have hA : ∀ a : Nat, a < s.heap.size → ¬ (fun q : Nat => s.heap.size ≤ q) a := fun a h => Nat.not_le.mpr h
  obtain ⟨tN, n1, n2⟩ := va_Tof (tm := .static "RolledOut$Text" "NO_LAW" "[I") (ty := .int) (N := 0) (f := fun _ => .int 0) (A := fun q : Nat => s.heap.size ≤ q) (by decide) (hs (.arrayOf (.static "RolledOut$Text" "NO_LAW" "[I") .int) (by decide +kernel)) (va_eqt (hs (.eq (.length (.static "RolledOut$Text" "NO_LAW" "[I")) (.int 0)) (by decide +kernel))) (fun j hj => absurd hj (Nat.not_lt_zero _)) hA
  have z1 := va_Zof (hts (.laysStatic "RolledOut$Text" "NO_LAW" "[I") (List.mem_of_getElem? (i := 352) (by decide +kernel))) (hW _ ini_X6) n1 hA
  have z2 := va_Zof (hts (.laysStatic "java/lang/String" "COMPACT_STRINGS" "Z") (List.mem_of_getElem? (i := 491) (by decide +kernel))) (hW _ ini_String) (va_eqt (hs (.eq (.static "java/lang/String" "COMPACT_STRINGS" "Z") (.int 1)) (by decide +kernel))) hA
  have z3 := va_Zqof (hts (.laysStatic "jdk/internal/util/Preconditions" "SIOOBE_FORMATTER" "Ljava/util/function/BiFunction;") (List.mem_of_getElem? (i := 507) (by decide +kernel))) (hW _ ini_Preconditions) (hs (.isRef (.static "jdk/internal/util/Preconditions" "SIOOBE_FORMATTER" "Ljava/util/function/BiFunction;")) (by decide +kernel)) hA
  obtain ⟨adK, adV, w1, w2⟩ := vk_Sof (N := 1) (tm := fun _ => .string "RolledOut$Tape" 66) (len := [130]) (byt := [v_words]) (A := fun q : Nat => s.heap.size ≤ q) (by decide) (fun i hi => hs _ (by decide +kernel)) (fun i hi => hs _ (by decide +kernel)) (fun i hi => hs _ (by decide +kernel)) (fun i hi => by
      have : i = 0 := by omega
      subst this
      exact hs (.eq (.length (.field (.string "RolledOut$Tape" 66) "java/lang/String" "value" "[B")) (.int 130)) (by decide +kernel)) (fun i hi j hj => by
      have : i = 0 := by omega
      subst this
      exact hs _ (fl_words j hj)) (fun i j hi hj hij => absurd (by omega : i = j) hij) hA
  refine ⟨((fun k => ([c0, c1, c2, c3, c4, c5, c6, c7, c8, c9] : List Nat).getD k 0, fun k => ([i0, i1, i2, i3, i4, i5, i6, i7, i8, i9] : List (Nat → Nat)).getD k (fun _ => 0)), fun k => ([aI, aJ, aZ, aS, aT] : List Nat).getD k 0, s.heap.size, tN, adK 0, adV 0, b, L, xs), ⟨⟨?_, ?_⟩, z1, n2, va_Nw.of rfl (hts (.methodLinkNest "RolledOut" 39 ⟨"RolledOut$Shape", "<init>", "()V"⟩ "RolledOut") (List.mem_of_getElem? (i := 303) (by decide +kernel))), va_Nw.of rfl (hts (.methodLinkNest "RolledOut" 46 ⟨"RolledOut$Tape", "<init>", "()V"⟩ "RolledOut") (List.mem_of_getElem? (i := 316) (by decide +kernel))), oS, oT, z2, vk_R.of (hts (.stringRef "RolledOut$Tape" 66 "moves tears hand dough town left right trim patch turn at by then else end if cell torn strength who next not square sheet or and ") (List.mem_of_getElem? (i := 481) (by decide +kernel))) (w2 0 (by decide)), ?_, va_Nw.of rfl (hts (.castable "[I" "java/lang/Cloneable") (List.mem_of_getElem? (i := 622) (by decide +kernel))), z3, hX, hbl, hA b hbl⟩, rfl, rfl, rfl, rfl⟩
  · intro c q hq
    match c, hq with
    | 0, hq => cases hq; exact k0
    | 1, hq => cases hq; exact k1
    | 2, hq => cases hq; exact k2
    | 3, hq => cases hq; exact k3
    | 4, hq => cases hq; exact k4
    | 5, hq => cases hq; exact k5
    | 6, hq => cases hq; exact k6
    | 7, hq => cases hq; exact k7
    | 8, hq => cases hq; exact k8
    | 9, hq => cases hq; exact k9
    | c + 10, hq => simp at hq
  · intro k q hq
    match k, hq with
    | 0, hq => cases hq; exact ⟨arr_of f2 f3, f1⟩
    | 1, hq => cases hq; exact ⟨arr_of g2 g3, g1⟩
    | 2, hq => cases hq; exact ⟨arr_of e2 e3, e1⟩
    | 3, hq => cases hq; exact ⟨arr_of s3 s4, kS, pS, s3, s4, s1, s5⟩
    | 4, hq => cases hq; exact ⟨arr_of t3 t4, kT, pT, t3, t4, t1, t5⟩
    | k + 5, hq => simp [v_tys] at hq
  · refine ⟨fun i hi => ?_, fun i j hi hj _ => by omega⟩
    have : i = 0 := by omega
    subst this
    exact w1.1 0 (by decide)
/-- from the entry: the law comes to its end with true -/
theorem whole_start_open (hp : PURE) {p : Program} {e : Env} {s : State} {m : MethodId} {below : List Frame} {meth : Method} {c : Code} (l : Launch) (hflags : l.flags = flags0) {b L : Nat} {xs : Nat → Int32} (hL : L ≤ 3072) (C0 : lw_At p s m meth c b L xs) : W p l e room_1 s m #[Value.ref b] below meth c s.heap [] 0 0 (lw_Z below #[Value.ref b] s) (entryFrame m ([Value.ref b] : List Value).toArray 4) := by
  obtain ⟨hx, hb, hr, hml, hown, hts, hX, hbl, hlocks, hgv, hnm⟩ := id C0
  obtain ⟨G, hK, hGB, hGb, hGL, hGx⟩ := start_K hts hX hbl hgv
  obtain ⟨N, r0, r, h1, h2⟩ := hp xs L hL
  have kk := law_V (l := l) (G := G) (N := N) (r0 := r0) (r := r) h1 (by rw [hGx, hGL]; exact h2) p e s m #[Value.ref b] below meth c ⟨hx, hb, hml, hr, hlocks, hown, fun w hw => hts w (List.mem_filter.mp hw).1, hK, by rw [hGB]; exact Nat.le_refl _, hnm⟩ s.heap [] _ ⟨by show s.heap.size = v_B G; exact hGB.symm, fun a e h => by cases h⟩ va_S.rf (by have := lv_entry ([.ref b]) (n := 4) (Nat.le_of_ble_eq_true rfl); rw [hGb]; exact this)
  rw [lg_entry_eq]
  intro T hT X
  obtain ⟨t, a1, o, o1, o2, ⟨⟨v, h', hv, ⟨hv2, -⟩, -⟩, -⟩, LL, hF, hLL⟩ := kk T hT X
  refine ⟨t, a1, o, o1, o2, ?_, ?_⟩
  · rw [hv, hv2]
  · obtain ⟨q1, q2, q3⟩ := hF
    exact ⟨q1, q2, q3.weaken (fun y hy hlt => absurd hlt (Nat.not_lt.mpr (by have := hLL y hy; unfold v_A at this; rw [hGB] at this; exact this))) (Nat.le_refl _) (Nat.le_refl _)⟩
