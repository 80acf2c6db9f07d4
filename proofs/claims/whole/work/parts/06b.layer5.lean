/-! THE LAYER, fifth part: the script, the text of words, clone, casts. -/
section VMORE
variable {l : Launch} {G : v_G} {y : MethodName} {cc : ByteArray} {nL : Nat} {ret : Option FieldType} {R : Room} {Qr : Option Value → v_H → Prop} {cells slots pc : Nat} {lv : List (Nat × Value)} {st : List Value} {h : v_H} {index : Nat}
theorem v_sld {i : Int32} (hd : decode cc pc = .ok (.iaload, 1)) (hi : vp_in i (v_sL G)) (kk : V l G y cc nL ret R Qr cells slots (pc + 1) lv (.int (v_xs G i.toNatClampNeg) :: st) h) : V l G y cc nL ret R Qr cells slots pc lv (.int i :: .ref (v_sb G) :: st) h := by
  intro p e s m args below meth c C0 H locs ls hR hS hl
  obtain ⟨hx, hb, hml, hrt, hlocks, hfc, hts, hK, hB, hnm⟩ := id C0
  obtain ⟨-, -, -, -, -, -, -, -, -, -, -, -, h13, h14, h15⟩ := hK
  exact va_sld hx hb h13 h14 h15 hS hi hd (kk p e s m args below meth c C0 H locs ls hR hS hl)
theorem v_slen (hd : decode cc pc = .ok (.arraylength, 1)) (kk : V l G y cc nL ret R Qr cells slots (pc + 1) lv (.int (Int32.ofNat (v_sL G)) :: st) h) : V l G y cc nL ret R Qr cells slots pc lv (.ref (v_sb G) :: st) h := by
  intro p e s m args below meth c C0 H locs ls hR hS hl
  obtain ⟨hx, hb, hml, hrt, hlocks, hfc, hts, hK, hB, hnm⟩ := id C0
  obtain ⟨-, -, -, -, -, -, -, -, -, -, -, -, h13, h14, h15⟩ := hK
  exact va_slen hx hb h13 h14 h15 hS hd (kk p e s m args below meth c C0 H locs ls hR hS hl)
theorem v_ldcS (hd : decode cc pc = .ok (.ldc 66, 2)) (hy : y.cls = "RolledOut$Tape") (kk : V l G y cc nL ret R Qr cells slots (pc + 2) lv (.ref (v_str G) :: st) h) : V l G y cc nL ret R Qr cells slots pc lv st h := by
  intro p e s m args below meth c C0 H locs ls hR hS hl
  obtain ⟨hx, hb, hml, hrt, hlocks, hfc, hts, hK, hB, hnm⟩ := id C0
  rw [hy] at hfc
  obtain ⟨-, -, -, -, -, -, -, -, h9, -⟩ := hK
  exact va_ldcS hx hb hfc h9 hd (kk p e s m args below meth c C0 H locs ls hR hS hl)
theorem v_strVal (hd : decode cc pc = .ok (.getfield index, 3)) (hlink : Cond.fieldLink y.cls index "java/lang/String" "value" "[B" ∈ v_W) (kk : V l G y cc nL ret R Qr cells slots (pc + 3) lv (.ref (v_strV G) :: st) h) : V l G y cc nL ret R Qr cells slots pc lv (.ref (v_str G) :: st) h := by
  intro p e s m args below meth c C0 H locs ls hR hS hl
  obtain ⟨hx, hb, hml, hrt, hlocks, hfc, hts, hK, hB, hnm⟩ := id C0
  obtain ⟨-, -, -, -, -, -, -, -, -, h10, -⟩ := hK
  exact vk_getf hx hb (h10.1 0 (by decide)).2.2.1 hS hfc (hts _ hlink) (fun _ h9 => h9) hd (kk p e s m args below meth c C0 H locs ls hR hS hl)
theorem v_strCod (hd : decode cc pc = .ok (.getfield index, 3)) (hlink : Cond.fieldLink y.cls index "java/lang/String" "coder" "B" ∈ v_W) (kk : V l G y cc nL ret R Qr cells slots (pc + 3) lv (.int 0 :: st) h) : V l G y cc nL ret R Qr cells slots pc lv (.ref (v_str G) :: st) h := by
  intro p e s m args below meth c C0 H locs ls hR hS hl
  obtain ⟨hx, hb, hml, hrt, hlocks, hfc, hts, hK, hB, hnm⟩ := id C0
  obtain ⟨-, -, -, -, -, -, -, -, -, h10, -⟩ := hK
  exact vk_getf hx hb (h10.1 0 (by decide)).2.1 hS hfc (hts _ hlink) (fun _ h9 => h9) hd (kk p e s m args below meth c C0 H locs ls hR hS hl)
theorem v_strLen (hd : decode cc pc = .ok (.arraylength, 1)) (kk : V l G y cc nL ret R Qr cells slots (pc + 1) lv (.int 130 :: st) h) : V l G y cc nL ret R Qr cells slots pc lv (.ref (v_strV G) :: st) h := by
  intro p e s m args below meth c C0 H locs ls hR hS hl
  obtain ⟨hx, hb, hml, hrt, hlocks, hfc, hts, hK, hB, hnm⟩ := id C0
  obtain ⟨-, -, -, -, -, -, -, -, -, h10, -⟩ := hK
  exact va_tlen hx hb (h10.1 0 (by decide)).2.2.2 hS rfl hd (kk p e s m args below meth c C0 H locs ls hR hS hl)
theorem v_strLd {i : Int32} (hd : decode cc pc = .ok (.baload, 1)) (hi : vp_in i 130) (kk : V l G y cc nL ret R Qr cells slots (pc + 1) lv (.int (v_words.getD i.toNatClampNeg 0) :: st) h) : V l G y cc nL ret R Qr cells slots pc lv (.int i :: .ref (v_strV G) :: st) h := by
  intro p e s m args below meth c C0 H locs ls hR hS hl
  obtain ⟨hx, hb, hml, hrt, hlocks, hfc, hts, hK, hB, hnm⟩ := id C0
  obtain ⟨-, -, -, -, -, -, -, -, -, h10, -⟩ := hK
  exact va_tb hx hb (h10.1 0 (by decide)).2.2.2 hS hi rfl hd (kk p e s m args below meth c C0 H locs ls hR hS hl)
theorem v_getCS (hd : decode cc pc = .ok (.getstatic index, 3)) (hlink : Cond.fieldLink y.cls index "java/lang/String" "COMPACT_STRINGS" "Z" ∈ v_W) (kk : V l G y cc nL ret R Qr cells slots (pc + 3) lv (.int 1 :: st) h) : V l G y cc nL ret R Qr cells slots pc lv st h := by
  intro p e s m args below meth c C0 H locs ls hR hS hl
  obtain ⟨hx, hb, hml, hrt, hlocks, hfc, hts, hK, hB, hnm⟩ := id C0
  obtain ⟨-, -, -, -, -, -, -, h8, -⟩ := hK
  exact va_gets hx hb h8 hS hfc (hts _ hlink) (fun _ h9 => h9) hd (kk p e s m args below meth c C0 H locs ls hR hS hl)
theorem v_getSF (hd : decode cc pc = .ok (.getstatic index, 3)) (hlink : Cond.fieldLink y.cls index "jdk/internal/util/Preconditions" "SIOOBE_FORMATTER" "Ljava/util/function/BiFunction;" ∈ v_W) (kk : ∀ r : Option Nat, V l G y cc nL ret R Qr cells slots (pc + 3) lv (va_rf r :: st) h) : V l G y cc nL ret R Qr cells slots pc lv st h := by
  intro p e s m args below meth c C0 H locs ls hR hS hl
  obtain ⟨hx, hb, hml, hrt, hlocks, hfc, hts, hK, hB, hnm⟩ := id C0
  obtain ⟨-, -, -, -, -, -, -, -, -, -, -, h12, -⟩ := hK
  rcases h12 with h12 | ⟨t, h12⟩
  · exact va_gets hx hb h12 hS hfc (hts _ hlink) (fun _ h9 => h9) hd (kk none p e s m args below meth c C0 H locs ls hR hS hl)
  · exact va_gets hx hb h12 hS hfc (hts _ hlink) (fun _ h9 => h9) hd (kk (some t) p e s m args below meth c C0 H locs ls hR hS hl)
/-- an int array's clone -/
theorem v_clone {a n : Nat} {f : Nat → Int32} (hd : decode cc pc = .ok (.invokevirtual index, 3)) (hlink : Cond.methodLink y.cls index ⟨"[I", "clone", "()Ljava/lang/Object;"⟩ ∈ v_W) (hsame : Cond.sameMethod "[I" "java/lang/Object" "clone" "()Ljava/lang/Object;" ∈ v_W) (hnat : Cond.native ⟨"java/lang/Object", "clone", "()Ljava/lang/Object;"⟩ ∈ v_W) (hinst : Cond.instanceMethod ⟨"java/lang/Object", "clone", "()Ljava/lang/Object;"⟩ ∈ v_W)
    (hsel : Cond.selects "[I" ⟨"[I", "clone", "()Ljava/lang/Object;"⟩ ⟨"java/lang/Object", "clone", "()Ljava/lang/Object;"⟩ ∈ v_W) (ha : h.1 a = some (.inl (0, n, .inl f))) (hfr : 1 ≤ R.frames) (hlo : (st.map fun v => v.category).sum + 14 ≤ R.locals) (hcells : cells + 1 ≤ R.cells) (hslots : slots + n ≤ R.slots)
    (kk : V l G y cc nL ret R Qr (cells + 1) (slots + n) (pc + 3) lv (.ref h.2 :: st) (v_push h (.inl (0, n, .inl f)))) : V l G y cc nL ret R Qr cells slots pc lv (.ref a :: st) h := by
  intro p e s m args below meth c C0 H locs ls hR hS hl
  obtain ⟨hx, hb, hml, hrt, hlocks, hfc, hts, hK, hB, hnm⟩ := id C0
  obtain ⟨hK1, -, -, -, -, -, -, -, -, -, h11, -⟩ := id hK
  have hnmA : s.vm.findClass "[I" = some (G.2.1 0) := (hK1.2 0 _ rfl).2
  have hsz : (vp_cell (G.2.1 0) (n, .inl f)).slots.size = n := arrV_size _ _ _
  obtain ⟨c0, t0', f1, f2, f3⟩ := Cond.castable_spec (va_Nw.use (A := args) rfl h11)
  cases hnmA.symm.trans f1
  intro T hT X
  have hcellT : T.heap[a]? = some (vp_cell (G.2.1 0) (n, .inl f)) := by rw [hT]; exact hR.2 a _ ha
  obtain ⟨-, kA, hkA, comp, hkind⟩ := State.isArrayOf_alike X.warmed.alike ((hK1.2 0 _ rfl).1 0 (fun _ => .null))
  obtain ⟨-, kS, hkS, compS, hkindS⟩ := (hK1.2 0 _ rfl).1 0 (fun _ => .null)
  obtain ⟨vm', X', step⟩ := X.cloneArray hx hfc (hts _ hlink) (hts _ hsame) (hts _ hnat) (hts _ hinst) (hts _ hsel) (a := a) (cell := vp_cell (G.2.1 0) (n, .inl f)) hcellT (fun k h => by cases h) (fun h => by cases h) hnmA f2 f3
    (fun i v hv => by
      have hk' : T.vm.classes[G.2.1 0]? = some kA := hkA
      have hv' : (arrV (G.2.1 0) n (fun j => Value.int (f j))).slots[i]? = some v := hv
      have hlt : i < n := by
        have := (Array.getElem?_eq_some_iff.mp hv').1
        rwa [arrV_size] at this
      rw [arrV_read _ _ hlt] at hv'
      cases hv'
      show T.fitsSlot (G.2.1 0) .none i (.int (f i)) = true
      simp [State.fitsSlot, State.slotType?, hk', hkind, fits])
    (g := F0 m pc ls (.ref a :: st)) rfl (by rw [hml]; exact hl.1) rfl (by rw [hb]; exact hd) hfr (by show 2 * 0 + _ + 14 ≤ _; omega) hcells (by rw [hsz]; exact hslots) (hloader := Vm.clonesLoader_of_array hkS hkindS)
  have hcellE : ({ cls := (vp_cell (G.2.1 0) (n, .inl f)).cls, slots := (vp_cell (G.2.1 0) (n, .inl f)).slots } : Cell) = vp_cell (G.2.1 0) (n, .inl f) := rfl
  rw [hcellE, hsz] at X'
  generalize hH1 : H.push (vp_cell (G.2.1 0) (n, .inl f)) = H1
  have z1 : H1.size = h.2 + 1 := by rw [← hH1, Array.size_push, hR.1]
  have e1 : H1[h.2]? = some (vp_cell (G.2.1 0) (n, .inl f)) := by rw [← hH1, ← hR.1, Array.getElem?_push_size]
  have o1 : ∀ q : Nat, q < h.2 → H1[q]? = H[q]? := fun q hq => by rw [← hH1, Array.getElem?_push, if_neg (Nat.ne_of_lt (by rw [hR.1]; exact hq))]
  obtain ⟨t, b1, b2⟩ := kk p e s m args below meth c C0 H1 locs ls (v_R_push hR e1 z1 o1) ⟨Nat.le_trans hS.1 (by rw [z1, hR.1]; omega), fun x h1 h2 => (o1 x (by rw [← hR.1]; exact Nat.lt_of_lt_of_le h1 hS.1)).trans (hS.2.1 x h1 h2), hS.2.2⟩ hl
    ((T.setVm vm').pushCell (vp_cell (G.2.1 0) (n, .inl f))) (by rw [← hH1, ← hT]; rfl) X'
  refine ⟨t, step t ?_, b2⟩
  rw [hcellE, hT, hR.1]
  exact b1
theorem v_castI {a n : Nat} {f : Nat → Int32} (hd : decode cc pc = .ok (.checkcast index, 3)) (hlink : Cond.classLink y.cls index "[I" ∈ v_W) (ha : h.1 a = some (.inl (0, n, .inl f))) (kk : V l G y cc nL ret R Qr cells slots (pc + 3) lv (.ref a :: st) h) : V l G y cc nL ret R Qr cells slots pc lv (.ref a :: st) h := by
  intro p e s m args below meth c C0 H locs ls hR hS hl
  obtain ⟨hx, hb, hml, hrt, hlocks, hfc, hts, hK, hB, hnm⟩ := id C0
  exact va_castA hx hb hfc (hts _ hlink) (v_one hR ha) 0 rfl (hK.1.2 0 _ rfl).2 hd (kk p e s m args below meth c C0 H locs ls hR hS hl)
end VMORE
