/-! TOOLS of the mirrors: a mirror is a function of the state that answers none where the machine would throw, and some where it goes through. -/
def chk {α : Type} (b : Bool) (x : Option α) : Option α := if b = true then x else none
theorem chk_some {α : Type} {b : Bool} {x : Option α} {r : α} (h : chk b x = some r) : b = true ∧ x = some r := by
  unfold chk at h
  by_cases hb : b = true
  · rw [if_pos hb] at h; exact ⟨hb, h⟩
  · rw [if_neg hb] at h; cases h
theorem chk_true {α : Type} {b : Bool} {x : Option α} (hb : b = true) : chk b x = x := if_pos hb
def bnd {α β : Type} (x : Option α) (f : α → Option β) : Option β := match x with
  | none => none
  | some v => f v
theorem bnd_some {α β : Type} {x : Option α} {f : α → Option β} {r : β} (h : bnd x f = some r) : ∃ v, x = some v ∧ f v = some r := by
  cases x with
  | none => cases h
  | some v => exact ⟨v, rfl, h⟩
theorem bnd_of {α β : Type} {x : Option α} {v : α} (h : x = some v) (f : α → Option β) : bnd x f = f v := by rw [h]; rfl
def lt {α β : Type} (x : α) (f : α → Option β) : Option β := f x
theorem lt_of {α β : Type} {x : α} {f : α → Option β} {r : β} (h : lt x f = some r) : f x = some r := h
def inb (i : Int32) (n : Nat) : Bool := !(decide (i < 0) || decide (n ≤ i.toNatClampNeg))
theorem inb_in {i : Int32} {n : Nat} (h : inb i n = true) : vp_in i n := by
  unfold inb at h
  simp at h
  rintro (q | q)
  · exact absurd q (by simpa using h.1)
  · omega
def nz (b : Int32) : Bool := !(decide (b = 0))
theorem nz_ne {b : Int32} (h : nz b = true) : ¬ b = 0 := by
  unfold nz at h
  simpa using h
def nzL (b : Int64) : Bool := !(decide (b = 0))
theorem nzL_ne {b : Int64} (h : nzL b = true) : ¬ b = 0 := by
  unfold nzL at h
  simpa using h
def isz (v : Int32) : Bool := decide (v = 0) || decide (v = 1)
theorem isz_or {v : Int32} (h : isz v = true) : v = 0 ∨ v = 1 := by
  unfold isz at h
  simpa using h
def QV (h : v_H) : Option Value → v_H → Prop := fun v h' => v = none ∧ h' = h
def QI (r : Int32) (h : v_H) : Option Value → v_H → Prop := fun v h' => v = some (.int r) ∧ h' = h
def QL (r : Int64) (h : v_H) : Option Value → v_H → Prop := fun v h' => v = some (.long r) ∧ h' = h
def QA (r : Value) (h : v_H) : Option Value → v_H → Prop := fun v h' => v = some r ∧ h' = h
theorem sw_out {x : Int32} {lo hi : Int} (n : Nat) (hn : lo + n = hi + 1) (h : ∀ k : Nat, k < n → ¬ x = Int32.ofInt (lo + k)) : x.toInt < lo ∨ hi < x.toInt := by
  rcases Int.lt_or_le x.toInt lo with q | q
  · exact Or.inl q
  · rcases Int.lt_or_le hi x.toInt with q2 | q2
    · exact Or.inr q2
    · refine absurd ?_ (h (x.toInt - lo).toNat (by omega))
      have : lo + ((x.toInt - lo).toNat : Int) = x.toInt := by omega
      rw [this]
      exact (Int32.ofInt_toInt x).symm
theorem ix_steps {w : Nat} {i : Int32} (hw : w < 2) (hi : vp_in i 30) : 31 * w + 1 + i.toNatClampNeg < 66 := by
  have : i.toNatClampNeg < 30 := Nat.not_le.mp fun q => hi (Or.inr q)
  omega
theorem ix_tries {i : Int32} (hi : vp_in i 4) : 62 + i.toNatClampNeg < 66 := by
  have : i.toNatClampNeg < 4 := Nat.not_le.mp fun q => hi (Or.inr q)
  omega
theorem ix_sheet {w : Nat} (hw : w < 2) : 31 * w < 66 := by omega
section VTOOLS
variable {l : Launch} {G : v_G} {y : MethodName} {cc : ByteArray} {nL : Nat} {ret : Option FieldType} {R : Room} {Qr : Option Value → v_H → Prop} {cells slots pc : Nat} {lv : List (Nat × Value)} {st st0 : List Value} {h h2 : v_H}
variable {y2 : MethodName} {cc2 : ByteArray} {nL2 : Nat} {ret2 : Option FieldType} {d2 : Nat} {av : List Value} {index nA : Nat}
theorem v_sub {lv2 : List (Nat × Value)} (ks : List Nat) (hs : lv_pick lv ks = lv2) (k : V l G y cc nL ret R Qr cells slots pc lv2 st h) : V l G y cc nL ret R Qr cells slots pc lv st h :=
  fun p e s m args below meth c C H locs ls hR hS hl => k p e s m args below meth c C H locs ls hR hS (lv_sub hl ks hs)
theorem v_callSv (hM : v_M l G y2 cc2 nL2 ret2 d2 0 0 av h (QV h2)) (hd : decode cc pc = .ok (.invokestatic index, 3)) (hY : v_YS y2 cc2 nL2 ret2 nA) (hlink : Cond.methodLink y.cls index y2 ∈ v_W) (hn : av.length = nA) (hst : st0 = av.reverse ++ st) (hw : (st.map fun v => v.category).sum ≤ 8) (hrm : d2 + 1 ≤ R.frames ∧ 8 + (nL2 + 11) + 64 * d2 ≤ R.locals) (hf : cells ≤ R.cells ∧ slots ≤ R.slots)
    (kk : V l G y cc nL ret R Qr cells slots (pc + 3) lv st h2) : V l G y cc nL ret R Qr cells slots pc lv st0 h := v_callS hM hd hY hlink hn hst hw hrm hf (fun v h' hq => by obtain ⟨rfl, rfl⟩ := hq; exact kk)
theorem v_callSi {r : Int32} (hM : v_M l G y2 cc2 nL2 ret2 d2 0 0 av h (QI r h2)) (hd : decode cc pc = .ok (.invokestatic index, 3)) (hY : v_YS y2 cc2 nL2 ret2 nA) (hlink : Cond.methodLink y.cls index y2 ∈ v_W) (hn : av.length = nA) (hst : st0 = av.reverse ++ st) (hw : (st.map fun v => v.category).sum ≤ 8) (hrm : d2 + 1 ≤ R.frames ∧ 8 + (nL2 + 11) + 64 * d2 ≤ R.locals) (hf : cells ≤ R.cells ∧ slots ≤ R.slots)
    (kk : V l G y cc nL ret R Qr cells slots (pc + 3) lv (.int r :: st) h2) : V l G y cc nL ret R Qr cells slots pc lv st0 h := v_callS hM hd hY hlink hn hst hw hrm hf (fun v h' hq => by obtain ⟨rfl, rfl⟩ := hq; exact kk)
theorem v_callSl {r : Int64} (hM : v_M l G y2 cc2 nL2 ret2 d2 0 0 av h (QL r h2)) (hd : decode cc pc = .ok (.invokestatic index, 3)) (hY : v_YS y2 cc2 nL2 ret2 nA) (hlink : Cond.methodLink y.cls index y2 ∈ v_W) (hn : av.length = nA) (hst : st0 = av.reverse ++ st) (hw : (st.map fun v => v.category).sum ≤ 8) (hrm : d2 + 1 ≤ R.frames ∧ 8 + (nL2 + 11) + 64 * d2 ≤ R.locals) (hf : cells ≤ R.cells ∧ slots ≤ R.slots)
    (kk : V l G y cc nL ret R Qr cells slots (pc + 3) lv (.long r :: st) h2) : V l G y cc nL ret R Qr cells slots pc lv st0 h := v_callS hM hd hY hlink hn hst hw hrm hf (fun v h' hq => by obtain ⟨rfl, rfl⟩ := hq; exact kk)
theorem v_callVv {b ci : Nat} {fs As : List Value} {r0 : vw_C} (hM : v_M l G y2 cc2 nL2 ret2 d2 0 0 (.ref b :: As) h (QV h2)) (hd : decode cc pc = .ok (.invokevirtual index, 3)) (hY : v_YV y2 cc2 nL2 ret2 nA) (hlink : Cond.methodLink y.cls index y2 ∈ v_W) (hc : vwCl[ci]? = some r0) (hr : r0.1 = y2.cls) (hb0 : h.1 b = some (.inr (ci, fs))) (hn : As.length = nA) (hst : st0 = As.reverse ++ .ref b :: st) (hw : (st.map fun v => v.category).sum ≤ 8) (hrm : d2 + 1 ≤ R.frames ∧ 8 + (nL2 + 11) + 64 * d2 ≤ R.locals) (hf : cells ≤ R.cells ∧ slots ≤ R.slots)
    (kk : V l G y cc nL ret R Qr cells slots (pc + 3) lv st h2) : V l G y cc nL ret R Qr cells slots pc lv st0 h := v_callV hM hd hY hlink hc hr hb0 hn hst hw hrm hf (fun v h' hq => by obtain ⟨rfl, rfl⟩ := hq; exact kk)
theorem v_callVi {b ci : Nat} {fs As : List Value} {r0 : vw_C} {r : Int32} (hM : v_M l G y2 cc2 nL2 ret2 d2 0 0 (.ref b :: As) h (QI r h2)) (hd : decode cc pc = .ok (.invokevirtual index, 3)) (hY : v_YV y2 cc2 nL2 ret2 nA) (hlink : Cond.methodLink y.cls index y2 ∈ v_W) (hc : vwCl[ci]? = some r0) (hr : r0.1 = y2.cls) (hb0 : h.1 b = some (.inr (ci, fs))) (hn : As.length = nA) (hst : st0 = As.reverse ++ .ref b :: st) (hw : (st.map fun v => v.category).sum ≤ 8) (hrm : d2 + 1 ≤ R.frames ∧ 8 + (nL2 + 11) + 64 * d2 ≤ R.locals) (hf : cells ≤ R.cells ∧ slots ≤ R.slots)
    (kk : V l G y cc nL ret R Qr cells slots (pc + 3) lv (.int r :: st) h2) : V l G y cc nL ret R Qr cells slots pc lv st0 h := v_callV hM hd hY hlink hc hr hb0 hn hst hw hrm hf (fun v h' hq => by obtain ⟨rfl, rfl⟩ := hq; exact kk)
theorem v_callVl {b ci : Nat} {fs As : List Value} {r0 : vw_C} {r : Int64} (hM : v_M l G y2 cc2 nL2 ret2 d2 0 0 (.ref b :: As) h (QL r h2)) (hd : decode cc pc = .ok (.invokevirtual index, 3)) (hY : v_YV y2 cc2 nL2 ret2 nA) (hlink : Cond.methodLink y.cls index y2 ∈ v_W) (hc : vwCl[ci]? = some r0) (hr : r0.1 = y2.cls) (hb0 : h.1 b = some (.inr (ci, fs))) (hn : As.length = nA) (hst : st0 = As.reverse ++ .ref b :: st) (hw : (st.map fun v => v.category).sum ≤ 8) (hrm : d2 + 1 ≤ R.frames ∧ 8 + (nL2 + 11) + 64 * d2 ≤ R.locals) (hf : cells ≤ R.cells ∧ slots ≤ R.slots)
    (kk : V l G y cc nL ret R Qr cells slots (pc + 3) lv (.long r :: st) h2) : V l G y cc nL ret R Qr cells slots pc lv st0 h := v_callV hM hd hY hlink hc hr hb0 hn hst hw hrm hf (fun v h' hq => by obtain ⟨rfl, rfl⟩ := hq; exact kk)
theorem v_callVr {b ci : Nat} {fs As : List Value} {r0 : vw_C} {r : Value} (hM : v_M l G y2 cc2 nL2 ret2 d2 0 0 (.ref b :: As) h (QA r h2)) (hd : decode cc pc = .ok (.invokevirtual index, 3)) (hY : v_YV y2 cc2 nL2 ret2 nA) (hlink : Cond.methodLink y.cls index y2 ∈ v_W) (hc : vwCl[ci]? = some r0) (hr : r0.1 = y2.cls) (hb0 : h.1 b = some (.inr (ci, fs))) (hn : As.length = nA) (hst : st0 = As.reverse ++ .ref b :: st) (hw : (st.map fun v => v.category).sum ≤ 8) (hrm : d2 + 1 ≤ R.frames ∧ 8 + (nL2 + 11) + 64 * d2 ≤ R.locals) (hf : cells ≤ R.cells ∧ slots ≤ R.slots)
    (kk : V l G y cc nL ret R Qr cells slots (pc + 3) lv (r :: st) h2) : V l G y cc nL ret R Qr cells slots pc lv st0 h := v_callV hM hd hY hlink hc hr hb0 hn hst hw hrm hf (fun v h' hq => by obtain ⟨rfl, rfl⟩ := hq; exact kk)
end VTOOLS
