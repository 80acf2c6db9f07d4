/-! THE LAYER, second part: the heap's rows, calls. -/
section VHEAP
variable {l : Launch} {G : v_G} {y : MethodName} {cc : ByteArray} {nL : Nat} {ret : Option FieldType} {R : Room} {Qr : Option Value → v_H → Prop} {cells slots pc : Nat} {lv : List (Nat × Value)} {st : List Value} {h : v_H}
theorem v_one {G : v_G} {h : v_H} {H : Heap} {a : Nat} {e : va_E} (hR : v_R G h H) (ha : h.1 a = some e) : va_P G.1 vwCl [(a, v_E G e)] H := by
  intro k q hk
  match k, hk with
  | 0, hk => cases hk; exact hR.2 a e ha
  | k + 1, hk => simp at hk
theorem v_get {own C : String} {T : u_T} {N ci index a k : Nat} {fs : List Value} {v : Value} (hd : decode cc pc = .ok (.getfield index, 3)) (hown : y.cls = own) (hc : vwCl[ci]? = some (C, T, N)) (hin : ∀ w ∈ u_ws C T N, w ∈ v_W) (hk : k < N) (hlink : Cond.fieldLink own index (T k).1 (T k).2.1 (T k).2.2.1 ∈ v_W)
    (ha : h.1 a = some (.inr (ci, fs))) (hv : fs[k]? = some v) (kk : V l G y cc nL ret R Qr cells slots (pc + 3) lv (v :: st) h) : V l G y cc nL ret R Qr cells slots pc lv (.ref a :: st) h := by
  intro p e s m args below meth c C0 H locs ls hR hS hl
  obtain ⟨hx, hb, hml, hrt, hlocks, hfc, hts, hK, hB, hnm⟩ := id C0
  subst hown
  exact va_get hx hb hts hin hfc hK.1 (v_one hR ha) 0 rfl hc k hk (hts _ hlink) (fun _ h9 => h9) hv hd (kk p e s m args below meth c C0 H locs ls hR hS hl)
theorem v_put {own C : String} {T : u_T} {N ci index a k : Nat} {fs : List Value} {v : Value} {ty : FieldType} (ty0 : Nat → FieldType) (hty : ∀ k, k < N → parseFieldDescriptor (T k).2.2.1 = some (ty0 k)) (hnm0 : ∀ a, a < N → ∀ b, b < N → a ≠ b → (T a).2.1 ≠ (T b).2.1) (hd : decode cc pc = .ok (.putfield index, 3)) (hown : y.cls = own) (hc : vwCl[ci]? = some (C, T, N)) (hin : ∀ w ∈ u_ws C T N, w ∈ v_W) (hk : k < N) (hlink : Cond.fieldLink own index (T k).1 (T k).2.1 (T k).2.2.1 ∈ v_W)
    (hfin : (T k).2.2.2 = false) (hds : parseFieldDescriptor (T k).2.2.1 = some ty) (hn : narrow ty v = v) (hfit : fits ty v = true) (hlen : k < fs.length) (hA : v_B G ≤ a)
    (ha : h.1 a = some (.inr (ci, fs))) (kk : V l G y cc nL ret R Qr cells slots (pc + 3) lv st (v_up h a (.inr (ci, fs.set k v)))) : V l G y cc nL ret R Qr cells slots pc lv (v :: .ref a :: st) h := by
  intro p e s m args below meth c C0 H locs ls hR hS hl
  obtain ⟨hx, hb, hml, hrt, hlocks, hfc0, hts, hK, hB, hnm⟩ := id C0
  subst hown
  have hap := va_apart (own := y.cls) hts hin ty0 hty hnm0 hK.1 hc
  obtain ⟨r, h1, cell, q1, q2, q3, q4⟩ := hR.2 a _ ha
  have hr : r = (C, T, N) := Option.some.inj (h1.symm.trans hc)
  subst hr
  obtain ⟨hS1, hfc, kC, hkC, hkind⟩ := hK.1.1 ci _ hc
  obtain ⟨cf, kf, fi, f, hi, hsl⟩ := hS1 k hk
  have hlay := hts _ (hin _ (u_in_lay hk))
  unfold u_lay at hlay
  rw [if_neg (by rw [hfin]; decide)] at hlay
  have hst := (u_facts hfc hkC (u_lays hts hin hk) hi).1
  have h6 := u_store hfc hkC hkind hlay hi hds hn hfit
  refine W.putK hx hb (f := f) ⟨hfc0, hts _ hlink, ⟨_, _, _, hi⟩, hst⟩ (by rw [q2]; exact h6) q1 q3 (by rw [hsl]; exact k2_hasslot (q4 k hk)) rfl rfl hd fun H' e1 e2 e3 => ?_
  rw [hsl] at e1 ⊢
  exact kk p e s m args below meth c C0 H' _ ls (v_R_up hR ⟨_, hc, t_OB.to (V := updV (vp_V fs) k v) ⟨_, e1, q2, q3, t_set q4 hap hk v⟩ (fun j _ => vp_updV_set hlen v j)⟩ e2 e3) (hS.put e2 e3 hA) hl
theorem v_putF {own C : String} {T : u_T} {N ci index a k : Nat} {fs : List Value} {v : Value} {ty : FieldType} (ty0 : Nat → FieldType) (hty : ∀ k, k < N → parseFieldDescriptor (T k).2.2.1 = some (ty0 k)) (hnm0 : ∀ a, a < N → ∀ b, b < N → a ≠ b → (T a).2.1 ≠ (T b).2.1) (hd : decode cc pc = .ok (.putfield index, 3)) (hown : y.cls = own) (hc : vwCl[ci]? = some (C, T, N)) (hin : ∀ w ∈ u_ws C T N, w ∈ v_W) (hk : k < N) (hlink : Cond.fieldLink own index (T k).1 (T k).2.1 (T k).2.2.1 ∈ v_W)
    (hfin : (T k).2.2.2 = true) (hin2 : y.name = "<init>") (hdecl : (T k).1 = own) (hds : parseFieldDescriptor (T k).2.2.1 = some ty) (hn : narrow ty v = v) (hfit : fits ty v = true) (hlen : k < fs.length) (hA : v_B G ≤ a)
    (ha : h.1 a = some (.inr (ci, fs))) (kk : V l G y cc nL ret R Qr cells slots (pc + 3) lv st (v_up h a (.inr (ci, fs.set k v)))) : V l G y cc nL ret R Qr cells slots pc lv (v :: .ref a :: st) h := by
  intro p e s m args below meth c C0 H locs ls hR hS hl
  obtain ⟨hx, hb, hml, hrt, hlocks, hfc0, hts, hK, hB, hnm⟩ := id C0
  subst hown
  have hap := va_apart (own := y.cls) hts hin ty0 hty hnm0 hK.1 hc
  obtain ⟨r, h1, cell, q1, q2, q3, q4⟩ := hR.2 a _ ha
  have hr : r = (C, T, N) := Option.some.inj (h1.symm.trans hc)
  subst hr
  obtain ⟨hS1, hfc, kC, hkC, hkind⟩ := hK.1.1 ci _ hc
  obtain ⟨cf, kf, fi, f, hi, hsl⟩ := hS1 k hk
  have hlay := hts _ (hin _ (u_in_lay hk))
  unfold u_lay at hlay
  rw [if_pos hfin] at hlay
  have hst := (u_facts hfc hkC (u_lays hts hin hk) hi).1
  have hcf : m.cls = cf := by
    obtain ⟨_, _, c', _, _, _, -, -, hf', -, -, -, hown2, -⟩ := Cond.laysFinal_spec hlay
    have e1 : c' = cf := by have := hi.symm.trans hf'; simp at this; exact this.1.symm
    rw [hdecl] at hown2
    rw [← e1]; exact Option.some.inj (hfc0.symm.trans hown2)
  have h6 := u_fits hfc hkC hkind (Or.inr hlay) hi hds hn hfit
  refine W.putFinK hx hb hfc0 (hts _ hlink) hi hst hcf (hnm.trans hin2) (by rw [q2]; exact h6) q1 q3 (by rw [hsl]; exact k2_hasslot (q4 k hk)) rfl rfl hd fun H' e1 e2 e3 => ?_
  rw [hsl] at e1 ⊢
  exact kk p e s m args below meth c C0 H' _ ls (v_R_up hR ⟨_, hc, t_OB.to (V := updV (vp_V fs) k v) ⟨_, e1, q2, q3, t_set q4 hap hk v⟩ (fun j _ => vp_updV_set hlen v j)⟩ e2 e3) (hS.put e2 e3 hA) hl
theorem v_iald {a n : Nat} {f : Nat → Int32} {i : Int32} (hd : decode cc pc = .ok (.iaload, 1)) (ha : h.1 a = some (.inl (0, n, .inl f))) (hi : vp_in i n) (kk : V l G y cc nL ret R Qr cells slots (pc + 1) lv (.int (f i.toNatClampNeg) :: st) h) : V l G y cc nL ret R Qr cells slots pc lv (.int i :: .ref a :: st) h := by
  intro p e s m args below meth c C0 H locs ls hR hS hl
  exact va_iald C0.1 C0.2.1 C0.2.2.2.2.2.2.2.1.1 (v_one hR ha) 0 0 rfl rfl hi hd (kk p e s m args below meth c C0 H locs ls hR hS hl)
theorem v_lald {a n : Nat} {f : Nat → Int64} {i : Int32} (hd : decode cc pc = .ok (.laload, 1)) (ha : h.1 a = some (.inl (1, n, .inr (.inl f)))) (hi : vp_in i n) (kk : V l G y cc nL ret R Qr cells slots (pc + 1) lv (.long (f i.toNatClampNeg) :: st) h) : V l G y cc nL ret R Qr cells slots pc lv (.int i :: .ref a :: st) h := by
  intro p e s m args below meth c C0 H locs ls hR hS hl
  exact va_lald C0.1 C0.2.1 C0.2.2.2.2.2.2.2.1.1 (v_one hR ha) 0 1 rfl rfl hi hd (kk p e s m args below meth c C0 H locs ls hR hS hl)
theorem v_zald {a n : Nat} {f : Nat → Int32} {i : Int32} (hd : decode cc pc = .ok (.baload, 1)) (ha : h.1 a = some (.inl (2, n, .inl f))) (hi : vp_in i n) (kk : V l G y cc nL ret R Qr cells slots (pc + 1) lv (.int (f i.toNatClampNeg) :: st) h) : V l G y cc nL ret R Qr cells slots pc lv (.int i :: .ref a :: st) h := by
  intro p e s m args below meth c C0 H locs ls hR hS hl
  exact va_zald C0.1 C0.2.1 C0.2.2.2.2.2.2.2.1.1 (v_one hR ha) 0 2 rfl rfl hi hd (kk p e s m args below meth c C0 H locs ls hR hS hl)
theorem v_aaldS {a n : Nat} {f : Nat → Option Nat} {i : Int32} (hd : decode cc pc = .ok (.aaload, 1)) (ha : h.1 a = some (.inl (3, n, .inr (.inr (.inr (.inr f)))))) (hi : vp_in i n) (kk : V l G y cc nL ret R Qr cells slots (pc + 1) lv (va_rf (f i.toNatClampNeg) :: st) h) : V l G y cc nL ret R Qr cells slots pc lv (.int i :: .ref a :: st) h := by
  intro p e s m args below meth c C0 H locs ls hR hS hl
  exact va_aldq C0.1 C0.2.1 C0.2.2.2.2.2.2.2.1.1 (v_one hR ha) 0 3 rfl rfl hi hd (kk p e s m args below meth c C0 H locs ls hR hS hl)
theorem v_aaldT {a n : Nat} {f : Nat → Option Nat} {i : Int32} (hd : decode cc pc = .ok (.aaload, 1)) (ha : h.1 a = some (.inl (4, n, .inr (.inr (.inr (.inr f)))))) (hi : vp_in i n) (kk : V l G y cc nL ret R Qr cells slots (pc + 1) lv (va_rf (f i.toNatClampNeg) :: st) h) : V l G y cc nL ret R Qr cells slots pc lv (.int i :: .ref a :: st) h := by
  intro p e s m args below meth c C0 H locs ls hR hS hl
  exact va_aldq C0.1 C0.2.1 C0.2.2.2.2.2.2.2.1.1 (v_one hR ha) 0 4 rfl rfl hi hd (kk p e s m args below meth c C0 H locs ls hR hS hl)
theorem v_alen {a t : Nat} {ty : FieldType} {x : vp_A} (hd : decode cc pc = .ok (.arraylength, 1)) (ht : t < 5) (ha : h.1 a = some (.inl (t, x))) (kk : V l G y cc nL ret R Qr cells slots (pc + 1) lv (.int (Int32.ofNat x.1) :: st) h) : V l G y cc nL ret R Qr cells slots pc lv (.ref a :: st) h := by
  intro p e s m args below meth c C0 H locs ls hR hS hl
  have k := kk p e s m args below meth c C0 H locs ls hR hS hl
  have hK := C0.2.2.2.2.2.2.2.1.1
  have hP := v_one hR ha
  match t, ht with
  | 0, _ => exact va_alen C0.1 C0.2.1 hK hP 0 0 rfl rfl rfl hd k
  | 1, _ => exact va_alen C0.1 C0.2.1 hK hP 0 1 rfl rfl rfl hd k
  | 2, _ => exact va_alen C0.1 C0.2.1 hK hP 0 2 rfl rfl rfl hd k
  | 3, _ => exact va_alen C0.1 C0.2.1 hK hP 0 3 rfl rfl rfl hd k
  | 4, _ => exact va_alen C0.1 C0.2.1 hK hP 0 4 rfl rfl rfl hd k
theorem v_alenN (hd : decode cc pc = .ok (.arraylength, 1)) (kk : V l G y cc nL ret R Qr cells slots (pc + 1) lv (.int 0 :: st) h) : V l G y cc nL ret R Qr cells slots pc lv (.ref (v_tN G) :: st) h := by
  intro p e s m args below meth c C0 H locs ls hR hS hl
  exact va_tlen C0.1 C0.2.1 C0.2.2.2.2.2.2.2.1.2.2.1 hS rfl hd (kk p e s m args below meth c C0 H locs ls hR hS hl)
theorem v_iast {a n : Nat} {f : Nat → Int32} {i x : Int32} (hd : decode cc pc = .ok (.iastore, 1)) (hA : v_B G ≤ a) (ha : h.1 a = some (.inl (0, n, .inl f))) (hi : vp_in i n) (kk : V l G y cc nL ret R Qr cells slots (pc + 1) lv st (v_up h a (.inl (0, n, .inl (upd f i.toNatClampNeg x))))) : V l G y cc nL ret R Qr cells slots pc lv (.int x :: .int i :: .ref a :: st) h := by
  intro p e s m args below meth c C0 H locs ls hR hS hl
  refine W.iast C0.1 C0.2.1 (hR.2 a _ ha) ((C0.2.2.2.2.2.2.2.1.1.2 0 _ rfl).1 n (fun j => .int (f j))) (fun q => by cases q) (by show ¬ (i < 0 ∨ (arrV _ _ _).slots.size ≤ _); rw [arrV_size]; exact hi) rfl rfl hd fun H1 e1 z oq => ?_
  refine kk p e s m args below meth c C0 H1 _ ls (v_R_up hR ?_ z oq) (hS.put z oq hA) hl
  show H1[a]? = some (vp_cell _ _)
  rw [e1]
  show some (Cell.setSlot (vp_cell _ (n, .inl f)) _ _) = _
  rw [vp_cell_i, vp_cell_i, arrV_store]
  congr 2
  funext q
  by_cases hq : q = i.toNatClampNeg
  · subst hq
    simp [updV, upd]
  · simp [updV, upd, hq]
theorem v_last {a n : Nat} {f : Nat → Int64} {i : Int32} {x : Int64} (hd : decode cc pc = .ok (.lastore, 1)) (hA : v_B G ≤ a) (ha : h.1 a = some (.inl (1, n, .inr (.inl f)))) (hi : vp_in i n) (kk : V l G y cc nL ret R Qr cells slots (pc + 1) lv st (v_up h a (.inl (1, n, .inr (.inl (vp_updL f i.toNatClampNeg x)))))) : V l G y cc nL ret R Qr cells slots pc lv (.long x :: .int i :: .ref a :: st) h := by
  intro p e s m args below meth c C0 H locs ls hR hS hl
  refine W.last C0.1 C0.2.1 (hR.2 a _ ha) ((C0.2.2.2.2.2.2.2.1.1.2 1 _ rfl).1 n (fun j => .long (f j))) (fun q => by cases q) (by show ¬ (i < 0 ∨ (arrV _ _ _).slots.size ≤ _); rw [arrV_size]; exact hi) rfl rfl hd fun H1 e1 z oq => ?_
  refine kk p e s m args below meth c C0 H1 _ ls (v_R_up hR ?_ z oq) (hS.put z oq hA) hl
  show H1[a]? = some (vp_cell _ _)
  rw [e1]
  show some (Cell.setSlot (vp_cell _ (n, .inr (.inl f))) _ _) = _
  rw [vp_cell_l, vp_cell_l, arrV_store]
  congr 2
  funext q
  by_cases hq : q = i.toNatClampNeg
  · subst hq
    simp [updV, vp_updL]
  · simp [updV, vp_updL, hq]
theorem v_zast {a n : Nat} {f : Nat → Int32} {i x : Int32} (hd : decode cc pc = .ok (.bastore, 1)) (hA : v_B G ≤ a) (ha : h.1 a = some (.inl (2, n, .inl f))) (hi : vp_in i n) (hx0 : narrow .boolean (.int x) = .int x) (kk : V l G y cc nL ret R Qr cells slots (pc + 1) lv st (v_up h a (.inl (2, n, .inl (upd f i.toNatClampNeg x))))) : V l G y cc nL ret R Qr cells slots pc lv (.int x :: .int i :: .ref a :: st) h := by
  intro p e s m args below meth c C0 H locs ls hR hS hl
  refine W.zast C0.1 C0.2.1 (hR.2 a _ ha) ((C0.2.2.2.2.2.2.2.1.1.2 2 _ rfl).1 n (fun j => .int (f j))) (fun q => by cases q) (by show ¬ (i < 0 ∨ (arrV _ _ _).slots.size ≤ _); rw [arrV_size]; exact hi) rfl rfl hd fun H1 e1 z oq => ?_
  refine kk p e s m args below meth c C0 H1 _ ls (v_R_up hR ?_ z oq) (hS.put z oq hA) hl
  show H1[a]? = some (vp_cell _ _)
  rw [e1, hx0]
  show some (Cell.setSlot (vp_cell _ (n, .inl f)) _ _) = _
  rw [vp_cell_i, vp_cell_i, arrV_store]
  congr 2
  funext q
  by_cases hq : q = i.toNatClampNeg
  · subst hq
    simp [updV, upd]
  · simp [updV, upd, hq]
/-- a store of a reference: into an array of the class's own -/
theorem v_aast {a n t ci b : Nat} {r : vw_C} {f : Nat → Option Nat} {vs : List Value} {i : Int32} (hd : decode cc pc = .ok (.aastore, 1)) (hA : v_B G ≤ a) (ht : (v_tys G)[t]? = some (G.2.1 t, .object r.1)) (hc : vwCl[ci]? = some r) (ha : h.1 a = some (.inl (t, n, .inr (.inr (.inr (.inr f)))))) (hb : h.1 b = some (.inr (ci, vs))) (hi : vp_in i n) (kk : V l G y cc nL ret R Qr cells slots (pc + 1) lv st (v_up h a (.inl (t, n, .inr (.inr (.inr (.inr (va_up f i.toNatClampNeg (some b))))))))) : V l G y cc nL ret R Qr cells slots pc lv (.ref b :: .int i :: .ref a :: st) h := by
  intro p e s m args below meth c C0 H locs ls hR hS hl
  have hK := C0.2.2.2.2.2.2.2.1.1
  have hlt : i.toNatClampNeg < n := Nat.not_le.mp fun q => hi (Or.inr q)
  have h0 : ¬ i < 0 := fun q => hi (Or.inl q)
  obtain ⟨r', hr', cellV, g1, g2, g3, -⟩ := hR.2 b _ hb
  have hcls := (hK.1 ci r hc).2
  obtain ⟨kA, comp, k1, k2, k3, -⟩ := (hK.2 t _ ht).2
  have hcomp : comp = G.1.1 ci := Option.some.inj (k3.symm.trans hcls.1)
  subst hcomp
  obtain ⟨kC, hkC, -⟩ := hcls.2
  refine W.aast C0.1 C0.2.1 (hR.2 a _ ha) (fun q h => by cases h) (fun h => by cases h) k1 k2 rfl hkC ⟨h0, by show _ < (arrV _ _ _).slots.size; rw [arrV_size]; exact hlt⟩ g1 (fun q h => by rw [g3] at h; cases h) (by rw [g2]; exact hkC) (by rw [g2]; exact va_assign hcls) rfl rfl hd fun H1 e1 z oq => ?_
  refine kk p e s m args below meth c C0 H1 _ ls (v_R_up hR ?_ z oq) (hS.put z oq hA) hl
  show H1[a]? = some (vp_cell _ _)
  rw [e1]
  show some (Cell.setSlot (vp_cell _ (n, .inr (.inr (.inr (.inr f))))) _ _) = _
  rw [vp_cell_q, vp_cell_q, arrV_store]
  congr 2
  funext q
  by_cases hq : q = i.toNatClampNeg
  · subst hq
    simp [updV, va_up, va_rf]
  · simp [updV, va_up, hq]
theorem v_aastN {a n t : Nat} {C : String} {f : Nat → Option Nat} {i : Int32} (hd : decode cc pc = .ok (.aastore, 1)) (hA : v_B G ≤ a) (ht : (v_tys G)[t]? = some (G.2.1 t, .object C)) (ha : h.1 a = some (.inl (t, n, .inr (.inr (.inr (.inr f)))))) (hi : vp_in i n) (kk : V l G y cc nL ret R Qr cells slots (pc + 1) lv st (v_up h a (.inl (t, n, .inr (.inr (.inr (.inr (va_up f i.toNatClampNeg none)))))))) : V l G y cc nL ret R Qr cells slots pc lv (.null :: .int i :: .ref a :: st) h := by
  intro p e s m args below meth c C0 H locs ls hR hS hl
  have hK := C0.2.2.2.2.2.2.2.1.1
  refine va_WaastN (C := C) C0.1 C0.2.1 (hR.2 a _ ha) ((hK.2 t _ ht).1 n (fun j => va_rf (f j))) (fun h => by cases h) (by show ¬ (i < 0 ∨ (arrV _ _ _).slots.size ≤ _); rw [arrV_size]; exact hi) rfl rfl hd fun H1 e1 z oq => ?_
  refine kk p e s m args below meth c C0 H1 _ ls (v_R_up hR ?_ z oq) (hS.put z oq hA) hl
  show H1[a]? = some (vp_cell _ _)
  rw [e1]
  show some (Cell.setSlot (vp_cell _ (n, .inr (.inr (.inr (.inr f))))) _ _) = _
  rw [vp_cell_q, vp_cell_q, arrV_store]
  congr 2
  funext q
  by_cases hq : q = i.toNatClampNeg
  · subst hq
    simp [updV, va_up, va_rf]
  · simp [updV, va_up, hq]
theorem v_getNL {own : String} {index : Nat} (hd : decode cc pc = .ok (.getstatic index, 3)) (hown : y.cls = own) (hlink : Cond.fieldLink own index "RolledOut$Text" "NO_LAW" "[I" ∈ v_W) (kk : V l G y cc nL ret R Qr cells slots (pc + 3) lv (.ref (v_tN G) :: st) h) : V l G y cc nL ret R Qr cells slots pc lv st h := by
  intro p e s m args below meth c C0 H locs ls hR hS hl
  obtain ⟨hx, hb, hml, hrt, hlocks, hfc, hts, hK, hB, hnm⟩ := id C0
  subst hown
  exact va_gets hx hb hK.2.1 hS hfc (hts _ hlink) (fun _ h9 => h9) hd (kk p e s m args below meth c C0 H locs ls hR hS hl)
theorem v_new {own C : String} {T : u_T} {N ci index : Nat} {fs : List Value} (ty0 : Nat → FieldType) (hty : ∀ k, k < N → parseFieldDescriptor (T k).2.2.1 = some (ty0 k)) (hd : decode cc pc = .ok (.new index, 3)) (hown : y.cls = own) (hc : vwCl[ci]? = some (C, T, N)) (hin : ∀ w ∈ u_ws C T N, w ∈ v_W) (hcl : Cond.classLink own index C ∈ v_W) (hinst : Cond.instantiable C N ∈ v_W) (hini : Cond.initialized C ∈ v_W) (hfs : ∀ j, j < N → defaultValue (ty0 j) = vp_V fs j) (hcells : cells + 1 ≤ R.cells) (hslots : slots + N ≤ R.slots)
    (kk : V l G y cc nL ret R Qr (cells + 1) (slots + N) (pc + 3) lv (.ref h.2 :: st) (v_push h (.inr (ci, fs)))) : V l G y cc nL ret R Qr cells slots pc lv st h := by
  intro p e s m args below meth c C0 H locs ls hR hS hl
  obtain ⟨hx, hb, hml, hrt, hlocks, hfc, hts, hK, hB, hnm⟩ := id C0
  subst hown
  have hKn := hK.1.1 ci _ hc
  refine W.newcK hx hb hfc (hts _ hcl) (hts _ hinst) (hts _ hini) rfl hd hcells hslots hKn.2.1 hR.1 fun H1 kC hkC e1 z1 o1 => ?_
  refine kk p e s m args below meth c C0 H1 locs ls (v_R_push hR ⟨_, hc, (u_born ty0 hts hin hKn hkC e1 hty).to hfs⟩ z1 o1) ⟨Nat.le_trans hS.1 (by rw [z1, hR.1]; omega), fun x h1 h2 => (o1 x (by rw [← hR.1]; exact Nat.lt_of_lt_of_le h1 hS.1)).trans (hS.2.1 x h1 h2), hS.2.2⟩ hl
/-- a new array of numbers: t its number among the types -/
theorem v_newa {atype : ArrayType} {t N : Nat} {ty : FieldType} {n : Int32} {a0 : vp_A} (hd : decode cc pc = .ok (.newarray atype, 2)) (hty : newarray.typeOf atype = ty) (hw : Cond.arrayClass ty ∈ v_W) (ht : (v_tys G)[t]? = some (G.2.1 t, ty)) (hnr : ∀ C, ty ≠ .object C) (ha : ∀ cA : ClassId, vp_cell cA a0 = arrV cA N (fun _ => defaultValue ty)) (hn : ¬ n < 0) (hN : n.toNatClampNeg = N) (hbytes : N * componentBytes ty ≤ 536870912) (hcells : cells + 1 ≤ R.cells) (hslots : slots + N ≤ R.slots)
    (kk : V l G y cc nL ret R Qr (cells + 1) (slots + N) (pc + 2) lv (.ref h.2 :: st) (v_push h (.inl (t, a0)))) : V l G y cc nL ret R Qr cells slots pc lv (.int n :: st) h := by
  intro p e s m args below meth c C0 H locs ls hR hS hl
  obtain ⟨hx, hb, hml, hrt, hlocks, hfc, hts, hK, hB, hnm⟩ := id C0
  subst hty
  refine va_newaK hx hb (hts _ hw) rfl hd rfl hn hN hbytes hcells hslots hR.1 fun H1 cA e1 z1 o1 hAr hNm => ?_
  have hcA : cA = G.2.1 t := by
    have h1 := (hK.1.2 t _ ht).2
    have h2 : s.vm.findClass ("[" ++ (newarray.typeOf atype).toString) = some (G.2.1 t) := by
      cases atype <;> exact h1
    exact Option.some.inj (hNm.symm.trans h2)
  subst hcA
  refine kk p e s m args below meth c C0 H1 locs ls (v_R_push hR (show H1[h.2]? = some (vp_cell _ _) by rw [ha]; exact e1) z1 o1) ⟨Nat.le_trans hS.1 (by rw [z1, hR.1]; omega), fun x h1 h2 => (o1 x (by rw [← hR.1]; exact Nat.lt_of_lt_of_le h1 hS.1)).trans (hS.2.1 x h1 h2), hS.2.2⟩ hl
theorem v_anew {own C : String} {index t : Nat} {n : Int32} {N : Nat} (hd : decode cc pc = .ok (.anewarray index, 3)) (hown : y.cls = own) (hcl : Cond.classLink own index C ∈ v_W) (hover : ∀ s, v_K G s → va_AO C s) (ht : (v_tys G)[t]? = some (G.2.1 t, .object C)) (hn : ¬ n < 0) (hN : n.toNatClampNeg = N) (hbytes : N * 4 ≤ 536870912) (hcells : cells + 1 ≤ R.cells) (hslots : slots + N ≤ R.slots)
    (kk : V l G y cc nL ret R Qr (cells + 1) (slots + N) (pc + 3) lv (.ref h.2 :: st) (v_push h (.inl (t, N, .inr (.inr (.inr (.inr (fun _ => none)))))))) : V l G y cc nL ret R Qr cells slots pc lv (.int n :: st) h := by
  intro p e s m args below meth c C0 H locs ls hR hS hl
  obtain ⟨hx, hb, hml, hrt, hlocks, hfc, hts, hK, hB, hnm⟩ := id C0
  subst hown
  subst hN
  refine W.anew hx hb hfc (hts _ hcl) (va_AO.use (hover s hK)) rfl hd rfl hn hbytes hcells hslots fun cA kA comp f1 f2 f3 f4 => ?_
  have hcA : cA = G.2.1 t := by
    obtain ⟨_, _, -, -, -, h2⟩ := (hK.1.2 t _ ht).2
    exact Option.some.inj (f1.symm.trans h2)
  subst hcA
  generalize hH1 : H.push ({ cls := G.2.1 t, slots := Array.replicate n.toNatClampNeg .null, vm := .none } : Cell) = H1
  have z1 : H1.size = h.2 + 1 := by rw [← hH1, Array.size_push, hR.1]
  have e1 : H1[h.2]? = some (arrV (G.2.1 t) n.toNatClampNeg (fun _ => .null)) := by rw [← hH1, ← hR.1, Array.getElem?_push_size, ← arrV_new]
  have o1 : ∀ q : Nat, q < h.2 → H1[q]? = H[q]? := fun q hq => by rw [← hH1, Array.getElem?_push, if_neg (Nat.ne_of_lt (by rw [hR.1]; exact hq))]
  have k := kk p e s m args below meth c C0 H1 locs ls (v_R_push hR (show H1[h.2]? = some (vp_cell _ _) by rw [vp_cell_q]; exact e1) z1 o1) ⟨Nat.le_trans hS.1 (by rw [z1, hR.1]; omega), fun x h1 h2 => (o1 x (by rw [← hR.1]; exact Nat.lt_of_lt_of_le h1 hS.1)).trans (hS.2.1 x h1 h2), hS.2.2⟩ hl
  rw [hR.1]
  exact k
end VHEAP
