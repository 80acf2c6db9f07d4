/-! THE LAYER, fourth part: System.arraycopy, the law's own script. -/
theorem v_nn (z : Int32) (hz : ¬ z < 0) : z.toInt = (z.toNatClampNeg : Int) := by
  have hz0 : (0 : Int) ≤ z.toInt := by
    have := Int32.not_lt.mp hz
    simpa using Int32.le_iff_toInt_le.mp this
  show z.toInt = ((z.toInt.toNat : Nat) : Int)
  omega
section VCOPY
variable {l : Launch} {G : v_G} {y : MethodName} {cc : ByteArray} {nL : Nat} {ret : Option FieldType} {R : Room} {Qr : Option Value → v_H → Prop} {cells slots pc : Nat} {lv : List (Nat × Value)} {st : List Value} {h : v_H} {index : Nat}
theorem v_copyi {a0 a n0 n1 : Nat} {f g : Nat → Int32} {sp dp n : Int32} (hd : decode cc pc = .ok (.invokestatic index, 3)) (hlink : Cond.methodLink y.cls index arraycopyName ∈ v_W) (hnat : Cond.native arraycopyName ∈ v_W) (hstat : Cond.static arraycopyName ∈ v_W) (hini : Cond.initialized "java/lang/System" ∈ v_W) (hA : v_B G ≤ a) (ha0 : h.1 a0 = some (.inl (0, n0, .inl f))) (ha1 : h.1 a = some (.inl (0, n1, .inl g)))
    (h1 : ¬ sp < 0) (h2 : ¬ dp < 0) (h3 : ¬ n < 0) (h4 : sp.toNatClampNeg + n.toNatClampNeg ≤ n0) (h5 : dp.toNatClampNeg + n.toNatClampNeg ≤ n1) (hfr : 1 ≤ R.frames) (hlo : (st.map fun v => v.category).sum + (nativeFrameWords "java/lang/System" "arraycopy" 5 + 11) ≤ R.locals)
    (kk : V l G y cc nL ret R Qr cells slots (pc + 3) lv st (v_up h a (.inl (0, n1, .inl (va_cpy f g sp.toNatClampNeg dp.toNatClampNeg n.toNatClampNeg))))) : V l G y cc nL ret R Qr cells slots pc lv (.int n :: .int dp :: .ref a :: .int sp :: .ref a0 :: st) h := by
  intro p e s m args below meth c C0 H locs ls hR hS hl
  obtain ⟨hx, hb, hml, hrt, hlocks, hfc, hts, hK, hB, hnm⟩ := id C0
  intro T hT X
  have hc0 : H[a0]? = some (vp_cell (G.2.1 0) (n0, .inl f)) := hR.2 a0 _ ha0
  have hc1 : H[a]? = some (vp_cell (G.2.1 0) (n1, .inl g)) := hR.2 a _ ha1
  obtain ⟨-, k0, hk0, cm0, hkk0⟩ := (hK.1.2 0 _ rfl).1 n0 (fun j => .int (f j))
  obtain ⟨-, k1, hk1, cm1, hkk1⟩ := (hK.1.2 0 _ rfl).1 n1 (fun j => .int (g j))
  obtain ⟨vm', X', step⟩ := X.arraycopy hx hfc (hts _ hlink) (hts _ hnat) (hts _ hstat) (hts _ hini) (src := a0) (dst := a) (cs := vp_cell (G.2.1 0) (n0, .inl f)) (cd := vp_cell (G.2.1 0) (n1, .inl g)) (srcPos := sp) (destPos := dp) (n := n) (by rw [hT]; exact hc0) (by rw [hT]; exact hc1)
    (fun _ h => by cases h) (fun _ h => by cases h) (fun h => by cases h) (fun h => by cases h) hk0 hk1 hkk0 hkk1 (by simp [refKind]) h1 h2 h3
    (by rw [v_nn sp h1, v_nn n h3]; show ¬ _ > ((arrV (G.2.1 0) n0 (fun j => .int (f j))).slots.size : Int); rw [arrV_size]; omega)
    (by rw [v_nn dp h2, v_nn n h3]; show ¬ _ > ((arrV (G.2.1 0) n1 (fun j => .int (g j))).slots.size : Int); rw [arrV_size]; omega)
    (fun vm₁ _ i hi => by
      have e : (vp_cell (G.2.1 0) (n0, .inl f)).slots.getD (sp.toNatClampNeg + i) .null = .int (f (sp.toNatClampNeg + i)) := by
        show (arrV (G.2.1 0) n0 (fun j => .int (f j))).slots.getD _ _ = _
        rw [Array.getD_eq_getD_getElem?, arrV_read _ _ (by omega)]
        rfl
      refine ⟨?_, ?_⟩
      · rw [e]
        rfl
      · rw [e]
        exact trivial)
    (g := F0 m pc ls (.int n :: .int dp :: .ref a :: .int sp :: .ref a0 :: st)) rfl (by rw [hml]; exact hl.1) (rest := st) rfl (by rw [hb]; exact hd) hfr (by show 2 * 0 + _ + _ ≤ _; omega)
  have e1 : copied (vp_cell (G.2.1 0) (n0, .inl f)) (vp_cell (G.2.1 0) (n1, .inl g)) sp dp n = vp_cell (G.2.1 0) (n1, .inl (va_cpy f g sp.toNatClampNeg dp.toNatClampNeg n.toNatClampNeg)) := va_copied (fun z => .int z) (G.2.1 0) (G.2.1 0) f g h4
  rw [e1] at X' step
  have hlt : a < H.size := (Array.getElem?_eq_some_iff.mp hc1).1
  generalize hc : vp_cell (G.2.1 0) (n1, .inl (va_cpy f g sp.toNatClampNeg dp.toNatClampNeg n.toNatClampNeg)) = nc at X' step
  have hheap : ((T.setVm vm').setCell a nc).heap = H.setIfInBounds a nc := by rw [← hT]; rfl
  have oq : ∀ q : Nat, q ≠ a → (H.setIfInBounds a nc)[q]? = H[q]? := fun q hq => by simp [Array.getElem?_setIfInBounds, Ne.symm hq]
  obtain ⟨t, a1, b1⟩ := kk p e s m args below meth c C0 _ _ ls (v_R_up hR (show (H.setIfInBounds a nc)[a]? = some (vp_cell _ _) by rw [hc]; simp [Array.getElem?_setIfInBounds, hlt]) (by simp) oq) ⟨by simp; exact hS.1, fun q g1 g2 => by
      rw [oq q (fun e => g2 (by rw [e]; exact hA))]
      exact hS.2.1 q g1 g2, fun q hq => by
      rcases List.mem_append.mp hq with h | h
      · exact hS.2.2 q h
      · obtain ⟨z, -, hz⟩ := List.mem_map.mp h
        rw [← hz]
        exact hA⟩ hl _ hheap X'
  exact ⟨t, step t a1, b1⟩
theorem v_copyl {a0 a n0 n1 : Nat} {f g : Nat → Int64} {sp dp n : Int32} (hd : decode cc pc = .ok (.invokestatic index, 3)) (hlink : Cond.methodLink y.cls index arraycopyName ∈ v_W) (hnat : Cond.native arraycopyName ∈ v_W) (hstat : Cond.static arraycopyName ∈ v_W) (hini : Cond.initialized "java/lang/System" ∈ v_W) (hA : v_B G ≤ a) (ha0 : h.1 a0 = some (.inl (1, n0, .inr (.inl f)))) (ha1 : h.1 a = some (.inl (1, n1, .inr (.inl g))))
    (h1 : ¬ sp < 0) (h2 : ¬ dp < 0) (h3 : ¬ n < 0) (h4 : sp.toNatClampNeg + n.toNatClampNeg ≤ n0) (h5 : dp.toNatClampNeg + n.toNatClampNeg ≤ n1) (hfr : 1 ≤ R.frames) (hlo : (st.map fun v => v.category).sum + (nativeFrameWords "java/lang/System" "arraycopy" 5 + 11) ≤ R.locals)
    (kk : V l G y cc nL ret R Qr cells slots (pc + 3) lv st (v_up h a (.inl (1, n1, .inr (.inl (va_cpy f g sp.toNatClampNeg dp.toNatClampNeg n.toNatClampNeg)))))) : V l G y cc nL ret R Qr cells slots pc lv (.int n :: .int dp :: .ref a :: .int sp :: .ref a0 :: st) h := by
  intro p e s m args below meth c C0 H locs ls hR hS hl
  obtain ⟨hx, hb, hml, hrt, hlocks, hfc, hts, hK, hB, hnm⟩ := id C0
  intro T hT X
  have hc0 : H[a0]? = some (vp_cell (G.2.1 1) (n0, .inr (.inl f))) := hR.2 a0 _ ha0
  have hc1 : H[a]? = some (vp_cell (G.2.1 1) (n1, .inr (.inl g))) := hR.2 a _ ha1
  obtain ⟨-, k0, hk0, cm0, hkk0⟩ := (hK.1.2 1 _ rfl).1 n0 (fun j => .long (f j))
  obtain ⟨-, k1, hk1, cm1, hkk1⟩ := (hK.1.2 1 _ rfl).1 n1 (fun j => .long (g j))
  obtain ⟨vm', X', step⟩ := X.arraycopy hx hfc (hts _ hlink) (hts _ hnat) (hts _ hstat) (hts _ hini) (src := a0) (dst := a) (cs := vp_cell (G.2.1 1) (n0, .inr (.inl f))) (cd := vp_cell (G.2.1 1) (n1, .inr (.inl g))) (srcPos := sp) (destPos := dp) (n := n) (by rw [hT]; exact hc0) (by rw [hT]; exact hc1)
    (fun _ h => by cases h) (fun _ h => by cases h) (fun h => by cases h) (fun h => by cases h) hk0 hk1 hkk0 hkk1 (by simp [refKind]) h1 h2 h3
    (by rw [v_nn sp h1, v_nn n h3]; show ¬ _ > ((arrV (G.2.1 1) n0 (fun j => .long (f j))).slots.size : Int); rw [arrV_size]; omega)
    (by rw [v_nn dp h2, v_nn n h3]; show ¬ _ > ((arrV (G.2.1 1) n1 (fun j => .long (g j))).slots.size : Int); rw [arrV_size]; omega)
    (fun vm₁ _ i hi => by
      have e : (vp_cell (G.2.1 1) (n0, .inr (.inl f))).slots.getD (sp.toNatClampNeg + i) .null = .long (f (sp.toNatClampNeg + i)) := by
        show (arrV (G.2.1 1) n0 (fun j => .long (f j))).slots.getD _ _ = _
        rw [Array.getD_eq_getD_getElem?, arrV_read _ _ (by omega)]
        rfl
      refine ⟨?_, ?_⟩
      · rw [e]
        rfl
      · rw [e]
        exact trivial)
    (g := F0 m pc ls (.int n :: .int dp :: .ref a :: .int sp :: .ref a0 :: st)) rfl (by rw [hml]; exact hl.1) (rest := st) rfl (by rw [hb]; exact hd) hfr (by show 2 * 0 + _ + _ ≤ _; omega)
  have e1 : copied (vp_cell (G.2.1 1) (n0, .inr (.inl f))) (vp_cell (G.2.1 1) (n1, .inr (.inl g))) sp dp n = vp_cell (G.2.1 1) (n1, .inr (.inl (va_cpy f g sp.toNatClampNeg dp.toNatClampNeg n.toNatClampNeg))) := va_copied (fun z => .long z) (G.2.1 1) (G.2.1 1) f g h4
  rw [e1] at X' step
  have hlt : a < H.size := (Array.getElem?_eq_some_iff.mp hc1).1
  generalize hc : vp_cell (G.2.1 1) (n1, .inr (.inl (va_cpy f g sp.toNatClampNeg dp.toNatClampNeg n.toNatClampNeg))) = nc at X' step
  have hheap : ((T.setVm vm').setCell a nc).heap = H.setIfInBounds a nc := by rw [← hT]; rfl
  have oq : ∀ q : Nat, q ≠ a → (H.setIfInBounds a nc)[q]? = H[q]? := fun q hq => by simp [Array.getElem?_setIfInBounds, Ne.symm hq]
  obtain ⟨t, a1, b1⟩ := kk p e s m args below meth c C0 _ _ ls (v_R_up hR (show (H.setIfInBounds a nc)[a]? = some (vp_cell _ _) by rw [hc]; simp [Array.getElem?_setIfInBounds, hlt]) (by simp) oq) ⟨by simp; exact hS.1, fun q g1 g2 => by
      rw [oq q (fun e => g2 (by rw [e]; exact hA))]
      exact hS.2.1 q g1 g2, fun q hq => by
      rcases List.mem_append.mp hq with h | h
      · exact hS.2.2 q h
      · obtain ⟨z, -, hz⟩ := List.mem_map.mp h
        rw [← hz]
        exact hA⟩ hl _ hheap X'
  exact ⟨t, step t a1, b1⟩
end VCOPY
