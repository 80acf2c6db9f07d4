theorem st_copy : Cond.static arraycopyName ∈ v_W := v_at 626 (w := Cond.static arraycopyName) (by decide +kernel) (by decide +kernel)
theorem sw_cases {p : Prop} {x : Int32} (k : Int32) (h1 : x = k → p) (h2 : ¬ x = k → p) : p := by
  by_cases h : x = k
  · exact h1 h
  · exact h2 h
theorem lk_ne {x : Int32} (k : Int) {q : Int32} (hk : q.toInt = k) (h : ¬ x = q) : ¬ k = x.toInt := fun e => h (Int32.toInt_inj.mp (by rw [hk]; exact e.symm))
theorem arrV_congr {c n : Nat} {f g : Nat → Value} (h : ∀ i, i < n → f i = g i) : arrV c n f = arrV c n g := by
  unfold arrV
  congr 1
  apply Array.ext
  · simp
  · intro i h1 h2
    simp at h1
    simp [h i h1]
/-- dynamic arrays and texts -/
def gA (S : St) (x : Nat) : Option (Nat × (Nat → Int32)) := if x < 2 then none else match gD S (x - 2) with
  | some (.inl a) => some a
  | _ => none
def gN (S : St) (x : Nat) : Option Nat := if x = 1 then some 0 else match gA S x with
  | some a => some a.1
  | none => none
def gT (S : St) (x : Nat) : Option (Nat × Nat × Nat) := if x < 2 then none else match gD S (x - 2) with
  | some (.inr a) => some a
  | _ => none
theorem lk_none (n : Nat) : lkL[304 + n]? = none := by
  rw [List.getElem?_eq_none_iff, lk_len]; omega
theorem lay_dyn {G : v_G} {S : St} {x : Nat} (hx : ¬ x < 2) : (lay G S).1 (da G x) = (gD S (x - 2)).map (dyn G) := by
  have h1 : ¬ x = 1 := by omega
  have h2 : 302 + x = 304 + (x - 2) := by omega
  unfold da
  rw [if_neg h1, h2]
  simp [lay, lk_none]
  omega
theorem e_dynA {G : v_G} {S : St} {x : Nat} {a : Nat × (Nat → Int32)} (h : gA S x = some a) : (lay G S).1 (da G x) = some (.inl (0, a.1, .inl a.2)) := by
  unfold gA at h
  by_cases hx : x < 2
  · rw [if_pos hx] at h; cases h
  · rw [if_neg hx] at h
    rw [lay_dyn hx]
    split at h
    · rename_i b hb
      cases h
      rw [hb]; rfl
    · cases h
theorem e_dynT {G : v_G} {S : St} {x : Nat} {a : Nat × Nat × Nat} (h : gT S x = some a) : (lay G S).1 (da G x) = some (.inr (5, [.ref (da G a.1), .ref (da G a.2.1), .ref (da G a.2.2)])) := by
  unfold gT at h
  by_cases hx : x < 2
  · rw [if_pos hx] at h; cases h
  · rw [if_neg hx] at h
    rw [lay_dyn hx]
    split at h
    · rename_i b hb
      cases h
      rw [hb]; rfl
    · cases h
section T2ROWS
variable {l : Launch} {G : v_G} {y : MethodName} {cc : ByteArray} {nL : Nat} {ret : Option FieldType} {R : Room} {Qr : Option Value → v_H → Prop} {cells slots pc : Nat} {lv : List (Nat × Value)} {st : List Value} {S : St} {index : Nat} {h h1 h2 : v_H}
theorem v_conv (hc : ∀ H, v_R G h1 H → v_R G h2 H) (k : V l G y cc nL ret R Qr cells slots pc lv st h2) : V l G y cc nL ret R Qr cells slots pc lv st h1 :=
  fun p e s m args below meth c C H locs ls hR hS hl => k p e s m args below meth c C H locs ls (hc H hR) hS hl
theorem v_R_cell {G : v_G} {h : v_H} {H : Heap} {a t : Nat} {x x' : vp_A} (hx : ∀ cA, vp_cell cA x = vp_cell cA x') (hR : v_R G (v_up h a (.inl (t, x))) H) : v_R G (v_up h a (.inl (t, x'))) H := by
  refine ⟨hR.1, fun b e hb => ?_⟩
  unfold v_up at hb
  by_cases hq : b = a
  · subst hq
    simp at hb
    subst hb
    have := hR.2 b (.inl (t, x)) (by simp [v_up])
    show H[b]? = some (vp_cell _ _)
    rw [← hx]
    exact this
  · exact hR.2 b e (by simp only [v_up, hq, if_false]; simp only [hq, if_false] at hb; exact hb)
theorem ld_dyn {x : Nat} {a : Nat × (Nat → Int32)} {i : Int32} (ha : gA S x = some a) (hd : decode cc pc = .ok (.iaload, 1)) (hi : vp_in i a.1) (k : V l G y cc nL ret R Qr cells slots (pc + 1) lv (.int (a.2 i.toNatClampNeg) :: st) (lay G S)) : V l G y cc nL ret R Qr cells slots pc lv (.int i :: .ref (da G x) :: st) (lay G S) :=
  v_iald hd (e_dynA ha) hi k
theorem ln_dyn {x n : Nat} (ha : gN S x = some n) (hd : decode cc pc = .ok (.arraylength, 1)) (k : V l G y cc nL ret R Qr cells slots (pc + 1) lv (.int (Int32.ofNat n) :: st) (lay G S)) : V l G y cc nL ret R Qr cells slots pc lv (.ref (da G x) :: st) (lay G S) := by
  unfold gN at ha
  by_cases hx : x = 1
  · rw [if_pos hx] at ha
    cases ha
    subst hx
    exact v_alenN hd k
  · rw [if_neg hx] at ha
    split at ha
    · rename_i b hb
      cases ha
      exact v_alen (ty := .int) hd (by decide) (e_dynA hb) k
    · cases ha
theorem r_Text_clauses {x : Nat} {a : Nat × Nat × Nat} (ha : gT S x = some a) (hd : decode cc pc = .ok (.getfield index, 3)) (hw : Cond.fieldLink y.cls index "RolledOut$Text" "clauses" "[I" ∈ v_W) (k : V l G y cc nL ret R Qr cells slots (pc + 3) lv (.ref (da G a.1) :: st) (lay G S)) : V l G y cc nL ret R Qr cells slots pc lv (.ref (da G x) :: st) (lay G S) :=
  v_get hd rfl (ci := 5) (k := 0) rfl i_X6 (by decide) hw (e_dynT ha) rfl k
theorem r_Text_moves {x : Nat} {a : Nat × Nat × Nat} (ha : gT S x = some a) (hd : decode cc pc = .ok (.getfield index, 3)) (hw : Cond.fieldLink y.cls index "RolledOut$Text" "moves" "[I" ∈ v_W) (k : V l G y cc nL ret R Qr cells slots (pc + 3) lv (.ref (da G a.2.1) :: st) (lay G S)) : V l G y cc nL ret R Qr cells slots pc lv (.ref (da G x) :: st) (lay G S) :=
  v_get hd rfl (ci := 5) (k := 1) rfl i_X6 (by decide) hw (e_dynT ha) rfl k
theorem r_Text_tears {x : Nat} {a : Nat × Nat × Nat} (ha : gT S x = some a) (hd : decode cc pc = .ok (.getfield index, 3)) (hw : Cond.fieldLink y.cls index "RolledOut$Text" "tears" "[I" ∈ v_W) (k : V l G y cc nL ret R Qr cells slots (pc + 3) lv (.ref (da G a.2.2) :: st) (lay G S)) : V l G y cc nL ret R Qr cells slots pc lv (.ref (da G x) :: st) (lay G S) :=
  v_get hd rfl (ci := 5) (k := 2) rfl i_X6 (by decide) hw (e_dynT ha) rfl k
theorem pA_cells {G : v_G} {S : St} {j : Nat} (hj : j < 66) {g : Nat → Int32} : v_up (lay G S) (v_B G + (so j + 1)) (.inl (0, 12, .inl g)) = lay G (sIA S 400 j g) :=
  lay_up (lk_cells j hj) (by simp only [ent]; congr 2; first | (congr 2; funext q; simp [gI, gL, sIA]; done) | (congr 1; funext q; simp [gI, gL, sIA]; done) | (congr 3; funext q; simp [gI, gL, sIA]; done)) (fun _ _ h => ent_sIA h) rfl rfl
theorem cp_cells {j k : Nat} (hj : j < 66) (hk : k < 66) (hd : decode cc pc = .ok (.invokestatic index, 3)) (hw : Cond.methodLink y.cls index arraycopyName ∈ v_W) (hfr : 1 ≤ R.frames) (hlo : (st.map fun v => v.category).sum + (nativeFrameWords "java/lang/System" "arraycopy" 5 + 11) ≤ R.locals) (kk : V l G y cc nL ret R Qr cells slots (pc + 3) lv st (lay G (sIA S 400 j (fun i => gI S 400 k i)))) : V l G y cc nL ret R Qr cells slots pc lv (.int 12 :: .int 0 :: .ref (v_B G + (so j + 1)) :: .int 0 :: .ref (v_B G + (so k + 1)) :: st) (lay G S) := by
  refine v_copyi hd hw nat_copy st_copy ini_System (Nat.le_add_right _ _) (e_cells hk) (e_cells hj) (by decide) (by decide) (by decide) (by decide) (by decide) hfr hlo ?_
  refine v_conv (h2 := lay G (sIA S 400 j (fun i => gI S 400 k i))) (fun H hR => ?_) kk
  rw [← pA_cells hj]
  refine v_R_cell (fun cA => ?_) hR
  rw [vp_cell_i, vp_cell_i]
  refine arrV_congr (fun i hi => ?_)
  show Value.int (va_cpy _ _ 0 0 12 i) = _
  unfold va_cpy
  rw [if_pos ⟨Nat.zero_le _, by omega⟩]
  simp
theorem pA_homes {G : v_G} {S : St} {j : Nat} (hj : j < 66) {g : Nat → Int32} : v_up (lay G S) (v_B G + (so j + 2)) (.inl (0, 6, .inl g)) = lay G (sIA S 401 j g) :=
  lay_up (lk_homes j hj) (by simp only [ent]; congr 2; first | (congr 2; funext q; simp [gI, gL, sIA]; done) | (congr 1; funext q; simp [gI, gL, sIA]; done) | (congr 3; funext q; simp [gI, gL, sIA]; done)) (fun _ _ h => ent_sIA h) rfl rfl
theorem cp_homes {j k : Nat} (hj : j < 66) (hk : k < 66) (hd : decode cc pc = .ok (.invokestatic index, 3)) (hw : Cond.methodLink y.cls index arraycopyName ∈ v_W) (hfr : 1 ≤ R.frames) (hlo : (st.map fun v => v.category).sum + (nativeFrameWords "java/lang/System" "arraycopy" 5 + 11) ≤ R.locals) (kk : V l G y cc nL ret R Qr cells slots (pc + 3) lv st (lay G (sIA S 401 j (fun i => gI S 401 k i)))) : V l G y cc nL ret R Qr cells slots pc lv (.int 6 :: .int 0 :: .ref (v_B G + (so j + 2)) :: .int 0 :: .ref (v_B G + (so k + 2)) :: st) (lay G S) := by
  refine v_copyi hd hw nat_copy st_copy ini_System (Nat.le_add_right _ _) (e_homes hk) (e_homes hj) (by decide) (by decide) (by decide) (by decide) (by decide) hfr hlo ?_
  refine v_conv (h2 := lay G (sIA S 401 j (fun i => gI S 401 k i))) (fun H hR => ?_) kk
  rw [← pA_homes hj]
  refine v_R_cell (fun cA => ?_) hR
  rw [vp_cell_i, vp_cell_i]
  refine arrV_congr (fun i hi => ?_)
  show Value.int (va_cpy _ _ 0 0 6 i) = _
  unfold va_cpy
  rw [if_pos ⟨Nat.zero_le _, by omega⟩]
  simp
theorem pA_book {G : v_G} {S : St} {j : Nat} (hj : j < 66) {g : Nat → Int64} : v_up (lay G S) (v_B G + (so j + 3)) (.inl (1, 30, .inr (.inl g))) = lay G (sLA S 402 j g) :=
  lay_up (lk_book j hj) (by simp only [ent]; congr 2; first | (congr 2; funext q; simp [gI, gL, sLA]; done) | (congr 1; funext q; simp [gI, gL, sLA]; done) | (congr 3; funext q; simp [gI, gL, sLA]; done)) (fun _ _ h => ent_sLA h) rfl rfl
theorem cp_book {j k : Nat} (hj : j < 66) (hk : k < 66) (hd : decode cc pc = .ok (.invokestatic index, 3)) (hw : Cond.methodLink y.cls index arraycopyName ∈ v_W) (hfr : 1 ≤ R.frames) (hlo : (st.map fun v => v.category).sum + (nativeFrameWords "java/lang/System" "arraycopy" 5 + 11) ≤ R.locals) (kk : V l G y cc nL ret R Qr cells slots (pc + 3) lv st (lay G (sLA S 402 j (fun i => gL S 402 k i)))) : V l G y cc nL ret R Qr cells slots pc lv (.int 30 :: .int 0 :: .ref (v_B G + (so j + 3)) :: .int 0 :: .ref (v_B G + (so k + 3)) :: st) (lay G S) := by
  refine v_copyl hd hw nat_copy st_copy ini_System (Nat.le_add_right _ _) (e_book hk) (e_book hj) (by decide) (by decide) (by decide) (by decide) (by decide) hfr hlo ?_
  refine v_conv (h2 := lay G (sLA S 402 j (fun i => gL S 402 k i))) (fun H hR => ?_) kk
  rw [← pA_book hj]
  refine v_R_cell (fun cA => ?_) hR
  rw [vp_cell_l, vp_cell_l]
  refine arrV_congr (fun i hi => ?_)
  show Value.long (va_cpy _ _ 0 0 30 i) = _
  unfold va_cpy
  rw [if_pos ⟨Nat.zero_le _, by omega⟩]
  simp
theorem pA_strengths {G : v_G} {S : St} {j : Nat} (hj : j < 2) {g : Nat → Int32} : v_up (lay G S) (v_B G + (7 + 129 * j)) (.inl (0, 4, .inl g)) = lay G (sIA S 804 j g) :=
  lay_up (lk_strengths j hj) (by simp only [ent]; congr 2; first | (congr 2; funext q; simp [gI, gL, sIA]; done) | (congr 1; funext q; simp [gI, gL, sIA]; done) | (congr 3; funext q; simp [gI, gL, sIA]; done)) (fun _ _ h => ent_sIA h) rfl rfl
theorem cp_strengths {j k : Nat} (hj : j < 2) (hk : k < 2) (hd : decode cc pc = .ok (.invokestatic index, 3)) (hw : Cond.methodLink y.cls index arraycopyName ∈ v_W) (hfr : 1 ≤ R.frames) (hlo : (st.map fun v => v.category).sum + (nativeFrameWords "java/lang/System" "arraycopy" 5 + 11) ≤ R.locals) (kk : V l G y cc nL ret R Qr cells slots (pc + 3) lv st (lay G (sIA S 804 j (fun i => gI S 804 k i)))) : V l G y cc nL ret R Qr cells slots pc lv (.int 4 :: .int 0 :: .ref (v_B G + (7 + 129 * j)) :: .int 0 :: .ref (v_B G + (7 + 129 * k)) :: st) (lay G S) := by
  refine v_copyi hd hw nat_copy st_copy ini_System (Nat.le_add_right _ _) (e_strengths hk) (e_strengths hj) (by decide) (by decide) (by decide) (by decide) (by decide) hfr hlo ?_
  refine v_conv (h2 := lay G (sIA S 804 j (fun i => gI S 804 k i))) (fun H hR => ?_) kk
  rw [← pA_strengths hj]
  refine v_R_cell (fun cA => ?_) hR
  rw [vp_cell_i, vp_cell_i]
  refine arrV_congr (fun i hi => ?_)
  show Value.int (va_cpy _ _ 0 0 4 i) = _
  unfold va_cpy
  rw [if_pos ⟨Nat.zero_le _, by omega⟩]
  simp
theorem pA_said {G : v_G} {S : St} {j : Nat} (hj : j < 2) {g : Nat → Int32} : v_up (lay G S) (v_B G + (9 + 129 * j)) (.inl (0, 24, .inl g)) = lay G (sIA S 810 j g) :=
  lay_up (lk_said j hj) (by simp only [ent]; congr 2; first | (congr 2; funext q; simp [gI, gL, sIA]; done) | (congr 1; funext q; simp [gI, gL, sIA]; done) | (congr 3; funext q; simp [gI, gL, sIA]; done)) (fun _ _ h => ent_sIA h) rfl rfl
theorem cp_said {j k : Nat} (hj : j < 2) (hk : k < 2) (hd : decode cc pc = .ok (.invokestatic index, 3)) (hw : Cond.methodLink y.cls index arraycopyName ∈ v_W) (hfr : 1 ≤ R.frames) (hlo : (st.map fun v => v.category).sum + (nativeFrameWords "java/lang/System" "arraycopy" 5 + 11) ≤ R.locals) (kk : V l G y cc nL ret R Qr cells slots (pc + 3) lv st (lay G (sIA S 810 j (fun i => gI S 810 k i)))) : V l G y cc nL ret R Qr cells slots pc lv (.int 24 :: .int 0 :: .ref (v_B G + (9 + 129 * j)) :: .int 0 :: .ref (v_B G + (9 + 129 * k)) :: st) (lay G S) := by
  refine v_copyi hd hw nat_copy st_copy ini_System (Nat.le_add_right _ _) (e_said hk) (e_said hj) (by decide) (by decide) (by decide) (by decide) (by decide) hfr hlo ?_
  refine v_conv (h2 := lay G (sIA S 810 j (fun i => gI S 810 k i))) (fun H hR => ?_) kk
  rw [← pA_said hj]
  refine v_R_cell (fun cA => ?_) hR
  rw [vp_cell_i, vp_cell_i]
  refine arrV_congr (fun i hi => ?_)
  show Value.int (va_cpy _ _ 0 0 24 i) = _
  unfold va_cpy
  rw [if_pos ⟨Nat.zero_le _, by omega⟩]
  simp
theorem tx_cases {a b : Nat} {α : Type} {x y : Option α} {r : Option α} {p : Prop} (h1 : a = b → x = r → p) (h2 : ¬ a = b → y = r → p) (h : (if a = b then x else y) = r) : p := by
  by_cases hc : a = b
  · exact h1 hc (by rw [if_pos hc] at h; exact h)
  · exact h2 hc (by rw [if_neg hc] at h; exact h)
theorem ld_textsN {j : Nat} (hj : j < 2) {i : Int32} (hd : decode cc pc = .ok (.aaload, 1)) (hi : vp_in i 4) (hc : gR S 807 j i.toNatClampNeg = 0) (k : V l G y cc nL ret R Qr cells slots (pc + 1) lv (.null :: st) (lay G S)) : V l G y cc nL ret R Qr cells slots pc lv (.int i :: .ref (v_B G + (8 + 129 * j)) :: st) (lay G S) := by
  refine ld_texts hj hd hi ?_
  rw [if_pos hc]
  exact k
theorem ld_textsT {j : Nat} (hj : j < 2) {i : Int32} (hd : decode cc pc = .ok (.aaload, 1)) (hi : vp_in i 4) (hc : ¬ gR S 807 j i.toNatClampNeg = 0) (k : V l G y cc nL ret R Qr cells slots (pc + 1) lv (.ref (da G (gR S 807 j i.toNatClampNeg)) :: st) (lay G S)) : V l G y cc nL ret R Qr cells slots pc lv (.int i :: .ref (v_B G + (8 + 129 * j)) :: st) (lay G S) := by
  refine ld_texts hj hd hi ?_
  rw [if_neg hc]
  exact k
theorem p_texts {G : v_G} {S : St} {j : Nat} (hj : j < 2) {a x : Nat} : v_up (lay G S) (v_B G + (8 + 129 * j)) (.inl (4, 4, .inr (.inr (.inr (.inr (va_up (fun i => if gR S 807 j i = 0 then none else some (da G (gR S 807 j i))) a (if x = 0 then none else some (da G x)))))))) = lay G (sR S 807 j a x) :=
  lay_up (lk_texts j hj) (by
    simp only [ent]
    congr 7
    funext q
    by_cases hq : q = a
    · simp [gR, sR, va_up, hq]
    · have e : gR (sR S 807 j a x) 807 j q = gR S 807 j q := by rw [gR_sR, if_neg (fun h => hq h.2.2)]
      have e2 : va_up (fun i => if gR S 807 j i = 0 then none else some (da G (gR S 807 j i))) a (if x = 0 then none else some (da G x)) q = if gR S 807 j q = 0 then none else some (da G (gR S 807 j q)) := if_neg hq
      rw [e2, e]) (fun _ _ h => ent_sR h) rfl rfl
theorem st_textsN {j : Nat} (hj : j < 2) {i : Int32} (hd : decode cc pc = .ok (.aastore, 1)) (hi : vp_in i 4) (k : V l G y cc nL ret R Qr cells slots (pc + 1) lv st (lay G (sR S 807 j i.toNatClampNeg 0))) : V l G y cc nL ret R Qr cells slots pc lv (.null :: .int i :: .ref (v_B G + (8 + 129 * j)) :: st) (lay G S) :=
  v_aastN (t := 4) hd (Nat.le_add_right _ _) rfl (e_texts hj) hi (by have := p_texts (G := G) (S := S) hj (a := i.toNatClampNeg) (x := 0); rw [if_pos rfl] at this; rw [this]; exact k)
theorem gT_nz {S : St} {x : Nat} {t : Nat × Nat × Nat} (h : gT S x = some t) : ¬ x = 0 := by
  intro hx
  subst hx
  simp [gT] at h
theorem st_textsT {j : Nat} (hj : j < 2) {i : Int32} {x : Nat} {t : Nat × Nat × Nat} (hd : decode cc pc = .ok (.aastore, 1)) (hi : vp_in i 4) (ht : gT S x = some t) (k : V l G y cc nL ret R Qr cells slots (pc + 1) lv st (lay G (sR S 807 j i.toNatClampNeg x))) : V l G y cc nL ret R Qr cells slots pc lv (.ref (da G x) :: .int i :: .ref (v_B G + (8 + 129 * j)) :: st) (lay G S) :=
  v_aast (t := 4) (ci := 5) hd (Nat.le_add_right _ _) rfl rfl (e_texts hj) (e_dynT ht) hi (by have := p_texts (G := G) (S := S) hj (a := i.toNatClampNeg) (x := x); rw [if_neg (gT_nz ht)] at this; rw [this]; exact k)
end T2ROWS
