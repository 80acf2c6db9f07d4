/-- what a case of the law does: it goes on with the next call -/
def GL (T : Int) (K : Int32 → St → Option (Int32 × St)) (x3 : Int32) (x : Option (Int32 × St)) : Prop := ∃ S2, INV (T + 1) S2 ∧ x = K (x3 + (6 : Int32)) S2
theorem gl_ite {T : Int} {K : Int32 → St → Option (Int32 × St)} {x3 : Int32} {c : Prop} [hd : Decidable c] {a b : Option (Int32 × St)} (h1 : GL T K x3 a) (h2 : GL T K x3 b) : GL T K x3 (if c then a else b) := by
  by_cases hc : c
  · rw [if_pos hc]; exact h1
  · rw [if_neg hc]; exact h2
theorem bnd_back {x : Option Int32} {S1 S2 : St} {v : Int32} (h : bnd x (fun q => some (q, S1)) = some (v, S2)) : x = some v ∧ S1 = S2 := by
  cases x with
  | none => cases h
  | some q =>
    have h2 : some (q, S1) = some (v, S2) := h
    cases h2
    exact ⟨rfl, rfl⟩
theorem INV_on {S : St} {T : Int} (hI : INV T S) (t0 : 0 ≤ T) (t1 : T < 512) : INV (T + 1) S := by
  obtain ⟨A, B, h⟩ := hI
  exact INV_same h t0 t1
theorem jj_z : jj 0 = (0 : Int32) := by decide
theorem jj_e : jj 1 = (1 : Int32) := by decide

theorem lc_0 {xs : Nat → Int32} {sL N : Nat} {x3 : Int32} {S : St} {T : Int} (hN : 200000000 < N) (t0 : 0 ≤ T) (t1 : T < 512) (hI : INV T S) (c1 : inb (x3 + (1 : Int32)) sL = true) (K : Int32 → St → Option (Int32 × St)) : GL T K x3 (
  (chk (inb (x3 + (1 : Int32)) sL) (
  bnd (f_X9_hand S (xs (x3 + (1 : Int32)).toNatClampNeg)) fun q3 =>
 chk (inb (x3 + (1 : Int32)) sL) (
  bnd (f_X10_hand q3.2 (xs (x3 + (1 : Int32)).toNatClampNeg)) fun q5 =>
 if q3.1 = q5.1 then
  (lt (x3 + (6 : Int32)) fun v6 =>
  K v6 q5.2)
  else
  (some ((0 : Int32), q5.2)))))) := by
  obtain ⟨v, S1, S2, e1, e2, h2⟩ := k_hand t0 t1 hI (xs (x3 + (1 : Int32)).toNatClampNeg)
  dsimp only at e1 e2
  simp only [chk_true c1]
  rw [bnd_of e1]
  dsimp only
  rw [bnd_of e2]
  exact ⟨S2, h2, (if_pos rfl).trans rfl⟩
theorem lc_1 {xs : Nat → Int32} {sL N : Nat} {x3 : Int32} {S : St} {T : Int} (hN : 200000000 < N) (t0 : 0 ≤ T) (t1 : T < 512) (hI : INV T S) (c1 : inb (x3 + (1 : Int32)) sL = true) (c2 : inb (x3 + (2 : Int32)) sL = true) (K : Int32 → St → Option (Int32 × St)) : GL T K x3 (
  (chk (inb (x3 + (1 : Int32)) sL) (
  chk (inb (x3 + (2 : Int32)) sL) (
  bnd (f_X9_dough N S (xs (x3 + (1 : Int32)).toNatClampNeg) (xs (x3 + (2 : Int32)).toNatClampNeg)) fun q9 =>
 chk (inb (x3 + (1 : Int32)) sL) (
  chk (inb (x3 + (2 : Int32)) sL) (
  bnd (f_X10_dough N q9.2 (xs (x3 + (1 : Int32)).toNatClampNeg) (xs (x3 + (2 : Int32)).toNatClampNeg)) fun q12 =>
 if q9.1 = q12.1 then
  (lt (x3 + (6 : Int32)) fun v13 =>
  K v13 q12.2)
  else
  (some ((0 : Int32), q12.2)))))))) := by
  obtain ⟨v, S1, S2, e1, e2, h2⟩ := k_dough (Nat.lt_trans (by decide) hN) t0 t1 hI (xs (x3 + (1 : Int32)).toNatClampNeg) (xs (x3 + (2 : Int32)).toNatClampNeg)
  dsimp only at e1 e2
  simp only [chk_true c1, chk_true c2]
  rw [bnd_of e1]
  dsimp only
  rw [bnd_of e2]
  exact ⟨S2, h2, (if_pos rfl).trans rfl⟩
theorem lc_2 {xs : Nat → Int32} {sL N : Nat} {x3 : Int32} {S : St} {T : Int} (hN : 200000000 < N) (t0 : 0 ≤ T) (t1 : T < 512) (hI : INV T S) (c1 : inb (x3 + (1 : Int32)) sL = true) (K : Int32 → St → Option (Int32 × St)) : GL T K x3 (
  (chk (inb (x3 + (1 : Int32)) sL) (
  bnd (f_X9_town N S (xs (x3 + (1 : Int32)).toNatClampNeg)) fun q15 =>
 chk (inb (x3 + (1 : Int32)) sL) (
  bnd (f_X10_town q15.2 (xs (x3 + (1 : Int32)).toNatClampNeg)) fun q17 =>
 if q15.1 = q17.1 then
  (lt (x3 + (6 : Int32)) fun v18 =>
  K v18 q17.2)
  else
  (some ((0 : Int32), q17.2)))))) := by
  obtain ⟨v, S1, S2, e1, e2, h2⟩ := k_town (Nat.lt_trans (by decide) hN) t0 t1 hI (xs (x3 + (1 : Int32)).toNatClampNeg)
  dsimp only at e1 e2
  simp only [chk_true c1]
  rw [bnd_of e1]
  dsimp only
  rw [bnd_of e2]
  exact ⟨S2, h2, (if_pos rfl).trans rfl⟩
theorem lc_3 {xs : Nat → Int32} {sL N : Nat} {x3 : Int32} {S : St} {T : Int} (hN : 200000000 < N) (t0 : 0 ≤ T) (t1 : T < 512) (hI : INV T S) (c1 : inb (x3 + (1 : Int32)) sL = true) (c2 : inb (x3 + (2 : Int32)) sL = true) (c3 : inb (x3 + (3 : Int32)) sL = true) (c4 : inb (x3 + (4 : Int32)) sL = true) (c5 : inb (x3 + (5 : Int32)) sL = true) (K : Int32 → St → Option (Int32 × St)) : GL T K x3 (
  (chk (inb (x3 + (1 : Int32)) sL) (
  chk (inb (x3 + (2 : Int32)) sL) (
  chk (inb (x3 + (3 : Int32)) sL) (
  chk (inb (x3 + (4 : Int32)) sL) (
  chk (inb (x3 + (5 : Int32)) sL) (
  bnd (f_X9_feed N S (xs (x3 + (1 : Int32)).toNatClampNeg) (xs (x3 + (2 : Int32)).toNatClampNeg) (xs (x3 + (3 : Int32)).toNatClampNeg) (xs (x3 + (4 : Int32)).toNatClampNeg) (xs (x3 + (5 : Int32)).toNatClampNeg)) fun q24 =>
 chk (inb (x3 + (1 : Int32)) sL) (
  chk (inb (x3 + (2 : Int32)) sL) (
  chk (inb (x3 + (3 : Int32)) sL) (
  chk (inb (x3 + (4 : Int32)) sL) (
  chk (inb (x3 + (5 : Int32)) sL) (
  bnd (f_X10_feed N q24.2 (xs (x3 + (1 : Int32)).toNatClampNeg) (xs (x3 + (2 : Int32)).toNatClampNeg) (xs (x3 + (3 : Int32)).toNatClampNeg) (xs (x3 + (4 : Int32)).toNatClampNeg) (xs (x3 + (5 : Int32)).toNatClampNeg)) fun q30 =>
 if q24.1 = q30.1 then
  (lt (x3 + (6 : Int32)) fun v31 =>
  K v31 q30.2)
  else
  (some ((0 : Int32), q30.2)))))))))))))) := by
  obtain ⟨v, S1, S2, e1, e2, h2⟩ := k_feed (Nat.lt_trans (by decide) hN) t0 t1 hI (xs (x3 + (1 : Int32)).toNatClampNeg) (xs (x3 + (2 : Int32)).toNatClampNeg) (xs (x3 + (3 : Int32)).toNatClampNeg) (xs (x3 + (4 : Int32)).toNatClampNeg) (xs (x3 + (5 : Int32)).toNatClampNeg)
  dsimp only at e1 e2
  simp only [chk_true c1, chk_true c2, chk_true c3, chk_true c4, chk_true c5]
  rw [bnd_of e1]
  dsimp only
  rw [bnd_of e2]
  exact ⟨S2, h2, (if_pos rfl).trans rfl⟩
theorem lc_4 {xs : Nat → Int32} {sL N : Nat} {x3 : Int32} {S : St} {T : Int} (hN : 200000000 < N) (t0 : 0 ≤ T) (t1 : T < 512) (hI : INV T S) (c1 : inb (x3 + (1 : Int32)) sL = true) (K : Int32 → St → Option (Int32 × St)) : GL T K x3 (
  (chk (inb (x3 + (1 : Int32)) sL) (
  bnd (f_X9_end S (xs (x3 + (1 : Int32)).toNatClampNeg)) fun q33 =>
 chk (inb (x3 + (1 : Int32)) sL) (
  bnd (f_X10_end q33.2 (xs (x3 + (1 : Int32)).toNatClampNeg)) fun q35 =>
 if q33.1 = q35.1 then
  (lt (x3 + (6 : Int32)) fun v36 =>
  K v36 q35.2)
  else
  (some ((0 : Int32), q35.2)))))) := by
  obtain ⟨v, S1, S2, e1, e2, h2⟩ := k_end t0 t1 hI (xs (x3 + (1 : Int32)).toNatClampNeg)
  dsimp only at e1 e2
  simp only [chk_true c1]
  rw [bnd_of e1]
  dsimp only
  rw [bnd_of e2]
  exact ⟨S2, h2, (if_pos rfl).trans rfl⟩
theorem lc_5 {xs : Nat → Int32} {sL N : Nat} {x3 : Int32} {S : St} {T : Int} (hN : 200000000 < N) (t0 : 0 ≤ T) (t1 : T < 512) (hI : INV T S)  (K : Int32 → St → Option (Int32 × St)) : GL T K x3 (
  (bnd (f_X9_text N S ) fun q37 =>
 bnd (f_X10_text N q37.2 ) fun q38 =>
 if q37.1 = q38.1 then
  (lt (x3 + (6 : Int32)) fun v39 =>
  K v39 q38.2)
  else
  (some ((0 : Int32), q38.2)))) := by
  obtain ⟨v, S1, S2, e1, e2, h2⟩ := k_text (Nat.lt_trans (by decide) hN) t0 t1 hI 
  dsimp only at e1 e2
  rw [bnd_of e1]
  dsimp only
  rw [bnd_of e2]
  exact ⟨S2, h2, (if_pos rfl).trans rfl⟩
theorem lc_6 {xs : Nat → Int32} {sL N : Nat} {x3 : Int32} {S : St} {T : Int} (hN : 200000000 < N) (t0 : 0 ≤ T) (t1 : T < 512) (hI : INV T S) (c1 : inb (x3 + (1 : Int32)) sL = true) (K : Int32 → St → Option (Int32 × St)) : GL T K x3 (
  (chk (inb (x3 + (1 : Int32)) sL) (
  bnd (f_X9_fault S (xs (x3 + (1 : Int32)).toNatClampNeg)) fun q41 =>
 chk (inb (x3 + (1 : Int32)) sL) (
  bnd (f_X10_fault S (xs (x3 + (1 : Int32)).toNatClampNeg)) fun q43 =>
 if q41 = q43 then
  (lt (x3 + (6 : Int32)) fun v44 =>
  K v44 S)
  else
  (some ((0 : Int32), S)))))) := by
  obtain ⟨v, e1, e2⟩ := k_fault hI (xs (x3 + (1 : Int32)).toNatClampNeg)
  dsimp only at e1 e2
  simp only [chk_true c1]
  rw [bnd_of e1, bnd_of e2]
  exact ⟨S, INV_on hI t0 t1, (if_pos rfl).trans rfl⟩
theorem lc_7 {xs : Nat → Int32} {sL N : Nat} {x3 : Int32} {S : St} {T : Int} (hN : 200000000 < N) (t0 : 0 ≤ T) (t1 : T < 512) (hI : INV T S) (c1 : inb (x3 + (1 : Int32)) sL = true) (K : Int32 → St → Option (Int32 × St)) : GL T K x3 (
  (chk (inb (x3 + (1 : Int32)) sL) (
  bnd (f_X9_by S (xs (x3 + (1 : Int32)).toNatClampNeg)) fun q46 =>
 chk (inb (x3 + (1 : Int32)) sL) (
  bnd (f_X10_by q46.2 (xs (x3 + (1 : Int32)).toNatClampNeg)) fun q48 =>
 if q46.1 = q48.1 then
  (lt (x3 + (6 : Int32)) fun v49 =>
  K v49 q48.2)
  else
  (some ((0 : Int32), q48.2)))))) := by
  obtain ⟨v, S1, S2, e1, e2, h2⟩ := k_by t0 t1 hI (xs (x3 + (1 : Int32)).toNatClampNeg)
  dsimp only at e1 e2
  simp only [chk_true c1]
  rw [bnd_of e1]
  dsimp only
  rw [bnd_of e2]
  exact ⟨S2, h2, (if_pos rfl).trans rfl⟩
theorem lc_8 {xs : Nat → Int32} {sL N : Nat} {x3 : Int32} {S : St} {T : Int} (hN : 200000000 < N) (t0 : 0 ≤ T) (t1 : T < 512) (hI : INV T S) (c1 : inb (x3 + (1 : Int32)) sL = true) (c2 : inb (x3 + (2 : Int32)) sL = true) (c3 : inb (x3 + (3 : Int32)) sL = true) (K : Int32 → St → Option (Int32 × St)) : GL T K x3 (
  (chk (inb (x3 + (1 : Int32)) sL) (
  chk (inb (x3 + (2 : Int32)) sL) (
  chk (inb (x3 + (3 : Int32)) sL) (
  if (xs (x3 + (3 : Int32)).toNatClampNeg) = (0 : Int32) then
  (bnd (f_X9_stroke N S (xs (x3 + (1 : Int32)).toNatClampNeg) (xs (x3 + (2 : Int32)).toNatClampNeg) (0 : Int32)) fun q53 =>
 chk (inb (x3 + (1 : Int32)) sL) (
  chk (inb (x3 + (2 : Int32)) sL) (
  chk (inb (x3 + (3 : Int32)) sL) (
  if (xs (x3 + (3 : Int32)).toNatClampNeg) = (0 : Int32) then
  (bnd (f_X10_stroke N q53.2 (xs (x3 + (1 : Int32)).toNatClampNeg) (xs (x3 + (2 : Int32)).toNatClampNeg) (0 : Int32)) fun q57 =>
 if q53.1 = q57.1 then
  (lt (x3 + (6 : Int32)) fun v58 =>
  K v58 q57.2)
  else
  (some ((0 : Int32), q57.2)))
  else
  (bnd (f_X10_stroke N q53.2 (xs (x3 + (1 : Int32)).toNatClampNeg) (xs (x3 + (2 : Int32)).toNatClampNeg) (1 : Int32)) fun q59 =>
 if q53.1 = q59.1 then
  (lt (x3 + (6 : Int32)) fun v60 =>
  K v60 q59.2)
  else
  (some ((0 : Int32), q59.2)))))))
  else
  (bnd (f_X9_stroke N S (xs (x3 + (1 : Int32)).toNatClampNeg) (xs (x3 + (2 : Int32)).toNatClampNeg) (1 : Int32)) fun q61 =>
 chk (inb (x3 + (1 : Int32)) sL) (
  chk (inb (x3 + (2 : Int32)) sL) (
  chk (inb (x3 + (3 : Int32)) sL) (
  if (xs (x3 + (3 : Int32)).toNatClampNeg) = (0 : Int32) then
  (bnd (f_X10_stroke N q61.2 (xs (x3 + (1 : Int32)).toNatClampNeg) (xs (x3 + (2 : Int32)).toNatClampNeg) (0 : Int32)) fun q65 =>
 if q61.1 = q65.1 then
  (lt (x3 + (6 : Int32)) fun v66 =>
  K v66 q65.2)
  else
  (some ((0 : Int32), q65.2)))
  else
  (bnd (f_X10_stroke N q61.2 (xs (x3 + (1 : Int32)).toNatClampNeg) (xs (x3 + (2 : Int32)).toNatClampNeg) (1 : Int32)) fun q67 =>
 if q61.1 = q67.1 then
  (lt (x3 + (6 : Int32)) fun v68 =>
  K v68 q67.2)
  else
  (some ((0 : Int32), q67.2)))))))))))) := by
  by_cases h0 : xs (x3 + (3 : Int32)).toNatClampNeg = (0 : Int32)
  · obtain ⟨v, S1, S2, e1, e2, h2⟩ := k_stroke (rt := 0) (Nat.lt_trans (by decide) hN) t0 t1 hI (xs (x3 + (1 : Int32)).toNatClampNeg) (xs (x3 + (2 : Int32)).toNatClampNeg) (Or.inl rfl)
    dsimp only at e1 e2
    rw [jj_z] at e1 e2
    simp only [chk_true c1, chk_true c2, chk_true c3, if_pos h0]
    rw [bnd_of e1]
    dsimp only
    rw [bnd_of e2]
    exact ⟨S2, h2, (if_pos rfl).trans rfl⟩
  · obtain ⟨v, S1, S2, e1, e2, h2⟩ := k_stroke (rt := 1) (Nat.lt_trans (by decide) hN) t0 t1 hI (xs (x3 + (1 : Int32)).toNatClampNeg) (xs (x3 + (2 : Int32)).toNatClampNeg) (Or.inr rfl)
    dsimp only at e1 e2
    rw [jj_e] at e1 e2
    simp only [chk_true c1, chk_true c2, chk_true c3, if_neg h0]
    rw [bnd_of e1]
    dsimp only
    rw [bnd_of e2]
    exact ⟨S2, h2, (if_pos rfl).trans rfl⟩
theorem lc_9 {xs : Nat → Int32} {sL N : Nat} {x3 : Int32} {S : St} {T : Int} (hN : 200000000 < N) (t0 : 0 ≤ T) (t1 : T < 512) (hI : INV T S)  (K : Int32 → St → Option (Int32 × St)) : GL T K x3 (
  (bnd (f_X9_trim S ) fun q69 =>
 bnd (f_X10_trim N q69.2 ) fun q70 =>
 if q69.1 = q70.1 then
  (lt (x3 + (6 : Int32)) fun v71 =>
  K v71 q70.2)
  else
  (some ((0 : Int32), q70.2)))) := by
  obtain ⟨v, S1, S2, e1, e2, h2⟩ := k_trim (Nat.lt_trans (by decide) hN) t0 t1 hI 
  dsimp only at e1 e2
  rw [bnd_of e1]
  dsimp only
  rw [bnd_of e2]
  exact ⟨S2, h2, (if_pos rfl).trans rfl⟩
theorem lc_10 {xs : Nat → Int32} {sL N : Nat} {x3 : Int32} {S : St} {T : Int} (hN : 200000000 < N) (t0 : 0 ≤ T) (t1 : T < 512) (hI : INV T S) (c1 : inb (x3 + (1 : Int32)) sL = true) (c2 : inb (x3 + (2 : Int32)) sL = true) (K : Int32 → St → Option (Int32 × St)) : GL T K x3 (
  (chk (inb (x3 + (1 : Int32)) sL) (
  chk (inb (x3 + (2 : Int32)) sL) (
  bnd (f_X9_patch S (xs (x3 + (1 : Int32)).toNatClampNeg) (xs (x3 + (2 : Int32)).toNatClampNeg)) fun q74 =>
 chk (inb (x3 + (1 : Int32)) sL) (
  chk (inb (x3 + (2 : Int32)) sL) (
  bnd (f_X10_patch N q74.2 (xs (x3 + (1 : Int32)).toNatClampNeg) (xs (x3 + (2 : Int32)).toNatClampNeg)) fun q77 =>
 if q74.1 = q77.1 then
  (lt (x3 + (6 : Int32)) fun v78 =>
  K v78 q77.2)
  else
  (some ((0 : Int32), q77.2)))))))) := by
  obtain ⟨v, S1, S2, e1, e2, h2⟩ := k_patch (Nat.lt_trans (by decide) hN) t0 t1 hI (xs (x3 + (1 : Int32)).toNatClampNeg) (xs (x3 + (2 : Int32)).toNatClampNeg)
  dsimp only at e1 e2
  simp only [chk_true c1, chk_true c2]
  rw [bnd_of e1]
  dsimp only
  rw [bnd_of e2]
  exact ⟨S2, h2, (if_pos rfl).trans rfl⟩
theorem lc_11 {xs : Nat → Int32} {sL N : Nat} {x3 : Int32} {S : St} {T : Int} (hN : 200000000 < N) (t0 : 0 ≤ T) (t1 : T < 512) (hI : INV T S) (c1 : inb (x3 + (1 : Int32)) sL = true) (K : Int32 → St → Option (Int32 × St)) : GL T K x3 (
  (chk (inb (x3 + (1 : Int32)) sL) (
  bnd (f_X9_roll N S (xs (x3 + (1 : Int32)).toNatClampNeg)) fun q80 =>
 chk (inb (x3 + (1 : Int32)) sL) (
  bnd (f_X10_roll N q80.2 (xs (x3 + (1 : Int32)).toNatClampNeg)) fun q82 =>
 if q80.1 = q82.1 then
  (lt (x3 + (6 : Int32)) fun v83 =>
  K v83 q82.2)
  else
  (some ((0 : Int32), q82.2)))))) := by
  obtain ⟨v, S1, S2, e1, e2, h2⟩ := k_roll (Nat.lt_trans (by decide) hN) t0 t1 hI (xs (x3 + (1 : Int32)).toNatClampNeg)
  dsimp only at e1 e2
  simp only [chk_true c1]
  rw [bnd_of e1]
  dsimp only
  rw [bnd_of e2]
  exact ⟨S2, h2, (if_pos rfl).trans rfl⟩
theorem lc_12 {xs : Nat → Int32} {sL N : Nat} {x3 : Int32} {S : St} {T : Int} (hN : 200000000 < N) (t0 : 0 ≤ T) (t1 : T < 512) (hI : INV T S) (c1 : inb (x3 + (1 : Int32)) sL = true) (K : Int32 → St → Option (Int32 × St)) : GL T K x3 (
  (chk (inb (x3 + (1 : Int32)) sL) (
  bnd (f_X9_played N S (xs (x3 + (1 : Int32)).toNatClampNeg)) fun q85 =>
 chk (inb (x3 + (1 : Int32)) sL) (
  bnd (f_X10_played N q85.2 (xs (x3 + (1 : Int32)).toNatClampNeg)) fun q87 =>
 if q85.1 = q87.1 then
  (lt (x3 + (6 : Int32)) fun v88 =>
  K v88 q87.2)
  else
  (some ((0 : Int32), q87.2)))))) := by
  obtain ⟨v, S1, S2, e1, e2, h2⟩ := k_played (Nat.lt_trans (by decide) hN) t0 t1 hI (xs (x3 + (1 : Int32)).toNatClampNeg)
  dsimp only at e1 e2
  simp only [chk_true c1]
  rw [bnd_of e1]
  dsimp only
  rw [bnd_of e2]
  exact ⟨S2, h2, (if_pos rfl).trans rfl⟩
theorem lc_13 {xs : Nat → Int32} {sL N : Nat} {x3 : Int32} {S : St} {T : Int} (hN : 200000000 < N) (t0 : 0 ≤ T) (t1 : T < 512) (hI : INV T S) (c1 : inb (x3 + (1 : Int32)) sL = true) (c2 : inb (x3 + (2 : Int32)) sL = true) (K : Int32 → St → Option (Int32 × St)) : GL T K x3 (
  (chk (inb (x3 + (1 : Int32)) sL) (
  chk (inb (x3 + (2 : Int32)) sL) (
  bnd (f_X9_years N S (xs (x3 + (1 : Int32)).toNatClampNeg) (xs (x3 + (2 : Int32)).toNatClampNeg)) fun q91 =>
 chk (inb (x3 + (1 : Int32)) sL) (
  chk (inb (x3 + (2 : Int32)) sL) (
  bnd (f_X10_years N q91.2 (xs (x3 + (1 : Int32)).toNatClampNeg) (xs (x3 + (2 : Int32)).toNatClampNeg)) fun q94 =>
 if q91.1 = q94.1 then
  (lt (x3 + (6 : Int32)) fun v95 =>
  K v95 q94.2)
  else
  (some ((0 : Int32), q94.2)))))))) := by
  obtain ⟨v, S1, S2, e1, e2, h2⟩ := k_years (Nat.lt_trans (by decide) hN) t0 t1 hI (xs (x3 + (1 : Int32)).toNatClampNeg) (xs (x3 + (2 : Int32)).toNatClampNeg)
  dsimp only at e1 e2
  simp only [chk_true c1, chk_true c2]
  rw [bnd_of e1]
  dsimp only
  rw [bnd_of e2]
  exact ⟨S2, h2, (if_pos rfl).trans rfl⟩
theorem lc_14 {xs : Nat → Int32} {sL N : Nat} {x3 : Int32} {S : St} {T : Int} (hN : 200000000 < N) (t0 : 0 ≤ T) (t1 : T < 512) (hI : INV T S)  (K : Int32 → St → Option (Int32 × St)) : GL T K x3 (
  (bnd (f_X9_undo S ) fun q96 =>
 bnd (f_X10_undo N q96.2 ) fun q97 =>
 if q96.1 = q97.1 then
  (lt (x3 + (6 : Int32)) fun v98 =>
  K v98 q97.2)
  else
  (some ((0 : Int32), q97.2)))) := by
  obtain ⟨v, S1, S2, e1, e2, h2⟩ := k_undo (Nat.lt_trans (by decide) hN) t0 t1 hI 
  dsimp only at e1 e2
  rw [bnd_of e1]
  dsimp only
  rw [bnd_of e2]
  exact ⟨S2, h2, (if_pos rfl).trans rfl⟩
theorem lc_15 {xs : Nat → Int32} {sL N : Nat} {x3 : Int32} {S : St} {T : Int} (hN : 200000000 < N) (t0 : 0 ≤ T) (t1 : T < 512) (hI : INV T S) (c1 : inb (x3 + (1 : Int32)) sL = true) (c2 : inb (x3 + (2 : Int32)) sL = true) (K : Int32 → St → Option (Int32 × St)) : GL T K x3 (
  (chk (inb (x3 + (1 : Int32)) sL) (
  chk (inb (x3 + (2 : Int32)) sL) (
  bnd (f_X9_of N S (xs (x3 + (1 : Int32)).toNatClampNeg) (xs (x3 + (2 : Int32)).toNatClampNeg)) fun q101 =>
 chk (inb (x3 + (1 : Int32)) sL) (
  chk (inb (x3 + (2 : Int32)) sL) (
  bnd (f_X10_of N q101.2 (xs (x3 + (1 : Int32)).toNatClampNeg) (xs (x3 + (2 : Int32)).toNatClampNeg)) fun q104 =>
 if q101.1 = q104.1 then
  (lt (x3 + (6 : Int32)) fun v105 =>
  K v105 q104.2)
  else
  (some ((0 : Int32), q104.2)))))))) := by
  obtain ⟨v, S1, S2, e1, e2, h2⟩ := k_of (Nat.lt_trans (by decide) hN) t0 t1 hI (xs (x3 + (1 : Int32)).toNatClampNeg) (xs (x3 + (2 : Int32)).toNatClampNeg)
  dsimp only at e1 e2
  simp only [chk_true c1, chk_true c2]
  rw [bnd_of e1]
  dsimp only
  rw [bnd_of e2]
  exact ⟨S2, h2, (if_pos rfl).trans rfl⟩
theorem lc_16 {xs : Nat → Int32} {sL N : Nat} {x3 : Int32} {S : St} {T : Int} (hN : 200000000 < N) (t0 : 0 ≤ T) (t1 : T < 512) (hI : INV T S) (c1 : inb (x3 + (1 : Int32)) sL = true) (K : Int32 → St → Option (Int32 × St)) : GL T K x3 (
  (chk (inb (x3 + (1 : Int32)) sL) (
  bnd (f_X9_ofTown S (xs (x3 + (1 : Int32)).toNatClampNeg)) fun q107 =>
 chk (inb (x3 + (1 : Int32)) sL) (
  bnd (f_X10_ofTown S (xs (x3 + (1 : Int32)).toNatClampNeg)) fun q109 =>
 if q107 = q109 then
  (lt (x3 + (6 : Int32)) fun v110 =>
  K v110 S)
  else
  (some ((0 : Int32), S)))))) := by
  obtain ⟨v, e1, e2⟩ := k_ofTown hI (xs (x3 + (1 : Int32)).toNatClampNeg)
  dsimp only at e1 e2
  simp only [chk_true c1]
  rw [bnd_of e1, bnd_of e2]
  exact ⟨S, INV_on hI t0 t1, (if_pos rfl).trans rfl⟩
theorem lc_17 {xs : Nat → Int32} {sL N : Nat} {x3 : Int32} {S : St} {T : Int} (hN : 200000000 < N) (t0 : 0 ≤ T) (t1 : T < 512) (hI : INV T S) (c1 : inb (x3 + (1 : Int32)) sL = true) (K : Int32 → St → Option (Int32 × St)) : GL T K x3 (
  (chk (inb (x3 + (1 : Int32)) sL) (
  bnd (f_X9_ofHand S (xs (x3 + (1 : Int32)).toNatClampNeg)) fun q112 =>
 chk (inb (x3 + (1 : Int32)) sL) (
  bnd (f_X10_ofHand S (xs (x3 + (1 : Int32)).toNatClampNeg)) fun q114 =>
 if q112 = q114 then
  (lt (x3 + (6 : Int32)) fun v115 =>
  K v115 S)
  else
  (some ((0 : Int32), S)))))) := by
  obtain ⟨v, e1, e2⟩ := k_ofHand hI (xs (x3 + (1 : Int32)).toNatClampNeg)
  dsimp only at e1 e2
  simp only [chk_true c1]
  rw [bnd_of e1, bnd_of e2]
  exact ⟨S, INV_on hI t0 t1, (if_pos rfl).trans rfl⟩
theorem lc_18 {xs : Nat → Int32} {sL N : Nat} {x3 : Int32} {S : St} {T : Int} (hN : 200000000 < N) (t0 : 0 ≤ T) (t1 : T < 512) (hI : INV T S) (c1 : inb (x3 + (1 : Int32)) sL = true) (c2 : inb (x3 + (2 : Int32)) sL = true) (c3 : inb (x3 + (3 : Int32)) sL = true) (K : Int32 → St → Option (Int32 × St)) : GL T K x3 (
  (chk (inb (x3 + (1 : Int32)) sL) (
  chk (inb (x3 + (2 : Int32)) sL) (
  chk (inb (x3 + (3 : Int32)) sL) (
  if (xs (x3 + (3 : Int32)).toNatClampNeg) = (0 : Int32) then
  (bnd (f_X9_moves N S (xs (x3 + (1 : Int32)).toNatClampNeg) (xs (x3 + (2 : Int32)).toNatClampNeg) (0 : Int32)) fun q119 =>
 chk (inb (x3 + (1 : Int32)) sL) (
  chk (inb (x3 + (2 : Int32)) sL) (
  chk (inb (x3 + (3 : Int32)) sL) (
  if (xs (x3 + (3 : Int32)).toNatClampNeg) = (0 : Int32) then
  (bnd (f_X10_moves N q119.2 (xs (x3 + (1 : Int32)).toNatClampNeg) (xs (x3 + (2 : Int32)).toNatClampNeg) (0 : Int32)) fun q123 =>
 if q119.1 = q123.1 then
  (lt (x3 + (6 : Int32)) fun v124 =>
  K v124 q123.2)
  else
  (some ((0 : Int32), q123.2)))
  else
  (bnd (f_X10_moves N q119.2 (xs (x3 + (1 : Int32)).toNatClampNeg) (xs (x3 + (2 : Int32)).toNatClampNeg) (1 : Int32)) fun q125 =>
 if q119.1 = q125.1 then
  (lt (x3 + (6 : Int32)) fun v126 =>
  K v126 q125.2)
  else
  (some ((0 : Int32), q125.2)))))))
  else
  (bnd (f_X9_moves N S (xs (x3 + (1 : Int32)).toNatClampNeg) (xs (x3 + (2 : Int32)).toNatClampNeg) (1 : Int32)) fun q127 =>
 chk (inb (x3 + (1 : Int32)) sL) (
  chk (inb (x3 + (2 : Int32)) sL) (
  chk (inb (x3 + (3 : Int32)) sL) (
  if (xs (x3 + (3 : Int32)).toNatClampNeg) = (0 : Int32) then
  (bnd (f_X10_moves N q127.2 (xs (x3 + (1 : Int32)).toNatClampNeg) (xs (x3 + (2 : Int32)).toNatClampNeg) (0 : Int32)) fun q131 =>
 if q127.1 = q131.1 then
  (lt (x3 + (6 : Int32)) fun v132 =>
  K v132 q131.2)
  else
  (some ((0 : Int32), q131.2)))
  else
  (bnd (f_X10_moves N q127.2 (xs (x3 + (1 : Int32)).toNatClampNeg) (xs (x3 + (2 : Int32)).toNatClampNeg) (1 : Int32)) fun q133 =>
 if q127.1 = q133.1 then
  (lt (x3 + (6 : Int32)) fun v134 =>
  K v134 q133.2)
  else
  (some ((0 : Int32), q133.2)))))))))))) := by
  by_cases h0 : xs (x3 + (3 : Int32)).toNatClampNeg = (0 : Int32)
  · obtain ⟨v, S1, S2, e1, e2, h2⟩ := k_moves (rt := 0) (Nat.lt_trans (by decide) hN) t0 t1 hI (xs (x3 + (1 : Int32)).toNatClampNeg) (xs (x3 + (2 : Int32)).toNatClampNeg) (Or.inl rfl)
    dsimp only at e1 e2
    rw [jj_z] at e1 e2
    simp only [chk_true c1, chk_true c2, chk_true c3, if_pos h0]
    rw [bnd_of e1]
    dsimp only
    rw [bnd_of e2]
    exact ⟨S2, h2, (if_pos rfl).trans rfl⟩
  · obtain ⟨v, S1, S2, e1, e2, h2⟩ := k_moves (rt := 1) (Nat.lt_trans (by decide) hN) t0 t1 hI (xs (x3 + (1 : Int32)).toNatClampNeg) (xs (x3 + (2 : Int32)).toNatClampNeg) (Or.inr rfl)
    dsimp only at e1 e2
    rw [jj_e] at e1 e2
    simp only [chk_true c1, chk_true c2, chk_true c3, if_neg h0]
    rw [bnd_of e1]
    dsimp only
    rw [bnd_of e2]
    exact ⟨S2, h2, (if_pos rfl).trans rfl⟩
theorem lc_19 {xs : Nat → Int32} {sL N : Nat} {x3 : Int32} {S : St} {T : Int} (hN : 200000000 < N) (t0 : 0 ≤ T) (t1 : T < 512) (hI : INV T S) (c1 : inb (x3 + (1 : Int32)) sL = true) (K : Int32 → St → Option (Int32 × St)) : GL T K x3 (
  (chk (inb (x3 + (1 : Int32)) sL) (
  bnd (f_X9_is N S (xs (x3 + (1 : Int32)).toNatClampNeg)) fun q136 =>
 chk (inb (x3 + (1 : Int32)) sL) (
  bnd (f_X10_is N S (xs (x3 + (1 : Int32)).toNatClampNeg)) fun q138 =>
 if q136 = q138 then
  (lt (x3 + (6 : Int32)) fun v139 =>
  K v139 S)
  else
  (some ((0 : Int32), S)))))) := by
  obtain ⟨v, e1, e2⟩ := k_is (Nat.lt_trans (by decide) hN) hI (xs (x3 + (1 : Int32)).toNatClampNeg)
  dsimp only at e1 e2
  simp only [chk_true c1]
  rw [bnd_of e1, bnd_of e2]
  exact ⟨S, INV_on hI t0 t1, (if_pos rfl).trans rfl⟩
theorem lc_20 {xs : Nat → Int32} {sL N : Nat} {x3 : Int32} {S : St} {T : Int} (hN : 200000000 < N) (t0 : 0 ≤ T) (t1 : T < 512) (hI : INV T S) (c1 : inb (x3 + (1 : Int32)) sL = true) (c2 : inb (x3 + (2 : Int32)) sL = true) (K : Int32 → St → Option (Int32 × St)) : GL T K x3 (
  (chk (inb (x3 + (1 : Int32)) sL) (
  chk (inb (x3 + (2 : Int32)) sL) (
  bnd (f_X9_book S (xs (x3 + (1 : Int32)).toNatClampNeg) (xs (x3 + (2 : Int32)).toNatClampNeg)) fun q142 =>
 chk (inb (x3 + (1 : Int32)) sL) (
  chk (inb (x3 + (2 : Int32)) sL) (
  bnd (f_X10_book S (xs (x3 + (1 : Int32)).toNatClampNeg) (xs (x3 + (2 : Int32)).toNatClampNeg)) fun q145 =>
 if q142 = q145 then
  (lt (x3 + (6 : Int32)) fun v146 =>
  K v146 S)
  else
  (some ((0 : Int32), S)))))))) := by
  obtain ⟨v, e1, e2⟩ := k_book hI (xs (x3 + (1 : Int32)).toNatClampNeg) (xs (x3 + (2 : Int32)).toNatClampNeg)
  dsimp only at e1 e2
  simp only [chk_true c1, chk_true c2]
  rw [bnd_of e1, bnd_of e2]
  exact ⟨S, INV_on hI t0 t1, (if_pos rfl).trans rfl⟩
theorem lc_21 {xs : Nat → Int32} {sL N : Nat} {x3 : Int32} {S : St} {T : Int} (hN : 200000000 < N) (t0 : 0 ≤ T) (t1 : T < 512) (hI : INV T S) (c1 : inb (x3 + (1 : Int32)) sL = true) (c2 : inb (x3 + (2 : Int32)) sL = true) (c3 : inb (x3 + (3 : Int32)) sL = true) (K : Int32 → St → Option (Int32 × St)) : GL T K x3 (
  (chk (inb (x3 + (1 : Int32)) sL) (
  chk (inb (x3 + (2 : Int32)) sL) (
  chk (inb (x3 + (3 : Int32)) sL) (
  bnd (f_X9_foretold N S (xs (x3 + (1 : Int32)).toNatClampNeg) (xs (x3 + (2 : Int32)).toNatClampNeg) (xs (x3 + (3 : Int32)).toNatClampNeg)) fun q150 =>
 chk (inb (x3 + (1 : Int32)) sL) (
  chk (inb (x3 + (2 : Int32)) sL) (
  chk (inb (x3 + (3 : Int32)) sL) (
  bnd (f_X10_foretold N q150.2 (xs (x3 + (1 : Int32)).toNatClampNeg) (xs (x3 + (2 : Int32)).toNatClampNeg) (xs (x3 + (3 : Int32)).toNatClampNeg)) fun q154 =>
 if q150.1 = q154.1 then
  (lt (x3 + (6 : Int32)) fun v155 =>
  K v155 q154.2)
  else
  (some ((0 : Int32), q154.2)))))))))) := by
  obtain ⟨v, S1, S2, e1, e2, h2⟩ := k_foretold (Nat.lt_trans (by decide) hN) t0 t1 hI (xs (x3 + (1 : Int32)).toNatClampNeg) (xs (x3 + (2 : Int32)).toNatClampNeg) (xs (x3 + (3 : Int32)).toNatClampNeg)
  dsimp only at e1 e2
  simp only [chk_true c1, chk_true c2, chk_true c3]
  rw [bnd_of e1]
  dsimp only
  rw [bnd_of e2]
  exact ⟨S2, h2, (if_pos rfl).trans rfl⟩
theorem lc_22 {xs : Nat → Int32} {sL N : Nat} {x3 : Int32} {S : St} {T : Int} (hN : 200000000 < N) (t0 : 0 ≤ T) (t1 : T < 512) (hI : INV T S)  (K : Int32 → St → Option (Int32 × St)) : GL T K x3 (
  (bnd (f_X9_lake N S ) fun q156 =>
 bnd (f_X10_lake N S ) fun q157 =>
 if q156 = q157 then
  (lt (x3 + (6 : Int32)) fun v158 =>
  K v158 S)
  else
  (some ((0 : Int32), S)))) := by
  obtain ⟨v, e1, e2⟩ := k_lake (Nat.lt_trans (by decide) hN) t0 t1 hI 
  dsimp only at e1 e2
  rw [bnd_of e1, bnd_of e2]
  exact ⟨S, INV_on hI t0 t1, (if_pos rfl).trans rfl⟩
theorem lc_23 {xs : Nat → Int32} {sL N : Nat} {x3 : Int32} {S : St} {T : Int} (hN : 200000000 < N) (t0 : 0 ≤ T) (t1 : T < 512) (hI : INV T S) (c1 : inb (x3 + (1 : Int32)) sL = true) (K : Int32 → St → Option (Int32 × St)) : GL T K x3 (
  (chk (inb (x3 + (1 : Int32)) sL) (
  bnd (f_X9_glaze N S (xs (x3 + (1 : Int32)).toNatClampNeg)) fun q160 =>
 chk (inb (x3 + (1 : Int32)) sL) (
  bnd (f_X10_glaze N S (xs (x3 + (1 : Int32)).toNatClampNeg)) fun q162 =>
 if q160 = q162 then
  (lt (x3 + (6 : Int32)) fun v163 =>
  K v163 S)
  else
  (some ((0 : Int32), S)))))) := by
  obtain ⟨v, e1, e2⟩ := k_glaze (Nat.lt_trans (by decide) hN) t0 t1 hI (xs (x3 + (1 : Int32)).toNatClampNeg)
  dsimp only at e1 e2
  simp only [chk_true c1]
  rw [bnd_of e1, bnd_of e2]
  exact ⟨S, INV_on hI t0 t1, (if_pos rfl).trans rfl⟩
theorem lc_24 {xs : Nat → Int32} {sL N : Nat} {x3 : Int32} {S : St} {T : Int} (hN : 200000000 < N) (t0 : 0 ≤ T) (t1 : T < 512) (hI : INV T S) (c1 : inb (x3 + (1 : Int32)) sL = true) (K : Int32 → St → Option (Int32 × St)) : GL T K x3 (
  (chk (inb (x3 + (1 : Int32)) sL) (
  bnd (f_X9_rise N S (xs (x3 + (1 : Int32)).toNatClampNeg)) fun q165 =>
 chk (inb (x3 + (1 : Int32)) sL) (
  bnd (f_X10_rise N q165.2 (xs (x3 + (1 : Int32)).toNatClampNeg)) fun q167 =>
 if q165.1 = q167.1 then
  (lt (x3 + (6 : Int32)) fun v168 =>
  K v168 q167.2)
  else
  (some ((0 : Int32), q167.2)))))) := by
  obtain ⟨v, S1, S2, e1, e2, h2⟩ := k_rise (Nat.lt_trans (by decide) hN) t0 t1 hI (xs (x3 + (1 : Int32)).toNatClampNeg)
  dsimp only at e1 e2
  simp only [chk_true c1]
  rw [bnd_of e1]
  dsimp only
  rw [bnd_of e2]
  exact ⟨S2, h2, (if_pos rfl).trans rfl⟩
theorem lc_25 {xs : Nat → Int32} {sL N : Nat} {x3 : Int32} {S : St} {T : Int} (hN : 200000000 < N) (t0 : 0 ≤ T) (t1 : T < 512) (hI : INV T S)  (K : Int32 → St → Option (Int32 × St)) : GL T K x3 (
  (bnd (f_X9_folds N S ) fun q169 =>
 bnd (f_X10_folds N S ) fun q170 =>
 if q169 = q170 then
  (lt (x3 + (6 : Int32)) fun v171 =>
  K v171 S)
  else
  (some ((0 : Int32), S)))) := by
  obtain ⟨v, e1, e2⟩ := k_folds (Nat.lt_trans (by decide) hN) t0 t1 hI 
  dsimp only at e1 e2
  rw [bnd_of e1, bnd_of e2]
  exact ⟨S, INV_on hI t0 t1, (if_pos rfl).trans rfl⟩
theorem lc_26 {xs : Nat → Int32} {sL N : Nat} {x3 : Int32} {S : St} {T : Int} (hN : 200000000 < N) (t0 : 0 ≤ T) (t1 : T < 512) (hI : INV T S)  (K : Int32 → St → Option (Int32 × St)) : GL T K x3 (
  (bnd (f_X9_peaks N S ) fun q172 =>
 bnd (f_X10_peaks N S ) fun q173 =>
 if q172 = q173 then
  (lt (x3 + (6 : Int32)) fun v174 =>
  K v174 S)
  else
  (some ((0 : Int32), S)))) := by
  obtain ⟨v, e1, e2⟩ := k_peaks (Nat.lt_trans (by decide) hN) t0 t1 hI 
  dsimp only at e1 e2
  rw [bnd_of e1, bnd_of e2]
  exact ⟨S, INV_on hI t0 t1, (if_pos rfl).trans rfl⟩
theorem lc_27 {xs : Nat → Int32} {sL N : Nat} {x3 : Int32} {S : St} {T : Int} (hN : 200000000 < N) (t0 : 0 ≤ T) (t1 : T < 512) (hI : INV T S) (c1 : inb (x3 + (1 : Int32)) sL = true) (K : Int32 → St → Option (Int32 × St)) : GL T K x3 (
  (chk (inb (x3 + (1 : Int32)) sL) (
  bnd (f_X9_richest N S (xs (x3 + (1 : Int32)).toNatClampNeg)) fun q176 =>
 chk (inb (x3 + (1 : Int32)) sL) (
  bnd (f_X10_richest N S (xs (x3 + (1 : Int32)).toNatClampNeg)) fun q178 =>
 if q176 = q178 then
  (lt (x3 + (6 : Int32)) fun v179 =>
  K v179 S)
  else
  (some ((0 : Int32), S)))))) := by
  obtain ⟨v, e1, e2⟩ := k_richest (Nat.lt_trans (by decide) hN) t0 t1 hI (xs (x3 + (1 : Int32)).toNatClampNeg)
  dsimp only at e1 e2
  simp only [chk_true c1]
  rw [bnd_of e1, bnd_of e2]
  exact ⟨S, INV_on hI t0 t1, (if_pos rfl).trans rfl⟩
theorem lc_28 {xs : Nat → Int32} {sL N : Nat} {x3 : Int32} {S : St} {T : Int} (hN : 200000000 < N) (t0 : 0 ≤ T) (t1 : T < 512) (hI : INV T S) (c1 : inb (x3 + (1 : Int32)) sL = true) (K : Int32 → St → Option (Int32 × St)) : GL T K x3 (
  (chk (inb (x3 + (1 : Int32)) sL) (
  bnd (f_X9_islands N S (xs (x3 + (1 : Int32)).toNatClampNeg)) fun q181 =>
 chk (inb (x3 + (1 : Int32)) sL) (
  bnd (f_X10_islands N S (xs (x3 + (1 : Int32)).toNatClampNeg)) fun q183 =>
 if q181 = q183 then
  (lt (x3 + (6 : Int32)) fun v184 =>
  K v184 S)
  else
  (some ((0 : Int32), S)))))) := by
  obtain ⟨v, e1, e2⟩ := k_islands (Nat.lt_trans (by decide) hN) t0 t1 hI (xs (x3 + (1 : Int32)).toNatClampNeg)
  dsimp only at e1 e2
  simp only [chk_true c1]
  rw [bnd_of e1, bnd_of e2]
  exact ⟨S, INV_on hI t0 t1, (if_pos rfl).trans rfl⟩
theorem lc_29 {xs : Nat → Int32} {sL N : Nat} {x3 : Int32} {S : St} {T : Int} (hN : 200000000 < N) (t0 : 0 ≤ T) (t1 : T < 512) (hI : INV T S) (c1 : inb (x3 + (1 : Int32)) sL = true) (c2 : inb (x3 + (2 : Int32)) sL = true) (K : Int32 → St → Option (Int32 × St)) : GL T K x3 (
  (chk (inb (x3 + (1 : Int32)) sL) (
  chk (inb (x3 + (2 : Int32)) sL) (
  if (xs (x3 + (2 : Int32)).toNatClampNeg) = (0 : Int32) then
  (bnd (f_X9_sees N S (xs (x3 + (1 : Int32)).toNatClampNeg) (0 : Int32)) fun q187 =>
 chk (inb (x3 + (1 : Int32)) sL) (
  chk (inb (x3 + (2 : Int32)) sL) (
  if (xs (x3 + (2 : Int32)).toNatClampNeg) = (0 : Int32) then
  (bnd (f_X10_sees N S (xs (x3 + (1 : Int32)).toNatClampNeg) (0 : Int32)) fun q190 =>
 if q187 = q190 then
  (lt (x3 + (6 : Int32)) fun v191 =>
  K v191 S)
  else
  (some ((0 : Int32), S)))
  else
  (bnd (f_X10_sees N S (xs (x3 + (1 : Int32)).toNatClampNeg) (1 : Int32)) fun q192 =>
 if q187 = q192 then
  (lt (x3 + (6 : Int32)) fun v193 =>
  K v193 S)
  else
  (some ((0 : Int32), S))))))
  else
  (bnd (f_X9_sees N S (xs (x3 + (1 : Int32)).toNatClampNeg) (1 : Int32)) fun q194 =>
 chk (inb (x3 + (1 : Int32)) sL) (
  chk (inb (x3 + (2 : Int32)) sL) (
  if (xs (x3 + (2 : Int32)).toNatClampNeg) = (0 : Int32) then
  (bnd (f_X10_sees N S (xs (x3 + (1 : Int32)).toNatClampNeg) (0 : Int32)) fun q197 =>
 if q194 = q197 then
  (lt (x3 + (6 : Int32)) fun v198 =>
  K v198 S)
  else
  (some ((0 : Int32), S)))
  else
  (bnd (f_X10_sees N S (xs (x3 + (1 : Int32)).toNatClampNeg) (1 : Int32)) fun q199 =>
 if q194 = q199 then
  (lt (x3 + (6 : Int32)) fun v200 =>
  K v200 S)
  else
  (some ((0 : Int32), S)))))))))) := by
  by_cases h0 : xs (x3 + (2 : Int32)).toNatClampNeg = (0 : Int32)
  · obtain ⟨v, e1, e2⟩ := k_sees (Nat.lt_trans (by decide) hN) t0 t1 hI (xs (x3 + (1 : Int32)).toNatClampNeg) (0 : Int32) (Or.inl rfl)
    dsimp only at e1 e2
    simp only [chk_true c1, chk_true c2, if_pos h0]
    rw [bnd_of e1, bnd_of e2]
    exact ⟨S, INV_on hI t0 t1, (if_pos rfl).trans rfl⟩
  · obtain ⟨v, e1, e2⟩ := k_sees (Nat.lt_trans (by decide) hN) t0 t1 hI (xs (x3 + (1 : Int32)).toNatClampNeg) (1 : Int32) (Or.inr rfl)
    dsimp only at e1 e2
    simp only [chk_true c1, chk_true c2, if_neg h0]
    rw [bnd_of e1, bnd_of e2]
    exact ⟨S, INV_on hI t0 t1, (if_pos rfl).trans rfl⟩
theorem lc_30 {xs : Nat → Int32} {sL N : Nat} {x3 : Int32} {S : St} {T : Int} (hN : 200000000 < N) (t0 : 0 ≤ T) (t1 : T < 512) (hI : INV T S) (c1 : inb (x3 + (1 : Int32)) sL = true) (K : Int32 → St → Option (Int32 × St)) : GL T K x3 (
  (chk (inb (x3 + (1 : Int32)) sL) (
  bnd (f_X9_middle N S (xs (x3 + (1 : Int32)).toNatClampNeg)) fun q202 =>
 chk (inb (x3 + (1 : Int32)) sL) (
  bnd (f_X10_middle N S (xs (x3 + (1 : Int32)).toNatClampNeg)) fun q204 =>
 if q202 = q204 then
  (lt (x3 + (6 : Int32)) fun v205 =>
  K v205 S)
  else
  (some ((0 : Int32), S)))))) := by
  obtain ⟨v, e1, e2⟩ := k_middle (Nat.lt_trans (by decide) hN) t0 t1 hI (xs (x3 + (1 : Int32)).toNatClampNeg)
  dsimp only at e1 e2
  simp only [chk_true c1]
  rw [bnd_of e1, bnd_of e2]
  exact ⟨S, INV_on hI t0 t1, (if_pos rfl).trans rfl⟩
theorem lc_31 {xs : Nat → Int32} {sL N : Nat} {x3 : Int32} {S : St} {T : Int} (hN : 200000000 < N) (t0 : 0 ≤ T) (t1 : T < 512) (hI : INV T S)  (K : Int32 → St → Option (Int32 × St)) : GL T K x3 (
  (bnd (f_X9_carried N S ) fun q206 =>
 bnd (f_X10_carried N S ) fun q207 =>
 if q206 = q207 then
  (lt (x3 + (6 : Int32)) fun v208 =>
  K v208 S)
  else
  (some ((0 : Int32), S)))) := by
  obtain ⟨v, e1, e2⟩ := k_carried (Nat.lt_trans (by decide) hN) t0 t1 hI 
  dsimp only at e1 e2
  rw [bnd_of e1, bnd_of e2]
  exact ⟨S, INV_on hI t0 t1, (if_pos rfl).trans rfl⟩
theorem lc_32 {xs : Nat → Int32} {sL N : Nat} {x3 : Int32} {S : St} {T : Int} (hN : 200000000 < N) (t0 : 0 ≤ T) (t1 : T < 512) (hI : INV T S)  (K : Int32 → St → Option (Int32 × St)) : GL T K x3 (
  (bnd (f_X9_level N S ) fun q209 =>
 bnd (f_X10_level N q209.2 ) fun q210 =>
 if q209.1 = q210 then
  (lt (x3 + (6 : Int32)) fun v211 =>
  K v211 q209.2)
  else
  (some ((0 : Int32), q209.2)))) := by
  obtain ⟨v, S1, S2, e1, e2, h2⟩ := k_level (Nat.lt_trans (by decide) hN) t0 t1 hI 
  dsimp only at e1 e2
  obtain ⟨e3, rfl⟩ := bnd_back e2
  rw [bnd_of e1]
  dsimp only
  rw [bnd_of e3]
  exact ⟨S1, h2, (if_pos rfl).trans rfl⟩
theorem lc_33 {xs : Nat → Int32} {sL N : Nat} {x3 : Int32} {S : St} {T : Int} (hN : 200000000 < N) (t0 : 0 ≤ T) (t1 : T < 512) (hI : INV T S) (c1 : inb (x3 + (1 : Int32)) sL = true) (c2 : inb (x3 + (2 : Int32)) sL = true) (K : Int32 → St → Option (Int32 × St)) : GL T K x3 (
  (chk (inb (x3 + (1 : Int32)) sL) (
  chk (inb (x3 + (2 : Int32)) sL) (
  bnd (f_X9_shared N S (xs (x3 + (1 : Int32)).toNatClampNeg) (xs (x3 + (2 : Int32)).toNatClampNeg)) fun q214 =>
 chk (inb (x3 + (1 : Int32)) sL) (
  chk (inb (x3 + (2 : Int32)) sL) (
  bnd (f_X10_shared N q214.2 (xs (x3 + (1 : Int32)).toNatClampNeg) (xs (x3 + (2 : Int32)).toNatClampNeg)) fun q217 =>
 if q214.1 = q217 then
  (lt (x3 + (6 : Int32)) fun v218 =>
  K v218 q214.2)
  else
  (some ((0 : Int32), q214.2)))))))) := by
  obtain ⟨v, S1, S2, e1, e2, h2⟩ := k_shared hN t0 t1 hI (xs (x3 + (1 : Int32)).toNatClampNeg) (xs (x3 + (2 : Int32)).toNatClampNeg)
  dsimp only at e1 e2
  obtain ⟨e3, rfl⟩ := bnd_back e2
  simp only [chk_true c1, chk_true c2]
  rw [bnd_of e1]
  dsimp only
  rw [bnd_of e3]
  exact ⟨S1, h2, (if_pos rfl).trans rfl⟩
theorem lc_34 {xs : Nat → Int32} {sL N : Nat} {x3 : Int32} {S : St} {T : Int} (hN : 200000000 < N) (t0 : 0 ≤ T) (t1 : T < 512) (hI : INV T S) (c1 : inb (x3 + (1 : Int32)) sL = true) (c2 : inb (x3 + (2 : Int32)) sL = true) (K : Int32 → St → Option (Int32 × St)) : GL T K x3 (
  (chk (inb (x3 + (1 : Int32)) sL) (
  chk (inb (x3 + (2 : Int32)) sL) (
  bnd (f_X9_ends N S (xs (x3 + (1 : Int32)).toNatClampNeg) (xs (x3 + (2 : Int32)).toNatClampNeg)) fun q221 =>
 chk (inb (x3 + (1 : Int32)) sL) (
  chk (inb (x3 + (2 : Int32)) sL) (
  bnd (f_X10_ends N q221.2 (xs (x3 + (1 : Int32)).toNatClampNeg) (xs (x3 + (2 : Int32)).toNatClampNeg)) fun q224 =>
 if q221.1 = q224.1 then
  (lt (x3 + (6 : Int32)) fun v225 =>
  K v225 q224.2)
  else
  (some ((0 : Int32), q224.2)))))))) := by
  obtain ⟨v, S1, S2, e1, e2, h2⟩ := k_ends (Nat.lt_trans (by decide) hN) t0 t1 hI (xs (x3 + (1 : Int32)).toNatClampNeg) (xs (x3 + (2 : Int32)).toNatClampNeg)
  dsimp only at e1 e2
  simp only [chk_true c1, chk_true c2]
  rw [bnd_of e1]
  dsimp only
  rw [bnd_of e2]
  exact ⟨S2, h2, (if_pos rfl).trans rfl⟩
theorem lc_35 {xs : Nat → Int32} {sL N : Nat} {x3 : Int32} {S : St} {T : Int} (hN : 200000000 < N) (t0 : 0 ≤ T) (t1 : T < 512) (hI : INV T S) (c1 : inb (x3 + (1 : Int32)) sL = true) (c2 : inb (x3 + (2 : Int32)) sL = true) (K : Int32 → St → Option (Int32 × St)) : GL T K x3 (
  (chk (inb (x3 + (1 : Int32)) sL) (
  chk (inb (x3 + (2 : Int32)) sL) (
  bnd (f_X9_endsFirst N S (xs (x3 + (1 : Int32)).toNatClampNeg) (xs (x3 + (2 : Int32)).toNatClampNeg)) fun q228 =>
 chk (inb (x3 + (1 : Int32)) sL) (
  chk (inb (x3 + (2 : Int32)) sL) (
  bnd (f_X10_endsFirst N q228.2 (xs (x3 + (1 : Int32)).toNatClampNeg) (xs (x3 + (2 : Int32)).toNatClampNeg)) fun q231 =>
 if q228.1 = q231.1 then
  (lt (x3 + (6 : Int32)) fun v232 =>
  K v232 q231.2)
  else
  (some ((0 : Int32), q231.2)))))))) := by
  obtain ⟨v, S1, S2, e1, e2, h2⟩ := k_endsFirst (Nat.lt_trans (by decide) hN) t0 t1 hI (xs (x3 + (1 : Int32)).toNatClampNeg) (xs (x3 + (2 : Int32)).toNatClampNeg)
  dsimp only at e1 e2
  simp only [chk_true c1, chk_true c2]
  rw [bnd_of e1]
  dsimp only
  rw [bnd_of e2]
  exact ⟨S2, h2, (if_pos rfl).trans rfl⟩
theorem lc_36 {xs : Nat → Int32} {sL N : Nat} {x3 : Int32} {S : St} {T : Int} (hN : 200000000 < N) (t0 : 0 ≤ T) (t1 : T < 512) (hI : INV T S) (c1 : inb (x3 + (1 : Int32)) sL = true) (c2 : inb (x3 + (2 : Int32)) sL = true) (c3 : inb (x3 + (3 : Int32)) sL = true) (K : Int32 → St → Option (Int32 × St)) : GL T K x3 (
  (chk (inb (x3 + (1 : Int32)) sL) (
  chk (inb (x3 + (2 : Int32)) sL) (
  chk (inb (x3 + (3 : Int32)) sL) (
  if (xs (x3 + (3 : Int32)).toNatClampNeg) = (0 : Int32) then
  (bnd (f_X9_patches N S (xs (x3 + (1 : Int32)).toNatClampNeg) (xs (x3 + (2 : Int32)).toNatClampNeg) (0 : Int32)) fun q236 =>
 chk (inb (x3 + (1 : Int32)) sL) (
  chk (inb (x3 + (2 : Int32)) sL) (
  chk (inb (x3 + (3 : Int32)) sL) (
  if (xs (x3 + (3 : Int32)).toNatClampNeg) = (0 : Int32) then
  (bnd (f_X10_patches N q236.2 (xs (x3 + (1 : Int32)).toNatClampNeg) (xs (x3 + (2 : Int32)).toNatClampNeg) (0 : Int32)) fun q240 =>
 if q236.1 = q240.1 then
  (lt (x3 + (6 : Int32)) fun v241 =>
  K v241 q240.2)
  else
  (some ((0 : Int32), q240.2)))
  else
  (bnd (f_X10_patches N q236.2 (xs (x3 + (1 : Int32)).toNatClampNeg) (xs (x3 + (2 : Int32)).toNatClampNeg) (1 : Int32)) fun q242 =>
 if q236.1 = q242.1 then
  (lt (x3 + (6 : Int32)) fun v243 =>
  K v243 q242.2)
  else
  (some ((0 : Int32), q242.2)))))))
  else
  (bnd (f_X9_patches N S (xs (x3 + (1 : Int32)).toNatClampNeg) (xs (x3 + (2 : Int32)).toNatClampNeg) (1 : Int32)) fun q244 =>
 chk (inb (x3 + (1 : Int32)) sL) (
  chk (inb (x3 + (2 : Int32)) sL) (
  chk (inb (x3 + (3 : Int32)) sL) (
  if (xs (x3 + (3 : Int32)).toNatClampNeg) = (0 : Int32) then
  (bnd (f_X10_patches N q244.2 (xs (x3 + (1 : Int32)).toNatClampNeg) (xs (x3 + (2 : Int32)).toNatClampNeg) (0 : Int32)) fun q248 =>
 if q244.1 = q248.1 then
  (lt (x3 + (6 : Int32)) fun v249 =>
  K v249 q248.2)
  else
  (some ((0 : Int32), q248.2)))
  else
  (bnd (f_X10_patches N q244.2 (xs (x3 + (1 : Int32)).toNatClampNeg) (xs (x3 + (2 : Int32)).toNatClampNeg) (1 : Int32)) fun q250 =>
 if q244.1 = q250.1 then
  (lt (x3 + (6 : Int32)) fun v251 =>
  K v251 q250.2)
  else
  (some ((0 : Int32), q250.2)))))))))))) := by
  by_cases h0 : xs (x3 + (3 : Int32)).toNatClampNeg = (0 : Int32)
  · obtain ⟨v, S1, S2, e1, e2, h2⟩ := k_patches (Nat.lt_trans (by decide) hN) t0 t1 hI (xs (x3 + (1 : Int32)).toNatClampNeg) (xs (x3 + (2 : Int32)).toNatClampNeg) (0 : Int32)
    dsimp only at e1 e2
    simp only [chk_true c1, chk_true c2, chk_true c3, if_pos h0]
    rw [bnd_of e1]
    dsimp only
    rw [bnd_of e2]
    exact ⟨S2, h2, (if_pos rfl).trans rfl⟩
  · obtain ⟨v, S1, S2, e1, e2, h2⟩ := k_patches (Nat.lt_trans (by decide) hN) t0 t1 hI (xs (x3 + (1 : Int32)).toNatClampNeg) (xs (x3 + (2 : Int32)).toNatClampNeg) (1 : Int32)
    dsimp only at e1 e2
    simp only [chk_true c1, chk_true c2, chk_true c3, if_neg h0]
    rw [bnd_of e1]
    dsimp only
    rw [bnd_of e2]
    exact ⟨S2, h2, (if_pos rfl).trans rfl⟩
theorem lc_37 {xs : Nat → Int32} {sL N : Nat} {x3 : Int32} {S : St} {T : Int} (hN : 200000000 < N) (t0 : 0 ≤ T) (t1 : T < 512) (hI : INV T S) (c1 : inb (x3 + (1 : Int32)) sL = true) (c2 : inb (x3 + (2 : Int32)) sL = true) (c3 : inb (x3 + (3 : Int32)) sL = true) (K : Int32 → St → Option (Int32 × St)) : GL T K x3 (
  (chk (inb (x3 + (1 : Int32)) sL) (
  chk (inb (x3 + (2 : Int32)) sL) (
  chk (inb (x3 + (3 : Int32)) sL) (
  bnd (f_X9_plan N S (xs (x3 + (1 : Int32)).toNatClampNeg) (xs (x3 + (2 : Int32)).toNatClampNeg) (xs (x3 + (3 : Int32)).toNatClampNeg)) fun q255 =>
 chk (inb (x3 + (1 : Int32)) sL) (
  chk (inb (x3 + (2 : Int32)) sL) (
  chk (inb (x3 + (3 : Int32)) sL) (
  bnd (f_X10_plan N q255.2 (xs (x3 + (1 : Int32)).toNatClampNeg) (xs (x3 + (2 : Int32)).toNatClampNeg) (xs (x3 + (3 : Int32)).toNatClampNeg)) fun q259 =>
 if q255.1 = q259.1 then
  (lt (x3 + (6 : Int32)) fun v260 =>
  K v260 q259.2)
  else
  (some ((0 : Int32), q259.2)))))))))) := by
  obtain ⟨v, S1, S2, e1, e2, h2⟩ := k_plan hN t0 t1 hI (xs (x3 + (1 : Int32)).toNatClampNeg) (xs (x3 + (2 : Int32)).toNatClampNeg) (xs (x3 + (3 : Int32)).toNatClampNeg)
  dsimp only at e1 e2
  simp only [chk_true c1, chk_true c2, chk_true c3]
  rw [bnd_of e1]
  dsimp only
  rw [bnd_of e2]
  exact ⟨S2, h2, (if_pos rfl).trans rfl⟩
theorem lc_38 {xs : Nat → Int32} {sL N : Nat} {x3 : Int32} {S : St} {T : Int} (hN : 200000000 < N) (t0 : 0 ≤ T) (t1 : T < 512) (hI : INV T S) (c1 : inb (x3 + (1 : Int32)) sL = true) (K : Int32 → St → Option (Int32 × St)) : GL T K x3 (
  (chk (inb (x3 + (1 : Int32)) sL) (
  bnd (f_X9_best N S (xs (x3 + (1 : Int32)).toNatClampNeg)) fun q262 =>
 chk (inb (x3 + (1 : Int32)) sL) (
  bnd (f_X10_best N q262.2 (xs (x3 + (1 : Int32)).toNatClampNeg)) fun q264 =>
 if q262.1 = q264.1 then
  (lt (x3 + (6 : Int32)) fun v265 =>
  K v265 q264.2)
  else
  (some ((0 : Int32), q264.2)))))) := by
  obtain ⟨v, S1, S2, e1, e2, h2⟩ := k_best (Nat.lt_trans (by decide) hN) t0 t1 hI (xs (x3 + (1 : Int32)).toNatClampNeg)
  dsimp only at e1 e2
  simp only [chk_true c1]
  rw [bnd_of e1]
  dsimp only
  rw [bnd_of e2]
  exact ⟨S2, h2, (if_pos rfl).trans rfl⟩
theorem lc_39 {xs : Nat → Int32} {sL N : Nat} {x3 : Int32} {S : St} {T : Int} (hN : 200000000 < N) (t0 : 0 ≤ T) (t1 : T < 512) (hI : INV T S) (c1 : inb (x3 + (1 : Int32)) sL = true) (c2 : inb (x3 + (2 : Int32)) sL = true) (K : Int32 → St → Option (Int32 × St)) : GL T K x3 (
  (chk (inb (x3 + (1 : Int32)) sL) (
  chk (inb (x3 + (2 : Int32)) sL) (
  if (xs (x3 + (2 : Int32)).toNatClampNeg) = (0 : Int32) then
  (bnd (f_X9_which N S (xs (x3 + (1 : Int32)).toNatClampNeg) (0 : Int32)) fun q268 =>
 chk (inb (x3 + (1 : Int32)) sL) (
  chk (inb (x3 + (2 : Int32)) sL) (
  if (xs (x3 + (2 : Int32)).toNatClampNeg) = (0 : Int32) then
  (bnd (f_X10_which N q268.2 (xs (x3 + (1 : Int32)).toNatClampNeg) (0 : Int32)) fun q271 =>
 if q268.1 = q271.1 then
  (lt (x3 + (6 : Int32)) fun v272 =>
  K v272 q271.2)
  else
  (some ((0 : Int32), q271.2)))
  else
  (bnd (f_X10_which N q268.2 (xs (x3 + (1 : Int32)).toNatClampNeg) (1 : Int32)) fun q273 =>
 if q268.1 = q273.1 then
  (lt (x3 + (6 : Int32)) fun v274 =>
  K v274 q273.2)
  else
  (some ((0 : Int32), q273.2))))))
  else
  (bnd (f_X9_which N S (xs (x3 + (1 : Int32)).toNatClampNeg) (1 : Int32)) fun q275 =>
 chk (inb (x3 + (1 : Int32)) sL) (
  chk (inb (x3 + (2 : Int32)) sL) (
  if (xs (x3 + (2 : Int32)).toNatClampNeg) = (0 : Int32) then
  (bnd (f_X10_which N q275.2 (xs (x3 + (1 : Int32)).toNatClampNeg) (0 : Int32)) fun q278 =>
 if q275.1 = q278.1 then
  (lt (x3 + (6 : Int32)) fun v279 =>
  K v279 q278.2)
  else
  (some ((0 : Int32), q278.2)))
  else
  (bnd (f_X10_which N q275.2 (xs (x3 + (1 : Int32)).toNatClampNeg) (1 : Int32)) fun q280 =>
 if q275.1 = q280.1 then
  (lt (x3 + (6 : Int32)) fun v281 =>
  K v281 q280.2)
  else
  (some ((0 : Int32), q280.2)))))))))) := by
  by_cases h0 : xs (x3 + (2 : Int32)).toNatClampNeg = (0 : Int32)
  · obtain ⟨v, S1, S2, e1, e2, h2⟩ := k_which (Nat.lt_trans (by decide) hN) t0 t1 hI (xs (x3 + (1 : Int32)).toNatClampNeg) (0 : Int32)
    dsimp only at e1 e2
    simp only [chk_true c1, chk_true c2, if_pos h0]
    rw [bnd_of e1]
    dsimp only
    rw [bnd_of e2]
    exact ⟨S2, h2, (if_pos rfl).trans rfl⟩
  · obtain ⟨v, S1, S2, e1, e2, h2⟩ := k_which (Nat.lt_trans (by decide) hN) t0 t1 hI (xs (x3 + (1 : Int32)).toNatClampNeg) (1 : Int32)
    dsimp only at e1 e2
    simp only [chk_true c1, chk_true c2, if_neg h0]
    rw [bnd_of e1]
    dsimp only
    rw [bnd_of e2]
    exact ⟨S2, h2, (if_pos rfl).trans rfl⟩
theorem lc_40 {xs : Nat → Int32} {sL N : Nat} {x3 : Int32} {S : St} {T : Int} (hN : 200000000 < N) (t0 : 0 ≤ T) (t1 : T < 512) (hI : INV T S) (c1 : inb (x3 + (1 : Int32)) sL = true) (c2 : inb (x3 + (2 : Int32)) sL = true) (K : Int32 → St → Option (Int32 × St)) : GL T K x3 (
  (chk (inb (x3 + (1 : Int32)) sL) (
  chk (inb (x3 + (2 : Int32)) sL) (
  if (xs (x3 + (2 : Int32)).toNatClampNeg) = (0 : Int32) then
  (bnd (f_X9_likely N S (xs (x3 + (1 : Int32)).toNatClampNeg) (0 : Int32)) fun q284 =>
 chk (inb (x3 + (1 : Int32)) sL) (
  chk (inb (x3 + (2 : Int32)) sL) (
  if (xs (x3 + (2 : Int32)).toNatClampNeg) = (0 : Int32) then
  (bnd (f_X10_likely N q284.2 (xs (x3 + (1 : Int32)).toNatClampNeg) (0 : Int32)) fun q287 =>
 if q284.1 = q287.1 then
  (lt (x3 + (6 : Int32)) fun v288 =>
  K v288 q287.2)
  else
  (some ((0 : Int32), q287.2)))
  else
  (bnd (f_X10_likely N q284.2 (xs (x3 + (1 : Int32)).toNatClampNeg) (1 : Int32)) fun q289 =>
 if q284.1 = q289.1 then
  (lt (x3 + (6 : Int32)) fun v290 =>
  K v290 q289.2)
  else
  (some ((0 : Int32), q289.2))))))
  else
  (bnd (f_X9_likely N S (xs (x3 + (1 : Int32)).toNatClampNeg) (1 : Int32)) fun q291 =>
 chk (inb (x3 + (1 : Int32)) sL) (
  chk (inb (x3 + (2 : Int32)) sL) (
  if (xs (x3 + (2 : Int32)).toNatClampNeg) = (0 : Int32) then
  (bnd (f_X10_likely N q291.2 (xs (x3 + (1 : Int32)).toNatClampNeg) (0 : Int32)) fun q294 =>
 if q291.1 = q294.1 then
  (lt (x3 + (6 : Int32)) fun v295 =>
  K v295 q294.2)
  else
  (some ((0 : Int32), q294.2)))
  else
  (bnd (f_X10_likely N q291.2 (xs (x3 + (1 : Int32)).toNatClampNeg) (1 : Int32)) fun q296 =>
 if q291.1 = q296.1 then
  (lt (x3 + (6 : Int32)) fun v297 =>
  K v297 q296.2)
  else
  (some ((0 : Int32), q296.2)))))))))) := by
  by_cases h0 : xs (x3 + (2 : Int32)).toNatClampNeg = (0 : Int32)
  · obtain ⟨v, S1, S2, e1, e2, h2⟩ := k_likely (lo := 0) (Nat.lt_trans (by decide) hN) t0 t1 hI (xs (x3 + (1 : Int32)).toNatClampNeg) (Or.inl rfl)
    dsimp only at e1 e2
    rw [jj_z] at e1 e2
    simp only [chk_true c1, chk_true c2, if_pos h0]
    rw [bnd_of e1]
    dsimp only
    rw [bnd_of e2]
    exact ⟨S2, h2, (if_pos rfl).trans rfl⟩
  · obtain ⟨v, S1, S2, e1, e2, h2⟩ := k_likely (lo := 1) (Nat.lt_trans (by decide) hN) t0 t1 hI (xs (x3 + (1 : Int32)).toNatClampNeg) (Or.inr rfl)
    dsimp only at e1 e2
    rw [jj_e] at e1 e2
    simp only [chk_true c1, chk_true c2, if_neg h0]
    rw [bnd_of e1]
    dsimp only
    rw [bnd_of e2]
    exact ⟨S2, h2, (if_pos rfl).trans rfl⟩
theorem lc_41 {xs : Nat → Int32} {sL N : Nat} {x3 : Int32} {S : St} {T : Int} (hN : 200000000 < N) (t0 : 0 ≤ T) (t1 : T < 512) (hI : INV T S)  (K : Int32 → St → Option (Int32 × St)) : GL T K x3 (
  (bnd (f_X9_thin N S ) fun q298 =>
 bnd (f_X10_thin N S ) fun q299 =>
 if q298 = q299 then
  (lt (x3 + (6 : Int32)) fun v300 =>
  K v300 S)
  else
  (some ((0 : Int32), S)))) := by
  obtain ⟨v, e1, e2⟩ := k_thin (Nat.lt_trans (by decide) hN) t0 t1 hI 
  dsimp only at e1 e2
  rw [bnd_of e1, bnd_of e2]
  exact ⟨S, INV_on hI t0 t1, (if_pos rfl).trans rfl⟩
theorem lc_42 {xs : Nat → Int32} {sL N : Nat} {x3 : Int32} {S : St} {T : Int} (hN : 200000000 < N) (t0 : 0 ≤ T) (t1 : T < 512) (hI : INV T S)  (K : Int32 → St → Option (Int32 × St)) : GL T K x3 (
  (bnd (f_X9_thick N S ) fun q301 =>
 bnd (f_X10_thick N S ) fun q302 =>
 if q301 = q302 then
  (lt (x3 + (6 : Int32)) fun v303 =>
  K v303 S)
  else
  (some ((0 : Int32), S)))) := by
  obtain ⟨v, e1, e2⟩ := k_thick (Nat.lt_trans (by decide) hN) t0 t1 hI 
  dsimp only at e1 e2
  rw [bnd_of e1, bnd_of e2]
  exact ⟨S, INV_on hI t0 t1, (if_pos rfl).trans rfl⟩
theorem lc_43 {xs : Nat → Int32} {sL N : Nat} {x3 : Int32} {S : St} {T : Int} (hN : 200000000 < N) (t0 : 0 ≤ T) (t1 : T < 512) (hI : INV T S)  (K : Int32 → St → Option (Int32 × St)) : GL T K x3 (
  (bnd (f_X9_apart N S ) fun q304 =>
 bnd (f_X10_apart N S ) fun q305 =>
 if q304 = q305 then
  (lt (x3 + (6 : Int32)) fun v306 =>
  K v306 S)
  else
  (some ((0 : Int32), S)))) := by
  obtain ⟨v, e1, e2⟩ := k_apart (Nat.lt_trans (by decide) hN) hI 
  dsimp only at e1 e2
  rw [bnd_of e1, bnd_of e2]
  exact ⟨S, INV_on hI t0 t1, (if_pos rfl).trans rfl⟩
theorem lc_44 {xs : Nat → Int32} {sL N : Nat} {x3 : Int32} {S : St} {T : Int} (hN : 200000000 < N) (t0 : 0 ≤ T) (t1 : T < 512) (hI : INV T S)  (K : Int32 → St → Option (Int32 × St)) : GL T K x3 (
  (bnd (f_X9_fallen N S ) fun q307 =>
 bnd (f_X10_fallen N S ) fun q308 =>
 if q307 = q308 then
  (lt (x3 + (6 : Int32)) fun v309 =>
  K v309 S)
  else
  (some ((0 : Int32), S)))) := by
  obtain ⟨v, e1, e2⟩ := k_fallen (Nat.lt_trans (by decide) hN) hI 
  dsimp only at e1 e2
  rw [bnd_of e1, bnd_of e2]
  exact ⟨S, INV_on hI t0 t1, (if_pos rfl).trans rfl⟩
theorem lc_45 {xs : Nat → Int32} {sL N : Nat} {x3 : Int32} {S : St} {T : Int} (hN : 200000000 < N) (t0 : 0 ≤ T) (t1 : T < 512) (hI : INV T S) (c1 : inb (x3 + (1 : Int32)) sL = true) (c2 : inb (x3 + (2 : Int32)) sL = true) (c3 : inb (x3 + (3 : Int32)) sL = true) (K : Int32 → St → Option (Int32 × St)) : GL T K x3 (
  (chk (inb (x3 + (1 : Int32)) sL) (
  chk (inb (x3 + (2 : Int32)) sL) (
  chk (inb (x3 + (3 : Int32)) sL) (
  bnd (f_X9_said S (xs (x3 + (1 : Int32)).toNatClampNeg) (xs (x3 + (2 : Int32)).toNatClampNeg) (xs (x3 + (3 : Int32)).toNatClampNeg)) fun q313 =>
 chk (inb (x3 + (1 : Int32)) sL) (
  chk (inb (x3 + (2 : Int32)) sL) (
  chk (inb (x3 + (3 : Int32)) sL) (
  bnd (f_X10_said q313.2 (xs (x3 + (1 : Int32)).toNatClampNeg) (xs (x3 + (2 : Int32)).toNatClampNeg) (xs (x3 + (3 : Int32)).toNatClampNeg)) fun q317 =>
 if q313.1 = q317.1 then
  (lt (x3 + (6 : Int32)) fun v318 =>
  K v318 q317.2)
  else
  (some ((0 : Int32), q317.2)))))))))) := by
  obtain ⟨v, S1, S2, e1, e2, h2⟩ := k_said t0 t1 hI (xs (x3 + (1 : Int32)).toNatClampNeg) (xs (x3 + (2 : Int32)).toNatClampNeg) (xs (x3 + (3 : Int32)).toNatClampNeg)
  dsimp only at e1 e2
  simp only [chk_true c1, chk_true c2, chk_true c3]
  rw [bnd_of e1]
  dsimp only
  rw [bnd_of e2]
  exact ⟨S2, h2, (if_pos rfl).trans rfl⟩
theorem lc_46 {xs : Nat → Int32} {sL N : Nat} {x3 : Int32} {S : St} {T : Int} (hN : 200000000 < N) (t0 : 0 ≤ T) (t1 : T < 512) (hI : INV T S)  (K : Int32 → St → Option (Int32 × St)) : GL T K x3 (
  (bnd (f_X9_whose N S ) fun q319 =>
 bnd (f_X10_whose N q319.2 ) fun q320 =>
 if q319.1 = q320.1 then
  (lt (x3 + (6 : Int32)) fun v321 =>
  K v321 q320.2)
  else
  (some ((0 : Int32), q320.2)))) := by
  obtain ⟨v, S1, S2, e1, e2, h2⟩ := k_whose (Nat.lt_trans (by decide) hN) t0 t1 hI 
  dsimp only at e1 e2
  rw [bnd_of e1]
  dsimp only
  rw [bnd_of e2]
  exact ⟨S2, h2, (if_pos rfl).trans rfl⟩
theorem lc_47 {xs : Nat → Int32} {sL N : Nat} {x3 : Int32} {S : St} {T : Int} (hN : 200000000 < N) (t0 : 0 ≤ T) (t1 : T < 512) (hI : INV T S) (c1 : inb (x3 + (1 : Int32)) sL = true) (K : Int32 → St → Option (Int32 × St)) : GL T K x3 (
  (chk (inb (x3 + (1 : Int32)) sL) (
  bnd (f_X9_ledger N S (xs (x3 + (1 : Int32)).toNatClampNeg)) fun q323 =>
 chk (inb (x3 + (1 : Int32)) sL) (
  bnd (f_X10_ledger N S (xs (x3 + (1 : Int32)).toNatClampNeg)) fun q325 =>
 if q323 = q325 then
  (lt (x3 + (6 : Int32)) fun v326 =>
  K v326 S)
  else
  (some ((0 : Int32), S)))))) := by
  obtain ⟨v, e1, e2⟩ := k_ledger (Nat.lt_trans (by decide) hN) hI (xs (x3 + (1 : Int32)).toNatClampNeg)
  dsimp only at e1 e2
  simp only [chk_true c1]
  rw [bnd_of e1, bnd_of e2]
  exact ⟨S, INV_on hI t0 t1, (if_pos rfl).trans rfl⟩
theorem lc_48 {xs : Nat → Int32} {sL N : Nat} {x3 : Int32} {S : St} {T : Int} (hN : 200000000 < N) (t0 : 0 ≤ T) (t1 : T < 512) (hI : INV T S)  (K : Int32 → St → Option (Int32 × St)) : GL T K x3 (
  (bnd (f_X9_image N S ) fun q327 =>
 bnd (f_X10_image N q327.2 ) fun q328 =>
 if q327.1 = q328.1 then
  (lt (x3 + (6 : Int32)) fun v329 =>
  K v329 q328.2)
  else
  (some ((0 : Int32), q328.2)))) := by
  obtain ⟨v, S1, S2, e1, e2, h2⟩ := k_image (Nat.lt_trans (by decide) hN) t0 t1 hI 
  dsimp only at e1 e2
  rw [bnd_of e1]
  dsimp only
  rw [bnd_of e2]
  exact ⟨S2, h2, (if_pos rfl).trans rfl⟩
theorem lc_49 {xs : Nat → Int32} {sL N : Nat} {x3 : Int32} {S : St} {T : Int} (hN : 200000000 < N) (t0 : 0 ≤ T) (t1 : T < 512) (hI : INV T S)  (K : Int32 → St → Option (Int32 × St)) : GL T K x3 (
  (bnd (f_X9_back N S ) fun q330 =>
 bnd (f_X10_back N q330.2 ) fun q331 =>
 if q330.1 = q331.1 then
  (lt (x3 + (6 : Int32)) fun v332 =>
  K v332 q331.2)
  else
  (some ((0 : Int32), q331.2)))) := by
  obtain ⟨v, S1, S2, e1, e2, h2⟩ := k_back (Nat.lt_trans (by decide) hN) t0 t1 hI 
  dsimp only at e1 e2
  rw [bnd_of e1]
  dsimp only
  rw [bnd_of e2]
  exact ⟨S2, h2, (if_pos rfl).trans rfl⟩
theorem lc_50 {xs : Nat → Int32} {sL N : Nat} {x3 : Int32} {S : St} {T : Int} (hN : 200000000 < N) (t0 : 0 ≤ T) (t1 : T < 512) (hI : INV T S) (c1 : inb (x3 + (1 : Int32)) sL = true) (K : Int32 → St → Option (Int32 × St)) : GL T K x3 (
  (chk (inb (x3 + (1 : Int32)) sL) (
  bnd (f_X9_about S (xs (x3 + (1 : Int32)).toNatClampNeg)) fun q334 =>
 chk (inb (x3 + (1 : Int32)) sL) (
  bnd (f_X10_about S (xs (x3 + (1 : Int32)).toNatClampNeg)) fun q336 =>
 if q334 = q336 then
  (lt (x3 + (6 : Int32)) fun v337 =>
  K v337 S)
  else
  (some ((0 : Int32), S)))))) := by
  obtain ⟨v, e1, e2⟩ := k_about hI (xs (x3 + (1 : Int32)).toNatClampNeg)
  dsimp only at e1 e2
  simp only [chk_true c1]
  rw [bnd_of e1, bnd_of e2]
  exact ⟨S, INV_on hI t0 t1, (if_pos rfl).trans rfl⟩
