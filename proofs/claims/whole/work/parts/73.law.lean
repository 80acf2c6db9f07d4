/-! LAWS as functions of eight names and twelve cells; what a stroke does to a row. -/
abbrev Sem : Type := Option ((Int → Int) → (Int → Int) → Int)
/-- how the class names the eight -/
def ncd (k : Int) : Int32 := if k = 0 then 9 else if k = 1 then 16 else if k = 2 then 3 else if k = 3 then 17 else if k = 4 then 18 else if k = 5 then 19 else if k = 6 then 20 else 6
def ENVB (m : Int) (nv cs : Int → Int) : Prop := (∀ k : Int, 0 ≤ k → k < m → -100000000 ≤ nv k ∧ nv k ≤ 100000000) ∧ ∀ i : Int, 0 ≤ i → i < 12 → 0 ≤ cs i ∧ cs i ≤ 100000000
def ENVX (m : Int) (S : St) (nv cs : Int → Int) : Prop := gR S 202 0 0 < 66 ∧ (∀ i : Int, 0 ≤ i → i < 12 → gI S 400 (gR S 202 0 0) i.toNat = jj (cs i)) ∧ (∀ k : Int, 0 ≤ k → k < m → f_X2_named S (ncd k) = some (kk (nv k))) ∧ ENVB m nv cs
/-- the code of the class at (n, arr) says E -/
def EVA (m : Int) (n : Nat) (arr : Nat → Int32) (E : (Int → Int) → (Int → Int) → Int) : Prop := ∀ (S : St) (x N : Nat) (nv cs : Int → Int), 4000 < N → gA S x = some (n, arr) → ENVX m S nv cs → -100000000 ≤ E nv cs ∧ E nv cs ≤ 100000000 ∧ ∃ S', f_X2_result N S x = some (kk (E nv cs), S') ∧ FX (fun f _ => f = 201) S S'
def EVX (m : Int) (S : St) (lw : Nat) (em : Sem) : Prop := match em with
  | none => gN S lw = some 0
  | some E => ∃ n arr, gA S lw = some (n, arr) ∧ 0 < n ∧ n ≤ 300 ∧ EVA m n arr E
def CLW (S : St) (em et : Sem) : Prop := (∃ lw, f_X8_movesOf 0 S (gI S 809 0 0) = some lw ∧ EVX 8 S lw em) ∧ ∃ lt, f_X8_tearsOf 0 S (gI S 809 0 0) = some lt ∧ EVX 4 S lt et
theorem FX_EVX {P : Nat → Nat → Prop} {S S1 : St} {m : Int} {lw : Nat} {em : Sem} (h : FX P S S1) (hE : EVX m S lw em) : EVX m S1 lw em := by
  cases em with
  | none => exact (FX_gN h lw).trans hE
  | some E =>
    obtain ⟨n, arr, h1, h2⟩ := hE
    exact ⟨n, arr, (FX_gA h lw).trans h1, h2⟩
theorem FX_CLW {P : Nat → Nat → Prop} {S S1 : St} {em et : Sem} (h : FX P S S1) (p7 : ¬ P 807 0) (p8 : ¬ P 808 0) (p9 : ¬ P 809 0) (hE : CLW S em et) : CLW S1 em et := by
  obtain ⟨⟨lw, h1, h2⟩, lt, h3, h4⟩ := hE
  refine ⟨⟨lw, ?_, FX_EVX h h2⟩, lt, ?_, FX_EVX h h4⟩
  · rw [← h1]
    simp only [f_X8_movesOf, h.1 808 0 0 p8, h.1 809 0 0 p9, h.2.2.1 807 0 _ p7, FX_gT h]
  · rw [← h3]
    simp only [f_X8_tearsOf, h.1 808 0 0 p8, h.1 809 0 0 p9, h.2.2.1 807 0 _ p7, FX_gT h]
def AMT (em : Sem) (nv cs : Int → Int) (top d : Int) : Int := match em with
  | none => d
  | some E => if E nv cs < 0 then 0 else if top < E nv cs then top else E nv cs
theorem AMT_b {em : Sem} {nv cs : Int → Int} {top d : Int} (h : 0 ≤ top) (h1 : 0 ≤ d) (h2 : d ≤ top) : 0 ≤ AMT em nv cs top d ∧ AMT em nv cs top d ≤ top := by
  cases em with
  | none => exact ⟨h1, h2⟩
  | some E =>
    show 0 ≤ (if E nv cs < 0 then 0 else if top < E nv cs then top else E nv cs) ∧ (if E nv cs < 0 then 0 else if top < E nv cs then top else E nv cs) ≤ top
    by_cases q : E nv cs < 0
    · rw [if_pos q]; omega
    · rw [if_neg q]
      by_cases q2 : top < E nv cs
      · rw [if_pos q2]; omega
      · rw [if_neg q2]; omega
/-- the cell beside; -1 over the edge -/
def bsd (c rt : Int) : Int := if rt = 0 then c - 1 else if c + 1 < 12 then c + 1 else -1
def nmv (r sg : Int → Int) (h c rt : Int) : Int → Int := fun k => if k = 0 then r 6 else if k = 1 then c else if k = 2 then r (11 + c) else if k = 3 then r (23 + c) else if k = 4 then sg h else if k = 5 then h else if k = 6 then (if bsd c rt = -1 then r 9 else r (11 + bsd c rt)) else rt
def mvv (em : Sem) (r sg : Int → Int) (h c rt : Int) : Int := AMT em (nmv r sg h c rt) (fun i => r (11 + i)) (r (11 + c)) (r (11 + c) / 2)
def trr (et : Sem) (r : Int → Int) (c : Int) : Int := AMT et (nmv r (fun _ => 0) 0 c 0) (fun i => r (11 + i)) 99 3
/-- bounds that a law needs -/
def RB (r : Int → Int) : Prop := (∀ c : Int, 0 ≤ c → c < 12 → 0 ≤ r (11 + c) ∧ r (11 + c) ≤ 100000000) ∧ (∀ c : Int, 0 ≤ c → c < 12 → 0 ≤ r (23 + c) ∧ r (23 + c) ≤ 1) ∧ 0 ≤ r 9 ∧ r 9 ≤ 100000000 ∧ 0 ≤ r 6 ∧ r 6 ≤ 10000
theorem OKR_RB {r b : Int → Int} {M : Int} (h : OKR r b M) (hM : M ≤ 100000000) : RB r := by
  have hb := OKR_CB h hM
  obtain ⟨h1, h2, h3, h4, h5, h6, h7, h8⟩ := h
  have := (pre_pos (f := fun c => r (11 + c)) 12 (fun i q q2 => h1 i q (by omega))).1
  exact ⟨hb, fun c q q2 => by have := h2 c q q2; omega, h3, by omega, h6, by omega⟩
theorem bsd_b {c rt : Int} (h : 0 ≤ c) (h2 : c < 12) (hr : rt = 0 ∨ rt = 1) : -1 ≤ bsd c rt ∧ bsd c rt < 12 ∧ bsd c rt ≠ c := by
  unfold bsd
  by_cases q : rt = 0
  · rw [if_pos q]; omega
  · rw [if_neg q]
    by_cases q2 : c + 1 < 12
    · rw [if_pos q2]; omega
    · rw [if_neg q2]; omega
theorem nmv_b {r sg : Int → Int} {h c rt : Int} (hR : RB r) (hs : 0 ≤ sg h ∧ sg h ≤ 9) (h0 : 0 ≤ h ∧ h < 4) (h1 : 0 ≤ c) (h2 : c < 12) (hr : rt = 0 ∨ rt = 1) (k : Int) : -100000000 ≤ nmv r sg h c rt k ∧ nmv r sg h c rt k ≤ 100000000 := by
  have q1 := hR.1 c h1 h2
  have q2 := hR.2.1 c h1 h2
  have q3 := hR.2.2
  have hb := bsd_b h1 h2 hr
  unfold nmv
  repeat' split
  all_goals first | omega | (have := hR.1 (bsd c rt) (by omega) (by omega); omega)
/-- the class's names -/
theorem named_to {S : St} {x : Int32} {c rt : Int} (h1 : 0 ≤ c) (h2 : c < 12) (hr : rt = 0 ∨ rt = 1) (e4 : gI S 204 0 0 = jj c) (e5 : gI S 205 0 0 = jj rt) : ∃ y s0, f_X2_named S x = f_X2_named_b38 x y s0 S ∧ ((bsd c rt = -1 ∧ s0 = 1) ∨ (bsd c rt ≠ -1 ∧ s0 = 0 ∧ y = jj (bsd c rt))) := by
  unfold f_X2_named bsd
  rw [e4, e5]
  rcases hr with rfl | rfl
  · simp (disch := omega) only [jj_of, jj_add, jj_sub, jj_mul, jj_neg, jj_le, jj_lt, jj_eq, jj_nat, chk_true (jj_inb _ _ _), chk_true (jj_nz _ _ _), lt, if_true, if_false, reduceIte, f_X2_named_b22, f_X2_named_b33]
    by_cases q : c - 1 < 0
    · refine ⟨jj (c - 1), 1, ?_, Or.inl ⟨by omega, rfl⟩⟩
      rw [if_pos q]
      rfl
    · have q2 : c - 1 < 12 := by omega
      refine ⟨jj (c - 1), 0, ?_, Or.inr ⟨by omega, rfl, rfl⟩⟩
      rw [if_neg q, if_pos q2]
      rfl
  · have q0 : ¬ (1 : Int) = 0 := by decide
    have q : ¬ c + 1 < 0 := by omega
    simp (disch := omega) only [jj_of, jj_add, jj_sub, jj_mul, jj_neg, jj_le, jj_lt, jj_eq, jj_nat, chk_true (jj_inb _ _ _), chk_true (jj_nz _ _ _), lt, if_true, if_false, reduceIte, f_X2_named_b22, f_X2_named_b33, q0, q]
    by_cases q2 : c + 1 < 12
    · refine ⟨jj (c + 1), 0, ?_, Or.inr ⟨by rw [if_pos q2]; omega, rfl, by rw [if_pos q2]⟩⟩
      rw [if_pos q2]
      rfl
    · refine ⟨jj (c + 1), 1, ?_, Or.inl ⟨by rw [if_neg q2], rfl⟩⟩
      rw [if_neg q2]
      rfl
theorem named_any (S : St) (x : Int32) : ∃ y s0, f_X2_named S x = f_X2_named_b38 x y s0 S := by
  unfold f_X2_named f_X2_named_b22 f_X2_named_b33
  repeat' split
  all_goals exact ⟨_, _, rfl⟩
theorem named_4 {S : St} {j : Nat} {r sg : Int → Int} {h c rt : Int} (hj : j < 66) (h1 : 0 ≤ c) (h2 : c < 12) (hR : RB r) (hL : LAY S j r) (e2 : gR S 202 0 0 = j) (e4 : gI S 204 0 0 = jj c) (k : Int) (k0 : 0 ≤ k) (k1 : k < 4) : f_X2_named S (ncd k) = some (kk (nmv r sg h c rt k)) := by
  obtain ⟨y, s0, e⟩ := named_any S (ncd k)
  rw [e]
  have q1 := hR.1 c h1 h2
  have q2 := hR.2.1 c h1 h2
  obtain ⟨-, -, -, -, q3, q4⟩ := hR
  have hk : k = 0 ∨ k = 1 ∨ k = 2 ∨ k = 3 := by omega
  have i1 := hL.1 c h1 h2
  have i2 := tb_get hL.2.1 h1 h2
  rcases hk with rfl | rfl | rfl | rfl
  · simp [ncd, nmv, f_X2_named_b38, e2, chk, hj, hL.2.2.2, jj_long (show -2147483648 ≤ r 6 by omega) (by omega)]
  · simp [ncd, nmv, f_X2_named_b38, e4, jj_long (show -2147483648 ≤ c by omega) (by omega)]
  · simp [ncd, nmv, f_X2_named_b38, e2, e4, chk, hj, jj_inb h1 (show c < ((12 : Nat) : Int) by omega) (by omega), jj_nat (show -2147483648 ≤ c by omega) (by omega), i1, jj_long (show -2147483648 ≤ r (11 + c) by omega) (by omega)]
  · simp [ncd, nmv, f_X2_named_b38, e2, e4, chk, hj, i2, jj_long (show -2147483648 ≤ r (23 + c) by omega) (by omega)]
theorem named_8 {S : St} {j : Nat} {r sg : Int → Int} {h c rt : Int} (hj : j < 66) (hs : 0 ≤ sg h ∧ sg h ≤ 9) (h0 : 0 ≤ h ∧ h < 4) (h1 : 0 ≤ c) (h2 : c < 12) (hr : rt = 0 ∨ rt = 1) (hR : RB r) (hL : LAY S j r) (hG : gI S 804 0 h.toNat = jj (sg h)) (e2 : gR S 202 0 0 = j) (e3 : gI S 203 0 0 = jj h) (e4 : gI S 204 0 0 = jj c) (e5 : gI S 205 0 0 = jj rt) (k : Int) (k0 : 0 ≤ k) (k1 : k < 8) : f_X2_named S (ncd k) = some (kk (nmv r sg h c rt k)) := by
  by_cases hk4 : k < 4
  · exact named_4 hj h1 h2 hR hL e2 e4 k k0 hk4
  obtain ⟨y, s0, e, hy⟩ := named_to (x := ncd k) h1 h2 hr e4 e5
  rw [e]
  obtain ⟨q1, -, q2, q2', q3, q4⟩ := hR
  have hb := bsd_b h1 h2 hr
  have hk : k = 4 ∨ k = 5 ∨ k = 6 ∨ k = 7 := by omega
  rcases hk with rfl | rfl | rfl | rfl
  · simp [ncd, nmv, f_X2_named_b38, e3, chk, jj_inb h0.1 (show h < ((4 : Nat) : Int) by omega) (by omega), jj_nat (show -2147483648 ≤ h by omega) (by omega), hG, jj_long (show -2147483648 ≤ sg h by omega) (by omega)]
  · simp [ncd, nmv, f_X2_named_b38, e3, jj_long (show -2147483648 ≤ h by omega) (by omega)]
  · rcases hy with ⟨b1, rfl⟩ | ⟨b1, rfl, rfl⟩
    · simp [ncd, nmv, f_X2_named_b38, e2, chk, hj, b1, hL.2.2.1, jj_long (show -2147483648 ≤ r 9 by omega) (by omega)]
    · have q5 := q1 (bsd c rt) (by omega) (by omega)
      have i1 := hL.1 (bsd c rt) (by omega) (by omega)
      simp [ncd, nmv, f_X2_named_b38, e2, chk, hj, b1, jj_inb (show 0 ≤ bsd c rt by omega) (show bsd c rt < ((12 : Nat) : Int) by omega) (by omega), jj_nat (show -2147483648 ≤ bsd c rt by omega) (by omega), i1, jj_long (show -2147483648 ≤ r (11 + bsd c rt) by omega) (by omega)]
  · rcases hr with rfl | rfl
    · simp [ncd, nmv, f_X2_named_b38, e5]
      rfl
    · have q6 : ¬ jj 1 = (0 : Int32) := by decide
      simp [ncd, nmv, f_X2_named_b38, e5, q6]
      rfl
theorem kk_min {a b : Int} (h : -9000000000 ≤ a) (h2 : a ≤ 9000000000) (h3 : -9000000000 ≤ b) (h4 : b ≤ 9000000000) : (if kk a < kk b then kk a else kk b) = kk (if a < b then a else b) := by
  simp (disch := omega) only [kk_lt]
  by_cases q : a < b
  · rw [if_pos q, if_pos q]
  · rw [if_neg q, if_neg q]
theorem gA_gN {S : St} {x n : Nat} {arr : Nat → Int32} (h : gA S x = some (n, arr)) : gN S x = some n := by
  unfold gN
  by_cases q : x = 1
  · subst q; simp [gA] at h
  · rw [if_neg q, h]
theorem nat_jj (n : Nat) : Int32.ofNat n = jj n := (Int32.ofInt_eq_ofNat (n := n)).symm
theorem q_amount {S : St} {j lw N : Nat} {r sg : Int → Int} {em : Sem} {h c rt : Int} (hN : 4000 < N) (hj : j < 66) (hs : 0 ≤ sg h ∧ sg h ≤ 9) (h0 : 0 ≤ h ∧ h < 4) (h1 : 0 ≤ c) (h2 : c < 12) (hr : rt = 0 ∨ rt = 1) (hR : RB r) (hL : LAY S j r) (hG : gI S 804 0 h.toNat = jj (sg h)) (hE : EVX 8 S lw em) : ∃ S', f_X2_amount N j S lw (jj h) (jj c) (jj rt) = some (jj (mvv em r sg h c rt), S') ∧ FX (fun f _ => 200 ≤ f ∧ f ≤ 205) S S' := by
  have q1 := hR.1 c h1 h2
  have i1 := hL.1 c h1 h2
  unfold f_X2_amount
  rw [chk_true (jj_inb h1 (by omega) (by omega)), jj_nat (by omega) (by omega), i1]
  cases em with
  | none =>
    change gN S lw = some 0 at hE
    refine ⟨S, ?_, FX_refl _ _⟩
    simp only [lt]
    rw [bnd_of hE]
    simp only [show (Int32.ofNat 0 = (0 : Int32)) from rfl, if_true]
    rw [jj_of, jj_div q1.1 (by omega) (by decide) (by decide)]
    rfl
  | some E =>
    obtain ⟨n, arr, hA, hn0, hn1, hv⟩ := hE
    have hgN := gA_gN hA
    have hz : ¬ Int32.ofNat n = (0 : Int32) := by
      rw [nat_jj, jj_of, jj_eq (by omega) (by omega) (by omega) (by omega)]
      omega
    simp only [lt]
    rw [bnd_of hgN]
    simp only [hz, if_false]
    have hisz : isz (jj rt) = true := by rcases hr with rfl | rfl <;> rfl
    rw [chk_true hisz]
    have hF : FX (fun f _ => 200 ≤ f ∧ f ≤ 205) S (sI (sI (sI (sR S 202 0 0 j) 203 0 0 (jj h)) 204 0 0 (jj c)) 205 0 0 (jj rt)) := FX_sI (FX_sI (FX_sI (FX_sR (FX_refl _ _) (by omega)) (by omega)) (by omega)) (by omega)
    have g2 : gR (sI (sI (sI (sR S 202 0 0 j) 203 0 0 (jj h)) 204 0 0 (jj c)) 205 0 0 (jj rt)) 202 0 0 = j := by simp [gR_sI, gR_sR]
    have g3 : gI (sI (sI (sI (sR S 202 0 0 j) 203 0 0 (jj h)) 204 0 0 (jj c)) 205 0 0 (jj rt)) 203 0 0 = jj h := by simp [gI_sI]
    have g4 : gI (sI (sI (sI (sR S 202 0 0 j) 203 0 0 (jj h)) 204 0 0 (jj c)) 205 0 0 (jj rt)) 204 0 0 = jj c := by simp [gI_sI]
    have g5 : gI (sI (sI (sI (sR S 202 0 0 j) 203 0 0 (jj h)) 204 0 0 (jj c)) 205 0 0 (jj rt)) 205 0 0 = jj rt := by simp [gI_sI]
    generalize sI (sI (sI (sR S 202 0 0 j) 203 0 0 (jj h)) 204 0 0 (jj c)) 205 0 0 (jj rt) = S7 at hF g2 g3 g4 g5 ⊢
    have hL7 := FX_LAY hF (fun f a b => by omega) hL
    have hG7 : gI S7 804 0 h.toNat = jj (sg h) := (hF.1 804 0 _ (by omega)).trans hG
    obtain ⟨b1, b2, S8, e8, hF8⟩ := hv S7 lw N (nmv r sg h c rt) (fun i => r (11 + i)) hN ((FX_gA hF lw).trans hA) ⟨by rw [g2]; exact hj, by rw [g2]; exact hL7.1, fun k a b => named_8 hj hs h0 h1 h2 hr hR hL7 hG7 g2 g3 g4 g5 k a b, fun k _ _ => nmv_b hR hs h0 h1 h2 hr k, fun i a b => hR.1 i a b⟩
    refine ⟨S8, ?_, FX_trans hF (FX_sub hF8 (fun f _ q => by omega))⟩
    rw [bnd_of e8]
    rw [jj_long (by omega) (by omega), kk_min (by omega) (by omega) (by omega) (by omega), kk_of]
    have : ∀ a b : Int, -9000000000 ≤ a → a ≤ 9000000000 → (if kk a < kk 0 then kk 0 else kk a) = kk (if a < 0 then 0 else a) := by
      intro a b p1 p2
      simp (disch := omega) only [kk_lt]
      by_cases q : a < 0
      · rw [if_pos q, if_pos q]
      · rw [if_neg q, if_neg q]
    rw [this _ 0 (by split <;> omega) (by split <;> omega), kk_int]
    congr 3
    show _ = (if E (nmv r sg h c rt) (fun i => r (11 + i)) < 0 then 0 else if r (11 + c) < E (nmv r sg h c rt) (fun i => r (11 + i)) then r (11 + c) else E (nmv r sg h c rt) (fun i => r (11 + i)))
    generalize E (nmv r sg h c rt) (fun i => r (11 + i)) = z at *
    repeat' split
    all_goals omega
