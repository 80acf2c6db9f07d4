/-! TURNS that pass: how many cells tear. -/
theorem jj_andnot {n m : Nat} (hn : n < 4096) (_hm : m < 4096) : jj n &&& (jj m ^^^ (-1)) = jj ((n &&& (4095 ^^^ m) : Nat) : Int) := by
  rw [← nat_jj, ← nat_jj, ← nat_jj]
  apply Int32.toBitVec_inj.mp
  rw [Int32.toBitVec_and, Int32.toBitVec_xor, show (-1 : Int32).toBitVec = BitVec.allOnes 32 from by decide]
  show BitVec.ofNat 32 n &&& (BitVec.ofNat 32 m ^^^ BitVec.allOnes 32) = BitVec.ofNat 32 (n &&& (4095 ^^^ m))
  apply BitVec.eq_of_getLsbD_eq
  intro i hi
  have e : (4095 : Nat).testBit i = decide (i < 12) := by
    have := Nat.testBit_two_pow_sub_one 12 i
    exact this
  rw [BitVec.getLsbD_and, BitVec.getLsbD_xor, BitVec.getLsbD_ofNat, BitVec.getLsbD_ofNat, BitVec.getLsbD_ofNat, BitVec.getLsbD_allOnes, Nat.testBit_and, Nat.testBit_xor, e]
  by_cases h : i < 12
  · simp [hi, h]
  · have : n.testBit i = false := Nat.testBit_lt_two_pow (Nat.lt_of_lt_of_le hn (Nat.pow_le_pow_right (show 2 > 0 by decide) (show 12 ≤ i by omega)))
    simp [this]
theorem bc_new {S : St} {x y : Int32} {g h : Int → Int} (hx : TB x g) (hy : TB y h) (hm : ∀ c, 0 ≤ c → c < 12 → h c = 1 → g c = 1) : f_J6_bitCount_0f7a4 S (x &&& (y ^^^ (-1))) = some (jj (pre g 12 - pre h 12)) := by
  obtain ⟨n, hn, rfl, hg⟩ := hx
  obtain ⟨m, hm', rfl, hh⟩ := hy
  rw [jj_andnot hn hm', bc_at (Nat.lt_of_le_of_lt Nat.and_le_left hn)]
  congr 2
  unfold bcn
  have : ∀ k : Nat, k ≤ 12 → pre (fun c => if (n &&& (4095 ^^^ m)).testBit c.toNat = true then (1 : Int) else 0) k = pre g k - pre h k := by
    intro k
    induction k with
    | zero => intro _; rfl
    | succ k ih =>
      intro hk
      show pre _ k + (if (n &&& (4095 ^^^ m)).testBit (((k : Nat) : Int).toNat) = true then (1 : Int) else 0) = pre g k + g k - (pre h k + h k)
      rw [ih (by omega)]
      have e : (4095 : Nat).testBit k = true := by
        have := Nat.testBit_two_pow_sub_one 12 k
        rw [show (4095 : Nat) = 2 ^ 12 - 1 from rfl, this]
        simp; omega
      have e1 := hg k (by omega)
      have e2 := hh k (by omega)
      have e3 := hm k (by omega) (by omega)
      rw [e1, e2] at *
      rw [show ((k : Int)).toNat = k by omega, Nat.testBit_and, Nat.testBit_xor, e]
      cases a : n.testBit k <;> cases b : m.testBit k <;> simp_all <;> omega
  exact this 12 (by omega)
theorem STW_mono {wf : Int} {em et : Sem} {A : Int → Int} {h c rt M : Int} (hO : OKS A M) (h1 : 0 ≤ c) (h2 : c < 12) (hr : rt = 0 ∨ rt = 1) (i : Int) (i0 : 0 ≤ i) (i1 : i < 12) (e : A (23 + i) = 1) : STW wf em et A h c rt (23 + i) = 1 := by
  rw [STW_mid hO.1.2.2.2.2.2.2.2.2.2.1 hO.1.2.2.2.2.2.2.2.2.2.2.1 h1 h2 hr _ (by omega) (by omega)]
  rcases STR_torn (em := em) (et := et) (sg := sgA A) (A := A) (h := h) h1 h2 hr i i0 i1 with w | w
  · rw [w]; exact e
  · exact w.2.2
theorem PSF_mono {wf : Int} {em et : Sem} {A : Int → Int} {M : Int} (hO : OKS A M) (i : Int) (i0 : 0 ≤ i) (i1 : i < 12) (e : A (23 + i) = 1) : PSF wf em et A (23 + i) = 1 := by
  have b0 := hO.1.2.2.2.2.2.2.2.1
  unfold PSF
  by_cases q : A 0 ≤ 0
  · rw [if_pos q, UP_ne (by omega)]; exact e
  · rw [if_neg q, UP_ne (by omega)]
    have o2 := DRW_OKS (DRW_OKS hO)
    by_cases w : A (11 + A 7 % 12) ≤ 0
    · rw [if_pos w, DRW_ne (by omega), DRW_ne (by omega)]; exact e
    · rw [if_neg w]
      exact STW_mono o2 (by omega) (by omega) (by omega) i i0 i1 (by rw [DRW_ne (by omega), DRW_ne (by omega)]; exact e)
theorem PTN_mono {em et : Sem} {M : Int} (i : Int) (i0 : 0 ≤ i) (i1 : i < 12) : ∀ (m : Nat) (A : Int → Int), NUM A M → A (23 + i) = 1 → PTN em et m A (23 + i) = 1 := by
  intro m
  induction m with
  | zero => intro A _ e; exact e
  | succ m ih =>
    intro A h e
    show (if 9999 ≤ A 6 then A else PTN em et m (PSF 1 em et (KPF A))) (23 + i) = 1
    by_cases q : 9999 ≤ A 6
    · rw [if_pos q]; exact e
    · rw [if_neg q]
      have k := NUM_KPF h
      exact ih _ (PSF_NUM k (by rw [k6 h]; omega)) (PSF_mono k.1 i i0 i1 (by rw [keep_row h _ (by omega) (by omega)]; exact e))
def rok (A : Int → Int) (n : Int) : Prop := (1 ≤ n ∧ n ≤ 60) ∧ A 6 + n ≤ 9999
theorem c_roll1 {S : St} {N : Nat} {A : Int → Int} {M W n : Int} {em et : Sem} (hN : 4000 < N) (hC : XC S A M W em et) (hW : W + 60 < 100000000) (hr : rok A n) : ∃ S', f_X9_roll N S (jj n) = some (jj (tsum (PTN em et n.toNat A) - tsum A), S') ∧ XC S' (PTN em et n.toNat A) M (W + 60) em et ∧ FX XOP S S' := by
  obtain ⟨⟨n0, n1⟩, n2⟩ := hr
  have t0 := hC.2.1.1.1.2.2.2.2.2.1
  have t1 := hC.2.1.1.1.2.2.2.2.2.2.1
  obtain ⟨S1, e1, C1, F1⟩ := c_turns (n := n) hN hC hW (by omega) n1
  refine ⟨S1, ?_, C1, F1⟩
  unfold f_X9_roll
  rw [hC.1.2.1.1.2.2.2]
  simp (disch := omega) only [jj_of, jj_add, jj_sub, jj_mul, jj_neg, jj_le, jj_lt, jj_eq, jj_nat, chk_true (jj_inb _ _ _), chk_true (jj_nz _ _ _), lt]
  rw [if_neg (show ¬ n < 1 by omega), if_neg (show ¬ 60 < n by omega), if_pos (show n ≤ 9999 - A 6 by omega), bnd_of e1]
  simp only
  rw [← jj_neg, ← jj_of] 
  rw [bnd_of (bc_new C1.1.2.1.1.2.1 hC.1.2.1.1.2.1 (fun c a b e => PTN_mono c a b n.toNat A hC.2.1 e))]
  rfl
theorem c_roll0 {S : St} {N : Nat} {A : Int → Int} {M W n : Int} {em et : Sem} (hC : XC S A M W em et) (hr : ¬ rok A n) (b1 : -2147483648 ≤ n) (b2 : n ≤ 2147483647) : f_X9_roll N S (jj n) = some (jj (-1), S) := by
  have t0 := hC.2.1.1.1.2.2.2.2.2.1
  have t1 := hC.2.1.1.1.2.2.2.2.2.2.1
  unfold f_X9_roll
  rw [hC.1.2.1.1.2.2.2]
  simp (disch := omega) only [jj_of, jj_add, jj_sub, jj_mul, jj_neg, jj_le, jj_lt, jj_eq, jj_nat, chk_true (jj_inb _ _ _), chk_true (jj_nz _ _ _), lt]
  by_cases q : n < 1
  · rw [if_pos q]
  · rw [if_neg q]
    by_cases q2 : 60 < n
    · rw [if_pos q2]
    · rw [if_neg q2, if_neg (show ¬ n ≤ 9999 - A 6 from fun z => hr ⟨⟨by omega, by omega⟩, by omega⟩)]
theorem rc_roll1 {S : St} {N : Nat} {A : Int → Int} {M n : Int} {em et : Sem} (hN : 4000 < N) (hM : NUM A M) (hC : RC S A em et) (hr : rok A n) : ∃ S', f_X10_roll N S (jj n) = some (jj (tsum (PTN em et n.toNat A) - tsum A), S') ∧ RC S' (PTN em et n.toNat A) em et ∧ FX ROP S S' := by
  obtain ⟨⟨n0, n1⟩, n2⟩ := hr
  have t0 := hM.1.1.2.2.2.2.2.1
  have t1 := hM.1.1.2.2.2.2.2.2.1
  have e6 : gI S 1000 0 6 = jj (A 6) := hC.1 6 (by decide) (by decide)
  obtain ⟨S1, e1, C1, F1, T1⟩ := rc_turns (n := n) hN hM hC (by omega) n1
  refine ⟨S1, ?_, C1, F1⟩
  unfold f_X10_roll
  simp only [jj_of]
  rw [bnd_of (q_isIn2 (by omega) (by omega) (by decide) (by decide) (by decide) (by decide)), if_pos (show 1 ≤ n ∧ n ≤ 60 from ⟨n0, n1⟩), if_neg (by decide), e6]
  simp (disch := omega) only [jj_of, jj_add, jj_sub, jj_mul, jj_neg, jj_le, jj_lt, jj_eq, jj_nat, chk_true (jj_inb _ _ _), chk_true (jj_nz _ _ _), lt]
  rw [if_neg (show ¬ 9999 < A 6 + n by omega), bnd_of e1, if_pos (show n ≤ 9999 - A 6 by omega), if_neg (show ¬ jj 1 = jj 0 by decide), T1]
theorem rc_roll0 {S : St} {N : Nat} {A : Int → Int} {M n : Int} {em et : Sem} (hM : NUM A M) (hC : RC S A em et) (hr : ¬ rok A n) (b1 : -2147483648 ≤ n) (b2 : n ≤ 2147483647) : f_X10_roll N S (jj n) = some (jj (-1), S) := by
  have t0 := hM.1.1.2.2.2.2.2.1
  have t1 := hM.1.1.2.2.2.2.2.2.1
  have e6 : gI S 1000 0 6 = jj (A 6) := hC.1 6 (by decide) (by decide)
  unfold f_X10_roll
  simp only [jj_of]
  rw [bnd_of (q_isIn2 b1 b2 (by decide) (by decide) (by decide) (by decide)), e6]
  by_cases q : 1 ≤ n ∧ n ≤ 60
  · rw [if_pos q, if_neg (by decide)]
    simp (disch := omega) only [jj_of, jj_add, jj_sub, jj_mul, jj_neg, jj_le, jj_lt, jj_eq, jj_nat, chk_true (jj_inb _ _ _), chk_true (jj_nz _ _ _), lt]
    rw [if_pos (show 9999 < A 6 + n by have : ¬ A 6 + n ≤ 9999 := fun z => hr ⟨q, z⟩; omega)]
  · rw [if_neg q, if_pos rfl]
    rfl
