/-! THE BOOK; towns apart. -/
theorem kk_nat {a : Int} (h : 0 ≤ a) : kk a = ll a.toNat := by rw [← kk_ll, Int.toNat_of_nonneg h]
theorem ll_shr32 {a : Nat} (h : a < 9223372036854775808) : ll a >>> ((32 : Int32).toInt64 &&& 63) = ll (a / 4294967296) := by
  apply Int64.toInt_inj.mp
  rw [ll_toInt (by omega)]
  show ((ll a).toBitVec.sshiftRight' ((((32 : Int32).toInt64 &&& 63).toBitVec.smod 64))).toInt = _
  rw [show (((32 : Int32).toInt64 &&& 63).toBitVec.smod 64) = BitVec.ofNat 64 32 from by decide]
  show ((ll a).toBitVec.sshiftRight (BitVec.ofNat 64 32).toNat).toInt = _
  rw [BitVec.toInt_sshiftRight]
  show (ll a).toInt >>> (BitVec.ofNat 64 32).toNat = _
  rw [ll_toInt h, show (BitVec.ofNat 64 32).toNat = 32 from by decide, Int.shiftRight_eq_div_pow]
  omega
theorem kk_shr32 {a b : Int} (h : 0 ≤ a) (h2 : a < 2147483648) (h3 : 0 ≤ b) (h4 : b < 4294967296) : kk (a * 4294967296 + b) >>> ((32 : Int32).toInt64 &&& 63) = kk a := by
  rw [kk_nat (by omega), kk_nat h, ll_shr32 (by omega)]
  congr 1
  omega
theorem jj_low {a b : Int} : jj (a * 4294967296 + b) = jj b := by
  unfold jj
  apply Int32.toBitVec_inj.mp
  show BitVec.ofInt 32 (a * 4294967296 + b) = BitVec.ofInt 32 b
  apply BitVec.eq_of_toInt_eq
  rw [BitVec.toInt_ofInt, BitVec.toInt_ofInt]
  unfold Int.bmod
  rw [show (a * 4294967296 + b) % (2 ^ 32 : Nat) = b % (2 ^ 32 : Nat) by omega]
theorem ii_shr7 {a : Nat} (h : a < 2147483648) : ii a >>> ((7 : Int32) &&& 31) = ii (a / 128) := by
  apply Int32.toInt_inj.mp
  rw [ii_toInt (by omega)]
  show ((ii a).toBitVec.sshiftRight' ((((7 : Int32) &&& 31).toBitVec.smod 32))).toInt = _
  rw [show (((7 : Int32) &&& 31).toBitVec.smod 32) = BitVec.ofNat 32 7 from by decide]
  show ((ii a).toBitVec.sshiftRight (BitVec.ofNat 32 7).toNat).toInt = _
  rw [BitVec.toInt_sshiftRight]
  show (ii a).toInt >>> (BitVec.ofNat 32 7).toNat = _
  rw [ii_toInt h, show (BitVec.ofNat 32 7).toNat = 7 from by decide, Int.shiftRight_eq_div_pow]
  omega
theorem ii_shr5 {a : Nat} (h : a < 2147483648) : ii a >>> ((5 : Int32) &&& 31) = ii (a / 32) := by
  apply Int32.toInt_inj.mp
  rw [ii_toInt (by omega)]
  show ((ii a).toBitVec.sshiftRight' ((((5 : Int32) &&& 31).toBitVec.smod 32))).toInt = _
  rw [show (((5 : Int32) &&& 31).toBitVec.smod 32) = BitVec.ofNat 32 5 from by decide]
  show ((ii a).toBitVec.sshiftRight (BitVec.ofNat 32 5).toNat).toInt = _
  rw [BitVec.toInt_sshiftRight]
  show (ii a).toInt >>> (BitVec.ofNat 32 5).toNat = _
  rw [ii_toInt h, show (BitVec.ofNat 32 5).toNat = 5 from by decide, Int.shiftRight_eq_div_pow]
  omega
theorem ii_and (a b : Nat) : ii a &&& ii b = ii (a &&& b) := by
  apply Int32.toBitVec_inj.mp
  show BitVec.ofNat 32 a &&& BitVec.ofNat 32 b = BitVec.ofNat 32 (a &&& b)
  rw [BitVec.ofNat_and]
theorem ii_and3 (a : Nat) : ii a &&& 3 = ii (a % 4) := by
  rw [show (3 : Int32) = ii 3 from rfl, ii_and]
  congr 1
  exact Nat.and_two_pow_sub_one_eq_mod a 2
theorem ii_and31 (a : Nat) : ii a &&& 31 = ii (a % 32) := by
  rw [show (31 : Int32) = ii 31 from rfl, ii_and]
  congr 1
  exact Nat.and_two_pow_sub_one_eq_mod a 5
theorem jj_ii {a : Int} (h : 0 ≤ a) : jj a = ii a.toNat := by
  unfold ii
  rw [nat_jj, Int.toNat_of_nonneg h]
theorem jj_iin (n : Nat) : ii n = jj n := nat_jj n
/-- the parts of a stroke in the book -/
def prt (v m what : Int) : Int := if what = 0 then v / 96 else if what = 1 then v / 24 % 4 else if what = 2 then v % 24 else m
theorem x_bookSize {S : St} {j : Nat} {n : Int} {b : Int → Int} (h : BKS S j n b) : f_X4_bookSize j S = some (jj n) := by
  obtain ⟨wr, h1, h2, h3, h4, h5⟩ := h
  unfold f_X4_bookSize
  rw [h1, h4]
  simp (disch := omega) only [jj_of, jj_add, jj_sub, jj_mul, jj_neg, jj_le, jj_lt, jj_eq, jj_nat, chk_true (jj_inb _ _ _), chk_true (jj_nz _ _ _), lt]
  by_cases q : 30 < wr
  · rw [if_pos q, if_neg (by omega)]
  · rw [if_neg q, if_pos (by omega)]
theorem x_bookPart {S : St} {j : Nat} {n i what : Int} {b : Int → Int} (h : BKS S j n b) (hb : 0 ≤ b (2 * i) ∧ b (2 * i) < 960000 ∧ 0 ≤ b (2 * i + 1) ∧ b (2 * i + 1) ≤ 100000000) (i0 : 0 ≤ i) (i1 : i < n) (w0 : 0 ≤ what) (w1 : what ≤ 3) : f_X4_bookPart j S (jj i) (jj what) = some (jj (prt (b (2 * i)) (b (2 * i + 1)) what)) := by
  have hz := x_bookSize h
  obtain ⟨wr, h1, h2, h3, h4, h5⟩ := h
  have hn : n ≤ 30 ∧ n ≤ wr := by rw [h4]; split <;> omega
  unfold f_X4_bookPart
  rw [bnd_of hz, h1, jj_sub, jj_add, show (30 : Int32) = jj 30 from jj_of 30, jj_rem (by omega) (by omega) (by decide) (by decide), chk_true (jj_inb (by omega) (by omega) (by omega)), jj_nat (by omega) (by omega), h5 i i0 i1]
  simp only [lt]
  unfold ENT
  generalize hv : b (2 * i) = v at *
  generalize hm : b (2 * i + 1) = m at *
  rw [kk_shr32 (by omega) (by omega) (by omega) (by omega), kk_int, kk_int, jj_low, jj_ii (show 0 ≤ v / 24 * 32 + v % 24 by omega), ii_shr7 (by omega), ii_shr5 (by omega), ii_and3, ii_and31, jj_iin, jj_iin, jj_iin]
  unfold prt
  simp (disch := omega) only [jj_of, jj_eq]
  have : what = 0 ∨ what = 1 ∨ what = 2 ∨ what = 3 := by omega
  rcases this with rfl | rfl | rfl | rfl
  · rw [if_pos rfl, if_pos rfl]
    congr 2
    omega
  · rw [if_neg (by decide), if_pos rfl, if_neg (by decide), if_pos rfl]
    congr 2
    omega
  · rw [if_neg (by decide), if_neg (by decide), if_pos rfl, if_neg (by decide), if_neg (by decide), if_pos rfl]
    congr 2
    omega
  · rw [if_neg (by decide), if_neg (by decide), if_neg (by decide), if_neg (by decide), if_neg (by decide), if_neg (by decide)]
theorem r_entry {S : St} {A : Int → Int} {i what : Int} (hA : AR 1000 S A) (hb : 0 ≤ A (2955 + 2 * i) ∧ A (2955 + 2 * i) < 960000) (i0 : 0 ≤ i) (i1 : i < 30) (w0 : 0 ≤ what) (w1 : what ≤ 3) : f_X10_entry S (jj i) (jj what) = some (jj (prt (A (2955 + 2 * i)) (A (2955 + (2 * i + 1))) what)) := by
  have e1 := hA (2955 + 2 * i) (by omega) (by omega)
  have e2 := hA (2955 + 2 * i + 1) (by omega) (by omega)
  rw [show 2955 + (2 * i + 1) = 2955 + 2 * i + 1 by omega]
  unfold f_X10_entry prt
  simp (disch := omega) only [jj_of, jj_add, jj_sub, jj_mul, jj_neg, jj_le, jj_lt, jj_eq, jj_nat, chk_true (jj_inb _ _ _), chk_true (jj_nz _ _ _), lt, e1, e2]
  generalize A (2955 + 2 * i) = v at *
  rw [jj_rem hb.1 (by omega) (by decide) (by decide), jj_div hb.1 (by omega) (by decide) (by decide), jj_div hb.1 (by omega) (by decide) (by decide), jj_rem (by omega) (by omega) (by decide) (by decide)]
  repeat' split
  all_goals rfl
theorem k_book {S : St} {T : Int} (hI : INV T S) (x y : Int32) : ONE (fun S => f_X9_book S x y) (fun S => f_X10_book S x y) S := by
  obtain ⟨A, B, hI⟩ := hI
  obtain ⟨em, et, hX, hR⟩ := INVA_get hI
  obtain ⟨z, rfl, b1, b2⟩ := jj_ex x
  obtain ⟨u, rfl, b3, b4⟩ := jj_ex y
  have hB := hX.1.2.1.2.2.2.2 rfl
  have e10 : gI S 1000 0 10 = jj (A 10) := hR.1 10 (by decide) (by decide)
  have n0 := hX.2.1.1.1.2.2.2.2.2.2.2.2.2.1
  have n1 := hX.2.1.1.1.2.2.2.2.2.2.2.2.2.2.1
  have hk := hX.2.1.1.1.2.2.2.2.2.2.2.2.2.2.2
  show ∃ v, f_X9_book S (jj z) (jj u) = some v ∧ f_X10_book S (jj z) (jj u) = some v
  unfold f_X9_book f_X10_book
  rw [bnd_of (x_bookSize hB), e10]
  simp only [jj_of, jj_sub]
  rw [bnd_of (q_isIn2 b1 b2 (by decide) (by decide) (by omega) (by omega)), bnd_of (q_isIn2 b3 b4 (by decide) (by decide) (by decide) (by decide))]
  simp (disch := omega) only [jj_of, jj_add, jj_sub, jj_mul, jj_neg, jj_le, jj_lt, jj_eq, jj_nat, chk_true (jj_inb _ _ _), chk_true (jj_nz _ _ _), lt]
  by_cases q : z = -1
  · rw [if_pos q, if_pos q]; exact ⟨_, rfl, rfl⟩
  · rw [if_neg q, if_neg q]
    by_cases q1 : z < 0
    · rw [if_pos q1, if_neg (show ¬ (0 ≤ z ∧ z ≤ A 10 - 1) by omega), if_pos rfl]; exact ⟨_, rfl, rfl⟩
    · rw [if_neg q1]
      by_cases q2 : A 10 ≤ z
      · rw [if_pos q2, if_neg (show ¬ (0 ≤ z ∧ z ≤ A 10 - 1) by omega), if_pos rfl]; exact ⟨_, rfl, rfl⟩
      · rw [if_neg q2, if_pos (show 0 ≤ z ∧ z ≤ A 10 - 1 by omega), if_neg (show ¬ jj 1 = jj 0 by decide)]
        by_cases q3 : u < 0
        · rw [if_pos q3, if_neg (show ¬ (0 ≤ u ∧ u ≤ 3) by omega), if_pos rfl]; exact ⟨_, rfl, rfl⟩
        · rw [if_neg q3]
          by_cases q4 : u ≤ 3
          · have hbk := hk z (by omega) (by omega)
            rw [if_pos q4, if_pos (show 0 ≤ u ∧ u ≤ 3 by omega), if_neg (show ¬ jj 1 = jj 0 by decide), bnd_of (x_bookPart hB hbk (by omega) (by omega) (by omega) q4), bnd_of (r_entry hR.1 ⟨hbk.1, hbk.2.1⟩ (by omega) (by omega) (by omega) q4)]
            exact ⟨_, rfl, rfl⟩
          · rw [if_neg q4, if_neg (show ¬ (0 ≤ u ∧ u ≤ 3) by omega), if_pos rfl]; exact ⟨_, rfl, rfl⟩
theorem ledger_go {S : St} {N : Nat} {A : Int → Int} {M z : Int} (hN : 4000 < N) (hO : OKS A M) (hX : SHX S 0 1 A) (hA : AR 1000 S A) (z0 : -1 ≤ z) (z1 : z < 4) : ∃ v, f_X4_movedBy N 0 S (jj z) = some v ∧ f_X10_ledger_b20 N N (jj z) (jj 0) (jj 0) S = some v := by
  have hB := hX.2.2.2.2 rfl
  have e10 : gI S 1000 0 10 = jj (A 10) := hA 10 (by decide) (by decide)
  have n0 := hO.1.2.2.2.2.2.2.2.2.2.1
  have n1 := hO.1.2.2.2.2.2.2.2.2.2.2.1
  have hk := hO.1.2.2.2.2.2.2.2.2.2.2.2
  have := two_rule (F := fun n (s : Int32) k => f_X4_movedBy_b4 N 0 n (jj z) s (jj k) S) (G := fun n (s : Int32) k => f_X10_ledger_b20 N n (jj z) s (jj k) S) (P := fun k _ => 0 ≤ k) (Q := fun _ => True) (E := A 10) (by
    intro n n' s k0
    refine ⟨s, ?_, ?_, trivial⟩
    · simp only [f_X4_movedBy_b4]
      rw [bnd_of (x_bookSize hB), if_pos (Int32.le_refl _)]
    · simp only [f_X10_ledger_b20]
      rw [e10, if_pos (Int32.le_refl _)]) (by
    intro n n' s k hk1 k0 ih
    have hbk := hk k k0 hk1
    have p1 := x_bookPart (what := 1) hB hbk k0 hk1 (by decide) (by decide)
    have p3 := x_bookPart (what := 3) hB hbk k0 hk1 (by decide) (by decide)
    have r1 := r_entry (what := 1) hA ⟨hbk.1, hbk.2.1⟩ k0 (by omega) (by decide) (by decide)
    have r3 := r_entry (what := 3) hA ⟨hbk.1, hbk.2.1⟩ k0 (by omega) (by decide) (by decide)
    simp only [f_X4_movedBy_b4, f_X10_ledger_b20, f_X4_movedBy_b27, f_X10_ledger_b47]
    rw [bnd_of (x_bookSize hB), e10]
    have hle : ¬ jj (A 10) ≤ jj k := by rw [jj_le (by omega) (by omega) (by omega) (by omega)]; omega
    rw [if_neg hle, if_neg hle]
    simp only [jj_of, jj_add, jj_neg]
    have ad0 : s + jj 0 = s := Int32.add_zero s
    rw [bnd_of p1, bnd_of p3, bnd_of r1, bnd_of r3, ad0]
    simp only [lt, jj_add]
    change ∃ r, (if jj z = jj (-1) then f_X4_movedBy_b4 N 0 n (jj z) (s + jj (bkA A (2 * k + 1))) (jj (k + 1)) S else if jj (prt (bkA A (2 * k)) (bkA A (2 * k + 1)) 1) = jj z then f_X4_movedBy_b4 N 0 n (jj z) (s + jj (bkA A (2 * k + 1))) (jj (k + 1)) S else f_X4_movedBy_b4 N 0 n (jj z) s (jj (k + 1)) S) = some r ∧ (if jj z = jj (-1) then f_X10_ledger_b20 N n' (jj z) (s + jj (bkA A (2 * k + 1))) (jj (k + 1)) S else if jj (prt (bkA A (2 * k)) (bkA A (2 * k + 1)) 1) = jj z then f_X10_ledger_b20 N n' (jj z) (s + jj (bkA A (2 * k + 1))) (jj (k + 1)) S else f_X10_ledger_b20 N n' (jj z) s (jj (k + 1)) S) = some r ∧ True
    have i1 := ih (s + jj (bkA A (2 * k + 1))) (by omega)
    have i2 := ih s (by omega)
    by_cases q : jj z = jj (-1)
    · rw [if_pos q, if_pos q]; exact i1
    · rw [if_neg q, if_neg q]
      by_cases q2 : jj (prt (bkA A (2 * k)) (bkA A (2 * k + 1)) 1) = jj z
      · rw [if_pos q2, if_pos q2]; exact i1
      · rw [if_neg q2, if_neg q2]; exact i2) (A 10).toNat N N 0 (jj 0) (by omega) (by omega) (by omega) (by omega)
  obtain ⟨v, e1, e2, -⟩ := this
  exact ⟨v, e1, e2⟩
theorem k_ledger {S : St} {N : Nat} {T : Int} (hN : 4000 < N) (hI : INV T S) (x : Int32) : ONE (fun S => f_X9_ledger N S x) (fun S => f_X10_ledger N S x) S := by
  obtain ⟨A, B, hI⟩ := hI
  obtain ⟨em, et, hX, hR⟩ := INVA_get hI
  obtain ⟨z, rfl, b1, b2⟩ := jj_ex x
  have a0 := hX.2.1.1.2.2.1.1
  have a4 := hX.2.1.1.2.2.1.2.1
  show ∃ v, f_X9_ledger N S (jj z) = some v ∧ f_X10_ledger N S (jj z) = some v
  unfold f_X9_ledger f_X10_ledger f_X9_ledger_b13
  rw [bnd_of (x_isHand hX.1.1.1 a0 a4 b1 b2), bnd_of (r_isHand hR.1 a0 a4 b1 b2)]
  simp (disch := omega) only [jj_of, jj_add, jj_sub, jj_mul, jj_neg, jj_le, jj_lt, jj_eq, jj_nat, chk_true (jj_inb _ _ _), chk_true (jj_nz _ _ _), lt]
  by_cases q : z = -1
  · obtain ⟨v, e1, e2⟩ := ledger_go (z := z) hN hX.2.1.1 hX.1.2.1 hR.1 (by omega) (by omega)
    rw [if_pos q, if_pos q, bnd_of e1]
    exact ⟨v, rfl, e2⟩
  · rw [if_neg q, if_neg q]
    by_cases q2 : 0 ≤ z ∧ z < A 0
    · obtain ⟨v, e1, e2⟩ := ledger_go (z := z) hN hX.2.1.1 hX.1.2.1 hR.1 (by omega) (by omega)
      rw [if_pos q2, if_neg (show ¬ jj 1 = jj 0 by decide), if_neg (show ¬ jj 1 = jj 0 by decide), bnd_of e1]
      exact ⟨v, rfl, e2⟩
    · rw [if_neg q2, if_pos rfl, if_pos rfl]
      exact ⟨_, rfl, rfl⟩
