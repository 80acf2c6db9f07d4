/-! PURE mathematics begins here: numbers as Nat within Int32. -/
def ii (k : Nat) : Int32 := Int32.ofNat k
theorem ii_of (n : Nat) : (no_index (OfNat.ofNat n) : Int32) = ii n := rfl
theorem ii_add (a b : Nat) : ii a + ii b = ii (a + b) := (Int32.ofNat_add a b).symm
theorem ii_toInt {a : Nat} (h : a < 2147483648) : (ii a).toInt = a := Int32.toInt_ofNat_of_lt h
theorem ii_nat {a : Nat} (h : a < 2147483648) : (ii a).toNatClampNeg = a := Int32.toNatClampNeg_ofNat_of_lt h
theorem ii_le {a b : Nat} (ha : a < 2147483648) (hb : b < 2147483648) : (ii a ≤ ii b) = (a ≤ b) := by
  rw [Int32.le_iff_toInt_le, ii_toInt ha, ii_toInt hb]
  exact propext ⟨fun h => by omega, fun h => by omega⟩
theorem ii_lt {a b : Nat} (ha : a < 2147483648) (hb : b < 2147483648) : (ii a < ii b) = (a < b) := by
  rw [Int32.lt_iff_toInt_lt, ii_toInt ha, ii_toInt hb]
  exact propext ⟨fun h => by omega, fun h => by omega⟩
theorem ii_eq {a b : Nat} (ha : a < 2147483648) (hb : b < 2147483648) : (ii a = ii b) = (a = b) := by
  refine propext ⟨fun h => ?_, fun h => by rw [h]⟩
  have := congrArg Int32.toInt h
  rw [ii_toInt ha, ii_toInt hb] at this
  omega
theorem ii_sub {a b : Nat} (h : b ≤ a) : ii a - ii b = ii (a - b) := by
  have : ii (a - b) + ii b = ii a := by rw [ii_add]; congr 1; omega
  rw [← this, Int32.add_sub_cancel]
theorem inb_ii {a n : Nat} (h : a < 2147483648) (hn : a < n) : inb (ii a) n = true := by
  unfold inb
  have h1 : ¬ ii a < 0 := by
    rw [show (0 : Int32) = ii 0 from rfl, ii_lt h (by omega)]
    omega
  simp only [decide_eq_false h1, ii_nat h, Bool.false_or, Bool.not_eq_true', decide_eq_false_iff_not]
  omega
/-- the cells of now's sheet are the reference's -/
def CEL (S : St) : Prop := ∀ i, i < 12 → gI S 1000 0 (11 + i) = gI S 400 0 i
theorem thin_lem {S : St} {N : Nat} (H : CEL S) : ∀ (m k a n : Nat), k + m = 12 → a < 12 → m < n → ∃ r, r < 12 ∧ f_X3_leastCell_b4 N 0 n (ii a) (ii k) S = some (ii r) ∧ f_X10_thin_b4 N n (ii a) (ii k) S = some (ii r) := by
  intro m
  induction m with
  | zero =>
    intro k a n hk ha hn
    obtain ⟨n, rfl⟩ : ∃ n', n = n' + 1 := ⟨n - 1, by omega⟩
    have : k = 12 := by omega
    subst this
    refine ⟨a, ha, ?_, ?_⟩
    · rw [f_X3_leastCell_b4]
      simp (disch := omega) only [ii_of, ii_le, Nat.le_refl, if_true]
    · rw [f_X10_thin_b4]
      simp (disch := omega) only [ii_of, ii_le, Nat.le_refl, if_true]
  | succ m ih =>
    intro k a n hk ha hn
    obtain ⟨n, rfl⟩ : ∃ n', n = n' + 1 := ⟨n - 1, by omega⟩
    have hk2 : ¬ 12 ≤ k := by omega
    rw [f_X3_leastCell_b4, f_X10_thin_b4]
    simp (disch := omega) only [ii_of, ii_le, hk2, if_false, ii_add, chk_true (inb_ii _ _), ii_nat, H k (by omega), H a ha, lt]
    by_cases hc : gI S 400 0 a ≤ gI S 400 0 k
    · simp only [hc, if_true]
      exact ih (k + 1) a n (by omega) ha (by omega)
    · simp only [hc, if_false]
      exact ih (k + 1) k n (by omega) (by omega) (by omega)
