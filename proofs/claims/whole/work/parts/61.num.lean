/-! Numbers: jj, kk: an int, a long out of a whole number; loops that count up. -/
def jj (z : Int) : Int32 := Int32.ofInt z
theorem jj_of (n : Nat) : (no_index (OfNat.ofNat n) : Int32) = jj (no_index (OfNat.ofNat n)) := Int32.ofInt_eq_ofNat.symm
theorem jj_self (x : Int32) : jj x.toInt = x := Int32.ofInt_toInt x
theorem jj_add (a b : Int) : jj a + jj b = jj (a + b) := (Int32.ofInt_add a b).symm
theorem jj_sub (a b : Int) : jj a - jj b = jj (a - b) := (Int32.ofInt_sub a b).symm
theorem jj_mul (a b : Int) : jj a * jj b = jj (a * b) := (Int32.ofInt_mul a b).symm
theorem jj_neg (a : Int) : - jj a = jj (-a) := (Int32.ofInt_neg a).symm
theorem jj_toInt {a : Int} (h : -2147483648 ≤ a) (h2 : a ≤ 2147483647) : (jj a).toInt = a := Int32.toInt_ofInt_of_le (by omega) (by omega)
theorem jj_nat {a : Int} (h : -2147483648 ≤ a) (h2 : a ≤ 2147483647) : (jj a).toNatClampNeg = a.toNat := Int32.toNatClampNeg_ofInt_of_le (by omega) (by omega)
theorem jj_lt {a b : Int} (h : -2147483648 ≤ a) (h2 : a ≤ 2147483647) (h3 : -2147483648 ≤ b) (h4 : b ≤ 2147483647) : (jj a < jj b) = (a < b) := by
  rw [Int32.lt_iff_toInt_lt, jj_toInt h h2, jj_toInt h3 h4]
theorem jj_le {a b : Int} (h : -2147483648 ≤ a) (h2 : a ≤ 2147483647) (h3 : -2147483648 ≤ b) (h4 : b ≤ 2147483647) : (jj a ≤ jj b) = (a ≤ b) := by
  rw [Int32.le_iff_toInt_le, jj_toInt h h2, jj_toInt h3 h4]
theorem jj_eq {a b : Int} (h : -2147483648 ≤ a) (h2 : a ≤ 2147483647) (h3 : -2147483648 ≤ b) (h4 : b ≤ 2147483647) : (jj a = jj b) = (a = b) := by
  refine propext ⟨fun e => ?_, fun e => by rw [e]⟩
  have := congrArg Int32.toInt e
  rwa [jj_toInt h h2, jj_toInt h3 h4] at this
theorem jj_inb {a : Int} {n : Nat} (h : 0 ≤ a) (h2 : a < n) (h3 : a ≤ 2147483647) : inb (jj a) n = true := by
  unfold inb
  have h1 : ¬ jj a < 0 := by
    rw [jj_of, jj_lt (by omega) h3 (by decide) (by decide)]
    omega
  simp only [decide_eq_false h1, jj_nat (show -2147483648 ≤ a by omega) h3, Bool.false_or, Bool.not_eq_true', decide_eq_false_iff_not]
  omega
theorem jj_div {a b : Int} (h : 0 ≤ a) (h2 : a ≤ 2147483647) (h3 : 0 < b) (h4 : b ≤ 2147483647) : jj a / jj b = jj (a / b) := by
  apply Int32.toInt.inj
  have hb : jj b ≠ -1 := by
    intro e
    have := congrArg Int32.toInt e
    rw [jj_toInt (by omega) h4, show (-1 : Int32).toInt = -1 from rfl] at this
    omega
  rw [Int32.toInt_div_of_ne_right _ _ hb, jj_toInt (by omega) h2, jj_toInt (by omega) h4, Int.tdiv_eq_ediv_of_nonneg h]
  have h5 : a / b ≤ a := Int.ediv_le_self b h
  have h6 : 0 ≤ a / b := Int.ediv_nonneg h (by omega)
  rw [jj_toInt (by omega) (by omega)]
theorem jj_mod {a b : Int} (h : 0 ≤ a) (h2 : a ≤ 2147483647) (h3 : 0 < b) (h4 : b ≤ 2147483647) : jj a % jj b = jj (a % b) := by
  apply Int32.toInt.inj
  rw [Int32.toInt_mod, jj_toInt (by omega) h2, jj_toInt (by omega) h4, Int.tmod_eq_emod_of_nonneg h]
  have h5 := Int.emod_nonneg a (show b ≠ 0 by omega)
  have h6 := Int.emod_lt_of_pos a h3
  rw [jj_toInt (by omega) (by omega)]
theorem jj_nz {b : Int} (h : b ≠ 0) (h3 : -2147483648 ≤ b) (h4 : b ≤ 2147483647) : nz (jj b) = true := by
  have e : ¬ jj b = 0 := by
    rw [jj_of, jj_eq h3 h4 (by decide) (by decide)]
    exact h
  unfold nz
  rw [decide_eq_false e]
  rfl
theorem if_swap {α : Type} {a b : Int} {x y : α} : (if a < b then x else y) = (if b ≤ a then y else x) := by
  by_cases h : a < b
  · rw [if_pos h, if_neg (by omega)]
  · rw [if_neg h, if_pos (by omega)]
def kk (z : Int) : Int64 := Int64.ofInt z
theorem kk_of (n : Nat) : (no_index (OfNat.ofNat n) : Int64) = kk (no_index (OfNat.ofNat n)) := Int64.ofInt_eq_ofNat.symm
theorem kk_add (a b : Int) : kk a + kk b = kk (a + b) := (Int64.ofInt_add a b).symm
theorem kk_sub (a b : Int) : kk a - kk b = kk (a - b) := (Int64.ofInt_sub a b).symm
theorem kk_mul (a b : Int) : kk a * kk b = kk (a * b) := (Int64.ofInt_mul a b).symm
theorem kk_neg (a : Int) : - kk a = kk (-a) := (Int64.ofInt_neg a).symm
theorem kk_toInt {a : Int} (h : -9223372036854775808 ≤ a) (h2 : a ≤ 9223372036854775807) : (kk a).toInt = a := Int64.toInt_ofInt_of_le (by omega) (by omega)
theorem kk_lt {a b : Int} (h : -9223372036854775808 ≤ a) (h2 : a ≤ 9223372036854775807) (h3 : -9223372036854775808 ≤ b) (h4 : b ≤ 9223372036854775807) : (kk a < kk b) = (a < b) := by
  rw [Int64.lt_iff_toInt_lt, kk_toInt h h2, kk_toInt h3 h4]
theorem kk_le {a b : Int} (h : -9223372036854775808 ≤ a) (h2 : a ≤ 9223372036854775807) (h3 : -9223372036854775808 ≤ b) (h4 : b ≤ 9223372036854775807) : (kk a ≤ kk b) = (a ≤ b) := by
  rw [Int64.le_iff_toInt_le, kk_toInt h h2, kk_toInt h3 h4]
theorem kk_eq {a b : Int} (h : -9223372036854775808 ≤ a) (h2 : a ≤ 9223372036854775807) (h3 : -9223372036854775808 ≤ b) (h4 : b ≤ 9223372036854775807) : (kk a = kk b) = (a = b) := by
  refine propext ⟨fun e => ?_, fun e => by rw [e]⟩
  have := congrArg Int64.toInt e
  rwa [kk_toInt h h2, kk_toInt h3 h4] at this
/-- a walk that counts up -/
def itr {σ : Type} (step : Int → σ → σ) : Int → Nat → σ → σ
  | _, 0, a => a
  | k, m + 1, a => itr step (k + 1) m (step k a)
theorem up_loop {σ β : Type} {F : Nat → σ → Int → Option β} {out : σ → Option β} {step : Int → σ → σ} {P : Int → σ → Prop} {E : Int}
    (h0 : ∀ n a, P E a → F (n + 1) a E = out a)
    (h1 : ∀ n a k, k < E → P k a → F (n + 1) a k = F n (step k a) (k + 1) ∧ P (k + 1) (step k a)) :
    ∀ (m n : Nat) (k : Int) (a : σ), k + m = E → m < n → P k a → F n a k = out (itr step k m a) ∧ P E (itr step k m a) := by
  intro m
  induction m with
  | zero =>
    intro n k a hk hn hP
    obtain ⟨n, rfl⟩ : ∃ n', n = n' + 1 := ⟨n - 1, by omega⟩
    have : k = E := by omega
    subst this
    exact ⟨h0 n a hP, hP⟩
  | succ m ih =>
    intro n k a hk hn hP
    obtain ⟨n, rfl⟩ : ∃ n', n = n' + 1 := ⟨n - 1, by omega⟩
    obtain ⟨e, hP2⟩ := h1 n a k (by omega) hP
    rw [e]
    exact ih n (k + 1) (step k a) (by omega) (by omega) hP2
theorem itr_congr {σ : Type} {s t : Int → σ → σ} : ∀ (m : Nat) (k : Int) (a : σ), (∀ i x, k ≤ i → i < k + m → s i x = t i x) → itr s k m a = itr t k m a := by
  intro m
  induction m with
  | zero => intro k a h; rfl
  | succ m ih =>
    intro k a h
    show itr s (k + 1) m (s k a) = itr t (k + 1) m (t k a)
    rw [h k a (by omega) (by omega)]
    exact ih (k + 1) _ (fun i x q q2 => h i x (by omega) (by omega))
theorem itr_add {σ : Type} {s : Int → σ → σ} : ∀ (m m2 : Nat) (k : Int) (a : σ), itr s k (m + m2) a = itr s (k + m) m2 (itr s k m a) := by
  intro m
  induction m with
  | zero => intro m2 k a; show itr s k (0 + m2) a = itr s (k + 0) m2 a; rw [Nat.zero_add, Int.add_zero]
  | succ m ih =>
    intro m2 k a
    rw [show m + 1 + m2 = (m + m2) + 1 by omega]
    show itr s (k + 1) (m + m2) (s k a) = itr s (k + ((m + 1 : Nat) : Int)) m2 (itr s (k + 1) m (s k a))
    rw [ih, show k + 1 + (m : Int) = k + ((m + 1 : Nat) : Int) by omega]
theorem itr_inv {σ : Type} {s : Int → σ → σ} {P : Int → σ → Prop} : ∀ (m : Nat) (k : Int) (a : σ), P k a → (∀ i x, k ≤ i → i < k + m → P i x → P (i + 1) (s i x)) → P (k + m) (itr s k m a) := by
  intro m
  induction m with
  | zero => intro k a h _; show P (k + 0) a; rwa [Int.add_zero]
  | succ m ih =>
    intro k a h hs
    have := ih (k + 1) (s k a) (hs k a (by omega) (by omega) h) (fun i x q q2 hp => hs i x (by omega) (by omega) hp)
    rw [show k + ((m + 1 : Nat) : Int) = k + 1 + m by omega]
    exact this
