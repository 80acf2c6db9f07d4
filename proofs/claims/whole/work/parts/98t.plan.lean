/-! What a plan is. -/
def abv (A : Int → Int) (lim : Int) : Int → Int := fun i => if A (11 + i) ≤ lim then 0 else 1
def cntA (A : Int → Int) (lim : Int) : Int := pre (abv A lim) 12
def wth (A : Int → Int) (B : Int → Int) : Prop := ∀ i : Int, 0 ≤ i → i < 12 → B (23 + i) = A (23 + i)
def PTH (em et : Sem) (h lim : Int) : Nat → (Int → Int) → Int → Prop
  | 0, A, _ => cntA A lim = 0
  | r + 1, A, c => 0 < A (11 + (c / 24 ^ r) / 2) ∧ wth A (ST0 em et A h (c / 24 ^ r)) ∧ PTH em et h lim r (ST0 em et A h (c / 24 ^ r)) (c % 24 ^ r)
theorem pre_drop {f g : Int → Int} {k d : Int} (d0 : 0 ≤ d) (h : ∀ i, 0 ≤ i → i < 12 → i ≠ k → f i ≤ g i) (hk : f k ≤ g k + d) : ∀ m : Nat, m ≤ 12 → pre f m ≤ pre g m + (if k < m then d else 0) := by
  intro m
  induction m with
  | zero => intro _; show (0 : Int) ≤ 0 + _; split <;> omega
  | succ m ih =>
    intro hm
    have := ih (by omega)
    show pre f m + f m ≤ pre g m + g m + _
    by_cases w : (m : Int) = k
    · subst w
      rw [if_neg (by omega)] at this
      rw [if_pos (by omega)]
      omega
    · have := h m (by omega) (by omega) w
      by_cases z : k < (m : Int)
      · rw [if_pos z] at *
        rw [if_pos (by omega)]
        omega
      · rw [if_neg z] at *
        rw [if_neg (by omega)]
        omega
theorem ST0_cell {em et : Sem} {A : Int → Int} {h w M : Int} (hO : OKS A M) (w0 : 0 ≤ w) (w1 : w < 24) {i : Int} (i0 : 0 ≤ i) (i1 : i < 12) (ne : i ≠ w / 2) : A (11 + i) ≤ ST0 em et A h w (11 + i) := by
  have e : ST0 em et A h w = STR em et (sgA A) A h (w / 2) (w % 2) := by
    unfold ST0 STW
    exact if_pos rfl
  have mb := mvv_b (em := em) (sg := sgA A) (h := h) (c := w / 2) (rt := w % 2) (OKR_RB hO.1 hO.2.2.2) (by omega) (by omega)
  rw [e, STR_dough (by omega) _ (by omega), ST2_at _ (by omega)]
  by_cases q : 11 + i = dst (w / 2) (w % 2)
  · rw [if_pos q, ← q]
    omega
  · rw [if_neg q, if_neg (by omega)]
    exact Int.le_refl _
theorem cnt_drop {em et : Sem} {A : Int → Int} {h w M lim : Int} (hO : OKS A M) (w0 : 0 ≤ w) (w1 : w < 24) : cntA A lim ≤ cntA (ST0 em et A h w) lim + 1 ∧ (A (11 + w / 2) ≤ lim → cntA A lim ≤ cntA (ST0 em et A h w) lim) := by
  have ge : ∀ i : Int, 0 ≤ i → i < 12 → i ≠ w / 2 → abv A lim i ≤ abv (ST0 em et A h w) lim i := by
    intro i a b d
    have := ST0_cell (em := em) (et := et) (h := h) hO w0 w1 a b d
    unfold abv
    split <;> split <;> omega
  constructor
  · have := pre_drop (f := abv A lim) (g := abv (ST0 em et A h w) lim) (k := w / 2) (d := 1) (by decide) ge (by unfold abv; split <;> split <;> omega) 12 (by decide)
    rw [if_pos (by omega)] at this
    exact this
  · intro q
    have := pre_drop (f := abv A lim) (g := abv (ST0 em et A h w) lim) (k := w / 2) (d := 0) (by decide) ge (by unfold abv; rw [if_pos q]; split <;> omega) 12 (by decide)
    rw [if_pos (by omega)] at this
    unfold cntA
    omega
theorem pow24 (r : Nat) : 0 < (24 : Int) ^ r := Int.pow_pos (by decide)
theorem dig_b {r : Nat} {c : Int} (c0 : 0 ≤ c) (c1 : c < 24 ^ (r + 1)) : 0 ≤ c / 24 ^ r ∧ c / 24 ^ r < 24 ∧ 0 ≤ c % 24 ^ r ∧ c % 24 ^ r < 24 ^ r := by
  have p := pow24 r
  refine ⟨Int.ediv_nonneg c0 (by omega), ?_, Int.emod_nonneg _ (by omega), Int.emod_lt_of_pos _ p⟩
  refine Int.ediv_lt_of_lt_mul p ?_
  rw [Int.pow_succ, Int.mul_comm] at c1
  exact c1
theorem dig_of {r : Nat} {w c : Int} (c0 : 0 ≤ c) (c1 : c < 24 ^ r) : (w * 24 ^ r + c) / 24 ^ r = w ∧ (w * 24 ^ r + c) % 24 ^ r = c := by
  have p := pow24 r
  constructor
  · rw [Int.add_comm, Int.add_mul_ediv_right _ _ (by omega), Int.ediv_eq_zero_of_lt c0 c1, Int.zero_add]
  · rw [Int.add_comm, Int.add_mul_emod_self_right]
    exact Int.emod_eq_of_lt c0 c1
theorem pth_cnt {em et : Sem} {h lim M : Int} (h0 : 0 ≤ h ∧ h < 4) : ∀ (r : Nat) (A : Int → Int) (c : Int), OKS A M → 0 ≤ c → c < 24 ^ r → PTH em et h lim r A c → cntA A lim ≤ r := by
  intro r
  induction r with
  | zero => intro A c _ _ _ p; have p : cntA A lim = 0 := p; omega
  | succ r ih =>
    intro A c hO c0 c1 ⟨p1, p2, p3⟩
    obtain ⟨d1, d2, d3, d4⟩ := dig_b c0 c1
    have := ih _ _ (ST0_OKS hO h0 d1 d2) d3 d4 p3
    have := (cnt_drop (em := em) (et := et) (h := h) (lim := lim) hO d1 d2).1
    omega
/-- the lowest code -/
def LOW (em et : Sem) (h lim : Int) (r : Nat) (A : Int → Int) (c : Int) : Prop := 0 ≤ c ∧ c < 24 ^ r ∧ PTH em et h lim r A c ∧ ∀ d : Int, 0 ≤ d → d < c → ¬ PTH em et h lim r A d
theorem low_step {em et : Sem} {h lim : Int} {r : Nat} {A : Int → Int} {w c : Int} (w0 : 0 ≤ w) (w1 : w < 24) (q1 : 0 < A (11 + w / 2)) (q2 : wth A (ST0 em et A h w)) (hl : LOW em et h lim r (ST0 em et A h w) c) (hb : ∀ d : Int, 0 ≤ d → d < 24 ^ (r + 1) → d / 24 ^ r < w → ¬ PTH em et h lim (r + 1) A d) : LOW em et h lim (r + 1) A (w * 24 ^ r + c) := by
  obtain ⟨c0, c1, p, lo⟩ := hl
  have pp := pow24 r
  obtain ⟨e1, e2⟩ := dig_of (w := w) c0 c1
  have wp : 0 ≤ w * 24 ^ r := Int.mul_nonneg w0 (by omega)
  have wq : w * 24 ^ r + c < 24 ^ (r + 1) := by
    have : (w + 1) * 24 ^ r ≤ 24 * 24 ^ r := Int.mul_le_mul_of_nonneg_right (by omega) (by omega)
    rw [Int.pow_succ, Int.mul_comm _ 24]
    rw [Int.add_mul] at this
    omega
  refine ⟨by omega, wq, ?_, fun d d0 d1 hp => ?_⟩
  · show 0 < A (11 + ((w * 24 ^ r + c) / 24 ^ r) / 2) ∧ wth A (ST0 em et A h ((w * 24 ^ r + c) / 24 ^ r)) ∧ PTH em et h lim r (ST0 em et A h ((w * 24 ^ r + c) / 24 ^ r)) ((w * 24 ^ r + c) % 24 ^ r)
    rw [e1, e2]
    exact ⟨q1, q2, p⟩
  · by_cases z : d / 24 ^ r < w
    · exact hb d d0 (by omega) z hp
    · have dm := Int.mul_ediv_add_emod d (24 ^ r)
      have d3 := Int.emod_nonneg d (show (24 : Int) ^ r ≠ 0 by omega)
      have dw : d / 24 ^ r = w := by
        have : d / 24 ^ r < w + 1 := by
          refine Int.ediv_lt_of_lt_mul pp ?_
          rw [Int.add_mul]
          omega
        omega
      have hp3 : PTH em et h lim r (ST0 em et A h (d / 24 ^ r)) (d % 24 ^ r) := hp.2.2
      rw [dw] at hp3 dm
      rw [Int.mul_comm] at dm
      exact lo _ d3 (by omega) hp3
