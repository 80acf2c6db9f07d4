/-! WHAT CODE SAYS: the class's, at places. -/
theorem cmp_lt {x y : Int64} : (lg_cmp x y < (0 : Int32)) = (x < y) := by
  unfold lg_cmp
  by_cases h : x > y
  · rw [if_pos h]
    have h1 : y < x := h
    have : ¬ x < y := fun e => by rw [Int64.lt_iff_toInt_lt] at e h1; omega
    exact propext ⟨fun e => absurd e (by decide), fun e => absurd e this⟩
  · rw [if_neg h]
    by_cases h2 : x = y
    · rw [if_pos h2]
      have : ¬ x < y := fun e => by rw [h2, Int64.lt_iff_toInt_lt] at e; omega
      exact propext ⟨fun e => absurd e (by decide), fun e => absurd e this⟩
    · rw [if_neg h2]
      refine propext ⟨fun _ => ?_, fun _ => by decide⟩
      have h3 : ¬ y < x := h
      rw [Int64.lt_iff_toInt_lt] at h3 ⊢
      have : x.toInt ≠ y.toInt := fun e => h2 (Int64.toInt.inj e)
      omega
theorem cmp_gt {x y : Int64} : ((0 : Int32) < lg_cmp x y) = (y < x) := by
  unfold lg_cmp
  by_cases h : x > y
  · rw [if_pos h]
    exact propext ⟨fun _ => h, fun _ => by decide⟩
  · rw [if_neg h]
    by_cases h2 : x = y
    · rw [if_pos h2]
      exact propext ⟨fun e => absurd e (by decide), fun e => absurd e h⟩
    · rw [if_neg h2]
      exact propext ⟨fun e => absurd e (by decide), fun e => absurd e h⟩
theorem i32_nlt {a b : Int32} : (a ≤ b) = ¬ (b < a) := by
  rw [Int32.le_iff_toInt_le, Int32.lt_iff_toInt_lt]
  exact propext ⟨fun h => by omega, fun h => by omega⟩
theorem cmp_le {x y : Int64} : (lg_cmp x y ≤ (0 : Int32)) = ¬ (y < x) := by rw [i32_nlt, cmp_gt]
theorem cmp_ge {x y : Int64} : ((0 : Int32) ≤ lg_cmp x y) = ¬ (x < y) := by rw [i32_nlt, cmp_lt]
theorem fet_k {g k : Int} (g0 : 0 ≤ g) (g1 : g ≤ 10000) (k0 : 0 ≤ k) (k1 : k < 64) : jj (g * 64 + k) - jj (g * 64 + k) / (64 : Int32) * (64 : Int32) = jj k := by
  have := jj_rem (a := g * 64 + k) (b := 64) (by omega) (by omega) (by decide) (by decide)
  rw [show (g * 64 + k) % 64 = k by omega] at this
  exact this
theorem fet_g {g k : Int} (g0 : 0 ≤ g) (g1 : g ≤ 10000) (k0 : 0 ≤ k) (k1 : k < 64) : jj (g * 64 + k) / (64 : Int32) = jj g := by
  have := jj_div (a := g * 64 + k) (b := 64) (by omega) (by omega) (by decide) (by decide)
  rw [show (g * 64 + k) / 64 = g by omega] at this
  exact this
theorem jk_eq {k : Int} (k0 : 0 ≤ k) (k1 : k < 64) (c : Nat) (hc : c < 64) (h : k ≠ c) : ¬ jj k = (no_index (OfNat.ofNat c) : Int32) := by
  rw [jj_of, jj_eq (by omega) (by omega) (by show -2147483648 ≤ (c : Int); omega) (by show (c : Int) ≤ 2147483647; omega)]
  exact h
/-- the step's first half: what is fetched -/
def aft (N x fuel : Nat) (t p : Int32) (v5 v8 : Int32) (S : St) : Option (Int64 × St) :=
  if v5 = (44 : Int32) then f_X2_result_b4 N x fuel t ((if p < (v8 - (1 : Int32)) then (v8 - (1 : Int32)) else p) + 1) S
  else (if v5 = (43 : Int32) then
    (lt (if (0 : Int32) < (t - (1 : Int32)) then (t - (1 : Int32)) else (0 : Int32)) fun v35 => chk (inb v35 64) (if (lg_cmp (gL S 201 0 v35.toNatClampNeg) (0 : Int64)) = (0 : Int32) then f_X2_result_b4 N x fuel v35 ((if p < (v8 - (1 : Int32)) then (v8 - (1 : Int32)) else p) + 1) S else f_X2_result_b4 N x fuel v35 (p + 1) S))
  else (if v5 < (24 : Int32) then (f_X2_result_b156 (f_X2_result_b4 N x fuel) N x t p v5 v8 S)
  else (if (35 : Int32) < v5 then (f_X2_result_b156 (f_X2_result_b4 N x fuel) N x t p v5 v8 S)
  else (lt (if (0 : Int32) < (t - (2 : Int32)) then (t - (2 : Int32)) else (0 : Int32)) fun v25 => chk (inb v25 64) (chk (inb (v25 + (1 : Int32)) 64) (bnd (f_X2_joined S v5 (gL S 201 0 v25.toNatClampNeg) (gL S 201 0 (v25 + (1 : Int32)).toNatClampNeg)) fun q28 => lt (if q28 < (1000000 : Int64) then q28 else (1000000 : Int64)) fun v29 => lt (if v29 < (-1000000 : Int64) then (-1000000 : Int64) else v29) fun v30 => chk (inb v25 64) (f_X2_result_b4 N x fuel (v25 + 1) (p + 1) (sL S 201 0 v25.toNatClampNeg v30))))))))
theorem q_b4 {S : St} {N x fuel n p : Nat} {t : Int32} {arr : Nat → Int32} {g k : Int} (hA : gA S x = some (n, arr)) (hp : p < n) (hn : n ≤ 300) (e : arr p = jj (g * 64 + k)) (g0 : 0 ≤ g) (g1 : g ≤ 10000) (k0 : 0 ≤ k) (k1 : k < 64) : f_X2_result_b4 N x (fuel + 1) t (jj p) S = aft N x fuel t (jj p) (jj k) (jj g) S := by
  have e1 : ¬ (Int32.ofNat n ≤ jj p) := by
    rw [nat_jj, jj_le (by omega) (by omega) (by omega) (by omega)]
    omega
  have e2 : arr (jj p).toNatClampNeg = jj (g * 64 + k) := by
    rw [jj_nat (by omega) (by omega), Int.toNat_natCast]
    exact e
  have e3 : inb (jj p) n = true := jj_inb (by omega) (by omega) (by omega)
  rw [f_X2_result_b4, bnd_of (gA_gN hA), if_neg e1, bnd_of hA]
  simp only [lt]
  rw [chk_true e3, bnd_of hA, chk_true e3]
  simp only [e2]
  rw [fet_k g0 g1 k0 k1, fet_g g0 g1 k0 k1]
  rfl
theorem ENVX_201 {m : Int} {S S' : St} {nv cs : Int → Int} (h : FX (fun f _ => f = 201) S S') (hE : ENVX m S nv cs) : ENVX m S' nv cs := by
  obtain ⟨h1, h2, h3, h4⟩ := hE
  have r : gR S' 202 0 0 = gR S 202 0 0 := h.2.2.1 202 0 0 (by decide)
  have g : ∀ f j i, f ≠ 201 → gI S' f j i = gI S f j i := fun f j i z => h.1 f j i z
  refine ⟨by rw [r]; exact h1, fun i a b => by rw [r, g 400 _ _ (by decide)]; exact h2 i a b, fun k a b => ?_, h4⟩
  rw [← h3 k a b]
  have g205 := fun j i => g 205 j i (by decide)
  have g204 := fun j i => g 204 j i (by decide)
  have g203 := fun j i => g 203 j i (by decide)
  have g400 := fun j i => g 400 j i (by decide)
  have g404 := fun j i => g 404 j i (by decide)
  have g405 := fun j i => g 405 j i (by decide)
  have g407 := fun j i => g 407 j i (by decide)
  have g804 := fun j i => g 804 j i (by decide)
  simp only [f_X2_named, f_X2_named_b22, f_X2_named_b33, f_X2_named_b38, r, g205, g204, g203, g400, g404, g405, g407, g804]
/-- the code c from p to q leaves E on the stack, which needs d places -/
def SEG (m : Int) (c : Nat → Int32) (p q d : Nat) (E : Sm) : Prop := p ≤ q ∧ ∀ (S : St) (N x n fuel t : Nat) (nv cs : Int → Int) (arr : Nat → Int32) (Q : Int64 × St → Prop), gA S x = some (n, arr) → q ≤ n → n ≤ 300 → (∀ i, p ≤ i → i < q → arr i = c i) → ENVX m S nv cs → t + d ≤ 63 → q - p ≤ fuel → (∀ S' fuel', fuel ≤ fuel' + (q - p) → FX (fun f _ => f = 201) S S' → (∀ k, k < t → gL S' 201 0 k = gL S 201 0 k) → gL S' 201 0 t = kk (E nv cs) → wp (f_X2_result_b4 N x fuel' (jj (t + 1 : Nat)) (jj q) S') Q) → wp (f_X2_result_b4 N x fuel (jj t) (jj p) S) Q
theorem FX_sL201 {S S' : St} {i : Nat} {v : Int64} (h : FX (fun f _ => f = 201) S S') : FX (fun f _ => f = 201) S (sL S' 201 0 i v) := FX_sL h rfl
theorem SEG_congr {m : Int} {c c' : Nat → Int32} {p q d : Nat} {E : Sm} (h : SEG m c p q d E) (e : ∀ i, p ≤ i → i < q → c' i = c i) : SEG m c' p q d E := ⟨h.1, fun S N x n fuel t nv cs arr Q a1 a2 a3 a4 => h.2 S N x n fuel t nv cs arr Q a1 a2 a3 (fun i z y => (a4 i z y).trans (e i z y))⟩
theorem SEG_mono {m : Int} {c : Nat → Int32} {p q d d' : Nat} {E : Sm} (h : SEG m c p q d E) (e : d ≤ d') : SEG m c p q d' E := ⟨h.1, fun S N x n fuel t nv cs arr Q a1 a2 a3 a4 a5 a6 => h.2 S N x n fuel t nv cs arr Q a1 a2 a3 a4 a5 (by omega)⟩
theorem jn_add (t : Nat) (k : Nat) : jj (t : Int) + (no_index (OfNat.ofNat k) : Int32) = jj ((t + k : Nat) : Int) := by
  rw [jj_of, jj_add]
  congr 1
theorem SEG_num {m : Int} {c : Nat → Int32} {p : Nat} {v : Int} (e : c p = jj (v * 64 + 39)) (v0 : 0 ≤ v) (v1 : v ≤ 9999) : SEG m c p (p + 1) 1 (fun _ _ => v) := by
  refine ⟨by omega, fun S N x n fuel t nv cs arr Q hA h1 h2 h3 h4 h5 h6 hk => ?_⟩
  obtain ⟨fuel, rfl⟩ : ∃ f', fuel = f' + 1 := ⟨fuel - 1, by omega⟩
  rw [q_b4 hA (by omega) h2 ((h3 p (by omega) (by omega)).trans e) v0 (by omega) (by decide) (by decide)]
  unfold aft f_X2_result_b156 f_X2_result_b170
  rw [if_neg (by decide), if_neg (by decide), if_neg (by decide), if_pos (by decide), if_neg (by decide), if_neg (by decide), if_neg (by decide), if_neg (show ¬ (64 : Int32) - 1 ≤ jj t by rw [show (64 : Int32) - 1 = jj 63 from rfl, jj_le (by decide) (by decide) (by omega) (by omega)]; omega), if_pos (by decide), chk_true (jj_inb (by omega) (by omega) (by omega)), jj_nat (by omega) (by omega), Int.toNat_natCast, jj_long (by omega) (by omega)]
  simp only [lt]
  rw [show jj (t : Int) + (1 : Int32) = jj ((t + 1 : Nat) : Int) from jn_add t 1, show jj (p : Int) + (1 : Int32) = jj ((p + 1 : Nat) : Int) from jn_add p 1]
  refine hk _ _ (by omega) (FX_sL201 (FX_refl _ _)) (fun k hkt => ?_) ?_
  · rw [gL_sL, if_neg (by omega)]
  · rw [gL_sL, if_pos ⟨rfl, rfl, rfl⟩]
theorem SEG_name {m : Int} {c : Nat → Int32} {p : Nat} {k : Int} (e : c p = jj (0 * 64 + k)) (k0 : 0 ≤ nmo k) (k1 : nmo k < m) : SEG m c p (p + 1) 1 (fun nv _ => nv (nmo k)) := by
  refine ⟨by omega, fun S N x n fuel t nv cs arr Q hA h1 h2 h3 h4 h5 h6 hk => ?_⟩
  obtain ⟨fuel, rfl⟩ : ∃ f', fuel = f' + 1 := ⟨fuel - 1, by omega⟩
  have hk9 : (k = 3 ∨ k = 6 ∨ k = 9 ∨ k = 16 ∨ k = 17 ∨ k = 18 ∨ k = 19 ∨ k = 20) := by
    unfold nmo at k0
    repeat' split at k0
    all_goals omega
  have hn : f_X2_named S (jj k) = some (kk (nv (nmo k))) := by
    have := h4.2.2.1 (nmo k) k0 k1
    rw [← this]
    congr 1
    rcases hk9 with rfl | rfl | rfl | rfl | rfl | rfl | rfl | rfl <;> rfl
  rw [q_b4 hA (by omega) h2 ((h3 p (by omega) (by omega)).trans e) (by decide) (by decide) (by omega) (by omega)]
  unfold aft f_X2_result_b156 f_X2_result_b170
  have lt24 : jj k < (24 : Int32) := by rw [show (24 : Int32) = jj 24 from rfl, jj_lt (by omega) (by omega) (by decide) (by decide)]; omega
  have lt21 : jj k < (21 : Int32) := by rw [show (21 : Int32) = jj 21 from rfl, jj_lt (by omega) (by omega) (by decide) (by decide)]; omega
  rw [if_neg (jk_eq (by omega) (by omega) 44 (by decide) (by omega)), if_neg (jk_eq (by omega) (by omega) 43 (by decide) (by omega)), if_pos lt24, if_pos lt21, if_neg (jk_eq (by omega) (by omega) 42 (by decide) (by omega)), if_neg (show ¬ (64 : Int32) - 1 ≤ jj t by rw [show (64 : Int32) - 1 = jj 63 from rfl, jj_le (by decide) (by decide) (by omega) (by omega)]; omega), if_neg (jk_eq (by omega) (by omega) 39 (by decide) (by omega)), bnd_of hn, chk_true (jj_inb (by omega) (by omega) (by omega)), jj_nat (by omega) (by omega), Int.toNat_natCast]
  simp only [lt]
  rw [show jj (t : Int) + (1 : Int32) = jj ((t + 1 : Nat) : Int) from jn_add t 1, show jj (p : Int) + (1 : Int32) = jj ((p + 1 : Nat) : Int) from jn_add p 1]
  refine hk _ _ (by omega) (FX_sL201 (FX_refl _ _)) (fun k hkt => ?_) ?_
  · rw [gL_sL, if_neg (by omega)]
  · rw [gL_sL, if_pos ⟨rfl, rfl, rfl⟩]
/-- which of the class's kinds change one -/
def chg (k : Int) (cs : Int → Int) (v : Int) : Int := if k = 21 then nop v else uop (if k = 42 then 5 else if k = 22 then 4 else 2) cs v
theorem q_changed {m : Int} {S : St} {nv cs : Int → Int} {k v : Int} (hE : ENVX m S nv cs) (hk : k = 21 ∨ k = 22 ∨ k = 23 ∨ k = 42) (h : -100000000 ≤ v) (h2 : v ≤ 100000000) : f_X2_changed S (jj k) (kk v) = some (kk (chg k cs v)) := by
  have sq : 0 ≤ v * v := by
    rcases Int.le_total 0 v with q | q
    · exact Int.mul_nonneg q q
    · exact Int.mul_nonneg_of_nonpos_of_nonpos q q
  have sq2 : v * v ≤ 10000000000000000 := by
    rcases Int.le_total 0 v with q | q
    · exact Int.mul_le_mul h2 h2 q (by decide)
    · have := Int.mul_le_mul (show -v ≤ 100000000 by omega) (show -v ≤ 100000000 by omega) (by omega) (by decide)
      rw [Int.neg_mul_neg] at this
      exact this
  have z0 : (lg_cmp (kk v) (0 : Int64) = (0 : Int32)) = (v = 0) := by rw [cmp_zero, show (0 : Int64) = kk 0 from rfl, kk_eq (by omega) (by omega) (by decide) (by decide)]
  have z1 : (lg_cmp (kk v * kk v) (1000000 : Int64) ≤ (0 : Int32)) = ¬ (1000000 < v * v) := by rw [cmp_le, kk_mul, show (1000000 : Int64) = kk 1000000 from rfl, kk_lt (by decide) (by decide) (by omega) (by omega)]
  have z2 : (lg_cmp (kk v) (0 : Int64) < (0 : Int32)) = (v < 0) := by rw [cmp_lt, show (0 : Int64) = kk 0 from rfl, kk_lt (by omega) (by omega) (by decide) (by decide)]
  have z3 : (lg_cmp (kk v) (12 : Int64) < (0 : Int32)) = (v < 12) := by rw [cmp_lt, show (12 : Int64) = kk 12 from rfl, kk_lt (by omega) (by omega) (by decide) (by decide)]
  unfold f_X2_changed
  rcases hk with rfl | rfl | rfl | rfl
  · rw [show chg 21 cs v = nop v from rfl, if_pos (show jj 21 = 21 from rfl)]
    unfold nop
    by_cases q : v = 0
    · rw [if_pos (z0.mpr q), if_pos q]; rfl
    · rw [if_neg (fun z => q (z0.mp z)), if_neg q]; rfl
  · rw [show chg 22 cs v = (if 1000000 < v * v then 1000000 else v * v) from rfl, if_neg (show ¬ jj 22 = 21 by decide), if_pos (show jj 22 = 22 from rfl)]
    by_cases q : 1000000 < v * v
    · rw [if_neg (fun z => z1.mp z q), if_pos q]; rfl
    · rw [if_pos (z1.mpr q), if_neg q, kk_mul]
  · rw [show chg 23 cs v = (if 0 ≤ v ∧ v < 12 then cs v else 0) from rfl, if_neg (show ¬ jj 23 = 21 by decide), if_neg (show ¬ jj 23 = 22 by decide), if_neg (show ¬ jj 23 = 42 by decide)]
    by_cases q : v < 0
    · rw [if_pos (z2.mpr q), if_neg (by omega)]; rfl
    · rw [if_neg (fun z => q (z2.mp z))]
      by_cases q2 : v < 12
      · have := hE.2.2.2.2 v (by omega) q2
        rw [if_pos (z3.mpr q2), if_pos (show 0 ≤ v ∧ v < 12 by omega), chk_true (by simpa using hE.1), kk_int, chk_true (jj_inb (by omega) (by omega) (by omega)), jj_nat (by omega) (by omega), hE.2.1 v (by omega) q2, jj_long (by omega) (by omega)]
      · rw [if_neg (fun z => q2 (z3.mp z)), if_neg (by omega)]; rfl
  · rw [show chg 42 cs v = -v from rfl, if_neg (show ¬ jj 42 = 21 by decide), if_neg (show ¬ jj 42 = 22 by decide), if_pos (show jj 42 = 42 from rfl), kk_neg]
theorem SEG_chg {m : Int} {c : Nat → Int32} {p q d : Nat} {E : Sm} {k : Int} (h : SEG m c p q d E) (hd : 1 ≤ d) (hB : BV m E) (e : c q = jj (0 * 64 + k)) (hk : k = 21 ∨ k = 22 ∨ k = 23 ∨ k = 42) : SEG m c p (q + 1) d (fun nv cs => chg k cs (E nv cs)) := by
  refine ⟨by have := h.1; omega, fun S N x n fuel t nv cs arr Q hA h1 h2 h3 h4 h5 h6 hk' => ?_⟩
  have hpq := h.1
  refine h.2 S N x n fuel t nv cs arr Q hA (by omega) h2 (fun i a b => h3 i a (by omega)) h4 h5 (by omega) (fun S1 f1 l1 F1 o1 g1 => ?_)
  obtain ⟨f1, rfl⟩ : ∃ f', f1 = f' + 1 := ⟨f1 - 1, by omega⟩
  have b := hB nv cs h4.2.2.2
  rw [q_b4 ((FX_gA F1 x).trans hA) (by omega) h2 ((h3 q (by omega) (by omega)).trans e) (by decide) (by decide) (by omega) (by omega)]
  have body : f_X2_result_b177 (f_X2_result_b4 N x f1) N x (jj ((t + 1 : Nat) : Int)) (jj q) (jj k) S1 = f_X2_result_b4 N x f1 (jj ((t + 1 : Nat) : Int)) (jj ((q + 1 : Nat) : Int)) (sL S1 201 0 t (kk (chg k cs (E nv cs)))) := by
    unfold f_X2_result_b177
    simp only [lt]
    have mx : (if (0 : Int32) < jj ((t + 1 : Nat) : Int) - 1 then jj ((t + 1 : Nat) : Int) - 1 else 0) = jj t := by
      rw [show jj ((t + 1 : Nat) : Int) - 1 = jj t from (jj_sub _ 1).trans (by congr 1; omega)]
      have jl : ((0 : Int32) < jj (t : Int)) = ((0 : Int) < t) := jj_lt (a := 0) (by decide) (by decide) (by omega) (by omega)
      by_cases z : (0 : Int) < t
      · rw [if_pos (jl.mpr z)]
      · rw [if_neg (fun y => z (jl.mp y)), show t = 0 by omega]; rfl
    rw [mx, chk_true (jj_inb (by omega) (by omega) (by omega)), jj_nat (by omega) (by omega), Int.toNat_natCast, g1, bnd_of (q_changed (ENVX_201 F1 h4) hk b.1 b.2), chk_true (jj_inb (by omega) (by omega) (by omega)), show jj (q : Int) + (1 : Int32) = jj ((q + 1 : Nat) : Int) from jn_add q 1]
  have toB : aft N x f1 (jj ((t + 1 : Nat) : Int)) (jj q) (jj k) (jj 0) S1 = f_X2_result_b177 (f_X2_result_b4 N x f1) N x (jj ((t + 1 : Nat) : Int)) (jj q) (jj k) S1 := by
    unfold aft f_X2_result_b156 f_X2_result_b170
    rcases hk with rfl | rfl | rfl | rfl
    · rw [if_neg (by decide), if_neg (by decide), if_pos (by decide), if_neg (by decide), if_pos (by decide)]
    · rw [if_neg (by decide), if_neg (by decide), if_pos (by decide), if_neg (by decide), if_pos (by decide)]
    · rw [if_neg (by decide), if_neg (by decide), if_pos (by decide), if_neg (by decide), if_pos (by decide)]
    · rw [if_neg (by decide), if_neg (by decide), if_neg (by decide), if_pos (by decide), if_neg (by decide), if_neg (by decide), if_pos (by decide)]
  rw [toB, body]
  refine hk' _ _ (by omega) (FX_sL201 F1) (fun i hi => ?_) ?_
  · rw [gL_sL, if_neg (by omega)]; exact o1 i hi
  · rw [gL_sL, if_pos ⟨rfl, rfl, rfl⟩]
