/-! WHAT CODE SAYS: the class's; two, and leaps. -/
def jnd (k a b : Int) : Int := if k = 24 then jop 22 a b else if k = 25 then jop 21 a b else if k ≤ 31 then cop (cpo k) a b else bop (k - 26) a b
def cl64 (v : Int64) : Int64 := if (if v < (1000000 : Int64) then v else (1000000 : Int64)) < (-1000000 : Int64) then (-1000000 : Int64) else (if v < (1000000 : Int64) then v else (1000000 : Int64))
theorem cl64_eq (v : Int64) : cl64 v = kk (clI v.toInt) := by
  have e1 : (v < (1000000 : Int64)) = (v.toInt < 1000000) := by rw [Int64.lt_iff_toInt_lt]; rfl
  have e2 : (v < (-1000000 : Int64)) = (v.toInt < -1000000) := by rw [Int64.lt_iff_toInt_lt]; rfl
  have ev : kk v.toInt = v := Int64.ofInt_toInt v
  unfold cl64 clI
  by_cases q : v.toInt < 1000000
  · rw [if_pos (e1.mpr q)]
    by_cases q2 : v.toInt < -1000000
    · rw [if_pos (e2.mpr q2), if_pos q2]; rfl
    · rw [if_neg (fun z => q2 (e2.mp z)), if_neg q2, if_neg (by omega), ev]
  · rw [if_neg (fun z => q (e1.mp z)), if_neg (by decide), if_neg (by omega)]
    by_cases q2 : 1000000 < v.toInt
    · rw [if_pos q2]; rfl
    · rw [if_neg q2, show v.toInt = 1000000 by omega]; rfl
theorem cl_0 : cl64 0 = kk 0 := by decide +kernel
theorem cl_1 : cl64 1 = kk 1 := by decide +kernel
theorem cl_or {a b : Int} (h1 : a = 0 ∨ a = 1) (h2 : b = 0 ∨ b = 1) : cl64 (kk a ||| kk b) = kk (jnd 24 a b) ∧ cl64 (kk a &&& kk b) = kk (jnd 25 a b) := by
  rcases h1 with rfl | rfl <;> rcases h2 with rfl | rfl <;> decide +kernel
theorem mul_b16 {a b : Int} (a0 : -100000000 ≤ a) (a1 : a ≤ 100000000) (b0 : -100000000 ≤ b) (b1 : b ≤ 100000000) : -10000000000000000 ≤ a * b ∧ a * b ≤ 10000000000000000 := by
  have key : ∀ x y : Int, 0 ≤ x → x ≤ 100000000 → 0 ≤ y → y ≤ 100000000 → 0 ≤ x * y ∧ x * y ≤ 10000000000000000 := fun x y x0 x1 y0 y1 => ⟨Int.mul_nonneg x0 y0, Int.mul_le_mul x1 y1 y0 (by decide)⟩
  rcases Int.le_total 0 a with q | q <;> rcases Int.le_total 0 b with r | r
  · have := key a b q a1 r b1; omega
  · have := key a (-b) q a1 (by omega) (by omega); rw [Int.mul_neg] at this; omega
  · have := key (-a) b (by omega) (by omega) r b1; rw [Int.neg_mul] at this; omega
  · have := key (-a) (-b) (by omega) (by omega) (by omega) (by omega); rw [Int.neg_mul_neg] at this; omega
theorem jnd_c {k a b : Int} (k0 : 26 ≤ k) (k1 : k ≤ 31) : jnd k a b = cop (cpo k) a b := by
  unfold jnd
  rw [if_neg (by omega), if_neg (by omega), if_pos k1]
theorem jnd_v {k a b : Int} (k0 : 32 ≤ k) : jnd k a b = bop (k - 26) a b := by
  unfold jnd
  rw [if_neg (by omega), if_neg (by omega), if_neg (by omega)]
theorem q_joined_c {S : St} {k a b : Int} (k0 : 26 ≤ k) (k1 : k ≤ 31) (a0 : -100000000 ≤ a) (a1 : a ≤ 100000000) (b0 : -100000000 ≤ b) (b1 : b ≤ 100000000) : ∃ v, f_X2_joined S (jj k) (kk a) (kk b) = some v ∧ cl64 v = kk (cop (cpo k) a b) := by
  have lk : (kk a < kk b) = (a < b) := kk_lt (by omega) (by omega) (by omega) (by omega)
  have lk2 : (kk b < kk a) = (b < a) := kk_lt (by omega) (by omega) (by omega) (by omega)
  have lq : (kk a = kk b) = (a = b) := kk_eq (by omega) (by omega) (by omega) (by omega)
  have zl : (lg_cmp (kk a) (kk b) < (0 : Int32)) = (a < b) := by rw [cmp_lt, lk]
  have zg : ((0 : Int32) < lg_cmp (kk a) (kk b)) = (b < a) := by rw [cmp_gt, lk2]
  have ze : (lg_cmp (kk a) (kk b) = (0 : Int32)) = (a = b) := by rw [cmp_zero, lq]
  have zle : (lg_cmp (kk a) (kk b) ≤ (0 : Int32)) = ¬ (b < a) := by rw [cmp_le, lk2]
  have zge : ((0 : Int32) ≤ lg_cmp (kk a) (kk b)) = ¬ (a < b) := by rw [cmp_ge, lk]
  clear lk lk2 lq a0 a1 b0 b1
  have hk : k = 26 ∨ k = 27 ∨ k = 28 ∨ k = 29 ∨ k = 30 ∨ k = 31 := by omega
  clear k0 k1
  unfold f_X2_joined
  rcases hk with rfl | rfl | rfl | rfl | rfl | rfl
  · rw [if_neg (by decide), if_neg (by decide), if_pos (by decide), show cop (cpo 26) a b = (if a ≤ b then 1 else 0) from rfl]
    by_cases q : b < a
    · rw [if_pos (zg.mpr q), if_neg (by omega)]; exact ⟨_, rfl, cl_0⟩
    · rw [if_neg (fun z => q (zg.mp z)), if_pos (by omega)]; exact ⟨_, rfl, cl_1⟩
  · rw [if_neg (by decide), if_neg (by decide), if_neg (by decide), if_pos (by decide), show cop (cpo 27) a b = (if b ≤ a then 1 else 0) from rfl]
    by_cases q : a < b
    · rw [if_pos (zl.mpr q), if_neg (by omega)]; exact ⟨_, rfl, cl_0⟩
    · rw [if_neg (fun z => q (zl.mp z)), if_pos (by omega)]; exact ⟨_, rfl, cl_1⟩
  · rw [if_neg (by decide), if_neg (by decide), if_neg (by decide), if_neg (by decide), if_pos (by decide), show cop (cpo 28) a b = (if a < b then 1 else 0) from rfl]
    by_cases q : a < b
    · rw [if_neg (fun z => zge.mp z q), if_pos q]; exact ⟨_, rfl, cl_1⟩
    · rw [if_pos (zge.mpr q), if_neg q]; exact ⟨_, rfl, cl_0⟩
  · rw [if_neg (by decide), if_neg (by decide), if_neg (by decide), if_neg (by decide), if_neg (by decide), if_pos (by decide), show cop (cpo 29) a b = (if b < a then 1 else 0) from rfl]
    by_cases q : b < a
    · rw [if_neg (fun z => zle.mp z q), if_pos q]; exact ⟨_, rfl, cl_1⟩
    · rw [if_pos (zle.mpr q), if_neg q]; exact ⟨_, rfl, cl_0⟩
  · rw [if_neg (by decide), if_neg (by decide), if_neg (by decide), if_neg (by decide), if_neg (by decide), if_neg (by decide), if_pos (by decide), show cop (cpo 30) a b = (if a = b then 1 else 0) from rfl]
    by_cases q : a = b
    · rw [if_pos (ze.mpr q), if_pos q]; exact ⟨_, rfl, cl_1⟩
    · rw [if_neg (fun z => q (ze.mp z)), if_neg q]; exact ⟨_, rfl, cl_0⟩
  · rw [if_neg (by decide), if_neg (by decide), if_neg (by decide), if_neg (by decide), if_neg (by decide), if_neg (by decide), if_neg (by decide), if_pos (by decide), show cop (cpo 31) a b = (if a = b then 0 else 1) from rfl]
    by_cases q : a = b
    · rw [if_pos (ze.mpr q), if_pos q]; exact ⟨_, rfl, cl_0⟩
    · rw [if_neg (fun z => q (ze.mp z)), if_neg q]; exact ⟨_, rfl, cl_1⟩
theorem q_joined_v {S : St} {k a b : Int} (k0 : 32 ≤ k) (k1 : k ≤ 35) (a0 : -100000000 ≤ a) (a1 : a ≤ 100000000) (b0 : -100000000 ≤ b) (b1 : b ≤ 100000000) : ∃ v, f_X2_joined S (jj k) (kk a) (kk b) = some v ∧ cl64 v = kk (bop (k - 26) a b) := by
  have zb : (lg_cmp (kk b) (0 : Int64) = (0 : Int32)) = (b = 0) := by rw [cmp_zero, show (0 : Int64) = kk 0 from rfl, kk_eq (by omega) (by omega) (by decide) (by decide)]
  have m1 := mul_b16 a0 a1 b0 b1
  have t1 : (kk (a + b)).toInt = a + b := kk_toInt (by omega) (by omega)
  have t2 : (kk (a - b)).toInt = a - b := kk_toInt (by omega) (by omega)
  have t3 : (kk (a * b)).toInt = a * b := kk_toInt (by omega) (by omega)
  have nzb : b ≠ 0 → nzL (kk b) = true := by
    intro q
    unfold nzL
    have : ¬ kk b = 0 := by rw [show (0 : Int64) = kk 0 from rfl, kk_eq (by omega) (by omega) (by decide) (by decide)]; exact q
    rw [decide_eq_false this]
    rfl
  clear a0 a1 b0 b1 m1
  have hk : k = 32 ∨ k = 33 ∨ k = 34 ∨ k = 35 := by omega
  clear k0 k1
  unfold f_X2_joined
  rcases hk with rfl | rfl | rfl | rfl
  · rw [if_neg (by decide), if_neg (by decide), if_neg (by decide), if_neg (by decide), if_neg (by decide), if_neg (by decide), if_neg (by decide), if_neg (by decide), if_pos (by decide), kk_add]
    refine ⟨_, rfl, ?_⟩
    rw [cl64_eq, t1, show (32 : Int) - 26 = 6 from rfl]
    unfold bop
    rw [if_pos rfl]
  · rw [if_neg (by decide), if_neg (by decide), if_neg (by decide), if_neg (by decide), if_neg (by decide), if_neg (by decide), if_neg (by decide), if_neg (by decide), if_neg (by decide), if_pos (by decide), kk_sub]
    refine ⟨_, rfl, ?_⟩
    rw [cl64_eq, t2, show (33 : Int) - 26 = 7 from rfl]
    unfold bop
    rw [if_neg (by decide), if_pos rfl]
  · rw [if_neg (by decide), if_neg (by decide), if_neg (by decide), if_neg (by decide), if_neg (by decide), if_neg (by decide), if_neg (by decide), if_neg (by decide), if_neg (by decide), if_neg (by decide), if_pos (by decide), kk_mul]
    refine ⟨_, rfl, ?_⟩
    rw [cl64_eq, t3, show (34 : Int) - 26 = 8 from rfl]
    unfold bop
    rw [if_neg (by decide), if_neg (by decide), if_pos rfl]
  · rw [if_neg (by decide), if_neg (by decide), if_neg (by decide), if_neg (by decide), if_neg (by decide), if_neg (by decide), if_neg (by decide), if_neg (by decide), if_neg (by decide), if_neg (by decide), if_neg (by decide), show (35 : Int) - 26 = 9 from rfl]
    unfold bop
    rw [if_neg (show ¬ (9 : Int) = 6 by decide), if_neg (show ¬ (9 : Int) = 7 by decide), if_neg (show ¬ (9 : Int) = 8 by decide)]
    by_cases q : b = 0
    · rw [if_pos (zb.mpr q), if_pos q]; exact ⟨_, rfl, cl_0⟩
    · rw [if_neg (fun z => q (zb.mp z)), if_neg q, chk_true (nzb q)]
      exact ⟨_, rfl, cl64_eq _⟩
theorem q_joined {S : St} {k a b : Int} (k0 : 24 ≤ k) (k1 : k ≤ 35) (a0 : -100000000 ≤ a) (a1 : a ≤ 100000000) (b0 : -100000000 ≤ b) (b1 : b ≤ 100000000) (ht : k ≤ 25 → (a = 0 ∨ a = 1) ∧ (b = 0 ∨ b = 1)) : ∃ v, f_X2_joined S (jj k) (kk a) (kk b) = some v ∧ cl64 v = kk (jnd k a b) := by
  by_cases q : k ≤ 25
  · obtain ⟨h1, h2⟩ := ht q
    have hk : k = 24 ∨ k = 25 := by omega
    clear k0 k1 q ht a0 a1 b0 b1
    unfold f_X2_joined
    rcases hk with rfl | rfl
    · rw [if_pos (by decide)]
      exact ⟨_, rfl, (cl_or h1 h2).1⟩
    · rw [if_neg (by decide), if_pos (by decide)]
      exact ⟨_, rfl, (cl_or h1 h2).2⟩
  · by_cases q2 : k ≤ 31
    · rw [jnd_c (by omega) q2]
      exact q_joined_c (by omega) q2 a0 a1 b0 b1
    · rw [jnd_v (by omega)]
      exact q_joined_v (by omega) k1 a0 a1 b0 b1
theorem SEG_two {m : Int} {c : Nat → Int32} {p q r d1 d2 d : Nat} {E1 E2 : Sm} {k : Int} (h : SEG m c p q d1 E1) (g : SEG m c q r d2 E2) (hd1 : d1 ≤ d) (hd2 : d2 + 1 ≤ d) (hd : 1 ≤ d2) (hB : BV m E1) (hB2 : BV m E2) (e : c r = jj (0 * 64 + k)) (k0 : 24 ≤ k) (k1 : k ≤ 35) (ht : k ≤ 25 → BT m E1 ∧ BT m E2) : SEG m c p (r + 1) d (fun nv cs => jnd k (E1 nv cs) (E2 nv cs)) := by
  have hpq := h.1
  have hqr := g.1
  refine ⟨by omega, fun S N x n fuel t nv cs arr Q hA h1 h2 h3 h4 h5 h6 hk' => ?_⟩
  refine h.2 S N x n fuel t nv cs arr Q hA (by omega) h2 (fun i a b => h3 i a (by omega)) h4 (by omega) (by omega) (fun S1 f1 l1 F1 o1 g1 => ?_)
  refine g.2 S1 N x n f1 (t + 1) nv cs arr Q ((FX_gA F1 x).trans hA) (by omega) h2 (fun i a b => h3 i (by omega) (by omega)) (ENVX_201 F1 h4) (by omega) (by omega) (fun S2 f2 l2 F2 o2 g2 => ?_)
  obtain ⟨f2, rfl⟩ : ∃ f', f2 = f' + 1 := ⟨f2 - 1, by omega⟩
  have b := hB nv cs h4.2.2.2
  have b2 := hB2 nv cs h4.2.2.2
  obtain ⟨v, ev, cv⟩ := q_joined (S := S2) k0 k1 b.1 b.2 b2.1 b2.2 (fun z => ⟨(ht z).1 nv cs h4.2.2.2, (ht z).2 nv cs h4.2.2.2⟩)
  rw [q_b4 ((FX_gA F2 x).trans ((FX_gA F1 x).trans hA)) (by omega) h2 ((h3 r (by omega) (by omega)).trans e) (by decide) (by decide) (by omega) (by omega)]
  unfold aft
  have mx : (if (0 : Int32) < jj ((t + 1 + 1 : Nat) : Int) - 2 then jj ((t + 1 + 1 : Nat) : Int) - 2 else 0) = jj t := by
    rw [show jj ((t + 1 + 1 : Nat) : Int) - 2 = jj t from (jj_sub _ 2).trans (by congr 1; omega)]
    have jl : ((0 : Int32) < jj (t : Int)) = ((0 : Int) < t) := jj_lt (a := 0) (by decide) (by decide) (by omega) (by omega)
    by_cases z : (0 : Int) < t
    · rw [if_pos (jl.mpr z)]
    · rw [if_neg (fun y => z (jl.mp y)), show t = 0 by omega]; rfl
  rw [if_neg (jk_eq (by omega) (by omega) 44 (by decide) (by omega)), if_neg (jk_eq (by omega) (by omega) 43 (by decide) (by omega)), if_neg (show ¬ jj k < (24 : Int32) by rw [show (24 : Int32) = jj 24 from rfl, jj_lt (by omega) (by omega) (by decide) (by decide)]; omega), if_neg (show ¬ (35 : Int32) < jj k by rw [show (35 : Int32) = jj 35 from rfl, jj_lt (by decide) (by decide) (by omega) (by omega)]; omega)]
  simp only [lt]
  rw [mx, chk_true (jj_inb (by omega) (by omega) (by omega)), show jj (t : Int) + (1 : Int32) = jj ((t + 1 : Nat) : Int) from jn_add t 1, chk_true (jj_inb (by omega) (by omega) (by omega)), jj_nat (a := (t : Int)) (by omega) (by omega), jj_nat (a := ((t + 1 : Nat) : Int)) (by omega) (by omega), Int.toNat_natCast, Int.toNat_natCast, g2, o2 t (by omega), g1, bnd_of ev, show (if (if v < (1000000 : Int64) then v else (1000000 : Int64)) < (-1000000 : Int64) then (-1000000 : Int64) else (if v < (1000000 : Int64) then v else (1000000 : Int64))) = kk (jnd k (E1 nv cs) (E2 nv cs)) from cv, chk_true (jj_inb (by omega) (by omega) (by omega)), show jj (r : Int) + (1 : Int32) = jj ((r + 1 : Nat) : Int) from jn_add r 1]
  refine hk' _ _ (by omega) (FX_sL201 (FX_trans F1 F2)) (fun i hi => ?_) ?_
  · rw [gL_sL, if_neg (by omega), o2 i (by omega)]; exact o1 i hi
  · rw [gL_sL, if_pos ⟨rfl, rfl, rfl⟩]
theorem SEG_if {m : Int} {c : Nat → Int32} {p q r s d0 d1 d2 d : Nat} {E0 E1 E2 : Sm} (h : SEG m c p q d0 E0) (g : SEG m c (q + 1) r d1 E1) (k : SEG m c (r + 1) s d2 E2) (hd0 : d0 ≤ d) (hd1 : d1 ≤ d) (hd2 : d2 ≤ d) (hd : 1 ≤ d0) (hB : BV m E0) (e : c q = jj (((r + 1 : Nat) : Int) * 64 + 43)) (e2 : c r = jj ((s : Int) * 64 + 44)) (hs : s ≤ 300) : SEG m c p s d (fun nv cs => sel (E0 nv cs) (E1 nv cs) (E2 nv cs)) := by
  have hpq := h.1
  have hqr := g.1
  have hrs := k.1
  refine ⟨by omega, fun S N x n fuel t nv cs arr Q hA h1 h2 h3 h4 h5 h6 hk' => ?_⟩
  refine h.2 S N x n fuel t nv cs arr Q hA (by omega) h2 (fun i a b => h3 i a (by omega)) h4 (by omega) (by omega) (fun S1 f1 l1 F1 o1 g1 => ?_)
  obtain ⟨f1, rfl⟩ : ∃ f', f1 = f' + 1 := ⟨f1 - 1, by omega⟩
  have b := hB nv cs h4.2.2.2
  have hA1 := (FX_gA F1 x).trans hA
  rw [q_b4 hA1 (by omega) h2 ((h3 q (by omega) (by omega)).trans e) (by omega) (by omega) (by decide) (by decide)]
  unfold aft
  have mx : (if (0 : Int32) < jj ((t + 1 : Nat) : Int) - 1 then jj ((t + 1 : Nat) : Int) - 1 else 0) = jj t := by
    rw [show jj ((t + 1 : Nat) : Int) - 1 = jj t from (jj_sub _ 1).trans (by congr 1; omega)]
    have jl : ((0 : Int32) < jj (t : Int)) = ((0 : Int) < t) := jj_lt (a := 0) (by decide) (by decide) (by omega) (by omega)
    by_cases z : (0 : Int) < t
    · rw [if_pos (jl.mpr z)]
    · rw [if_neg (fun y => z (jl.mp y)), show t = 0 by omega]; rfl
  have leap : (if jj (q : Int) < jj ((r + 1 : Nat) : Int) - (1 : Int32) then jj ((r + 1 : Nat) : Int) - (1 : Int32) else jj (q : Int)) + 1 = jj ((r + 1 : Nat) : Int) := by
    rw [show jj ((r + 1 : Nat) : Int) - (1 : Int32) = jj r from (jj_sub _ 1).trans (by congr 1; omega), if_pos (show jj (q : Int) < jj (r : Int) by rw [jj_lt (by omega) (by omega) (by omega) (by omega)]; omega), show jj (r : Int) + (1 : Int32) = jj ((r + 1 : Nat) : Int) from jn_add r 1]
  rw [if_neg (by decide), if_pos (by decide), leap]
  simp only [lt]
  rw [mx, chk_true (jj_inb (by omega) (by omega) (by omega)), jj_nat (by omega) (by omega), Int.toNat_natCast, g1, show jj (q : Int) + (1 : Int32) = jj ((q + 1 : Nat) : Int) from jn_add q 1]
  have z0 : (lg_cmp (kk (E0 nv cs)) (0 : Int64) = (0 : Int32)) = (E0 nv cs = 0) := by rw [cmp_zero, show (0 : Int64) = kk 0 from rfl, kk_eq (by omega) (by omega) (by decide) (by decide)]
  unfold sel at hk'
  by_cases z : E0 nv cs = 0
  · rw [if_pos (z0.mpr z)]
    refine k.2 S1 N x n f1 t nv cs arr Q hA1 (by omega) h2 (fun i a b => h3 i (by omega) (by omega)) (ENVX_201 F1 h4) (by omega) (by omega) (fun S2 f2 l2 F2 o2 g2 => ?_)
    refine hk' S2 f2 (by omega) (FX_trans F1 F2) (fun i hi => (o2 i hi).trans (o1 i hi)) ?_
    simp only [z, if_true]
    exact g2
  · rw [if_neg (fun y => z (z0.mp y))]
    refine g.2 S1 N x n f1 t nv cs arr Q hA1 (by omega) h2 (fun i a b => h3 i (by omega) (by omega)) (ENVX_201 F1 h4) (by omega) (by omega) (fun S2 f2 l2 F2 o2 g2 => ?_)
    obtain ⟨f2, rfl⟩ : ∃ f', f2 = f' + 1 := ⟨f2 - 1, by omega⟩
    rw [q_b4 ((FX_gA F2 x).trans hA1) (by omega) h2 ((h3 r (by omega) (by omega)).trans e2) (by omega) (by omega) (by decide) (by decide)]
    unfold aft
    have leap2 : (if jj (r : Int) < jj (s : Int) - (1 : Int32) then jj (s : Int) - (1 : Int32) else jj (r : Int)) + 1 = jj (s : Int) := by
      have jl : (jj (r : Int) < jj ((s : Int) - 1)) = ((r : Int) < s - 1) := jj_lt (by omega) (by omega) (by omega) (by omega)
      rw [show jj (s : Int) - (1 : Int32) = jj ((s : Int) - 1) from jj_sub _ 1]
      by_cases y : (r : Int) < s - 1
      · rw [if_pos (jl.mpr y)]; exact (jj_add _ 1).trans (by congr 1; omega)
      · rw [if_neg (fun z => y (jl.mp z))]; exact (jj_add _ 1).trans (by congr 1; omega)
    rw [if_pos (by decide), leap2]
    refine hk' S2 f2 (by omega) (FX_trans F1 F2) (fun i hi => (o2 i hi).trans (o1 i hi)) ?_
    simp only [z, if_false]
    exact g2
/-- a whole law -/
theorem SEG_EVA {m : Int} {c : Nat → Int32} {n d : Nat} {E : Sm} (h : SEG m c 0 n d E) (hn : n ≤ 300) (hd : d ≤ 63) (hB : BV m E) : EVA m n c E := by
  intro S x N nv cs hN hA hE
  have b := hB nv cs hE.2.2.2
  refine ⟨b.1, b.2, ?_⟩
  have := h.2 S N x n N 0 nv cs c (fun r => r.1 = kk (E nv cs) ∧ FX (fun f _ => f = 201) S r.2) hA (by omega) hn (fun _ _ _ => rfl) hE (by omega) (by omega) (fun S' f' l F o g => by
    obtain ⟨f', rfl⟩ : ∃ f2, f' = f2 + 1 := ⟨f' - 1, by omega⟩
    rw [f_X2_result_b4, bnd_of (gA_gN ((FX_gA F x).trans hA)), if_pos (by rw [nat_jj]; exact Int32.le_refl _)]
    exact wp_some ⟨g, F⟩)
  obtain ⟨⟨v, S'⟩, e1, e2, e3⟩ := this
  simp only at e2 e3
  rw [e2] at e1
  exact ⟨S', e1, e3⟩
