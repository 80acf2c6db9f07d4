theorem r_run {L N x e : Nat} {m : Int} {nv cs : Int → Int} (hL : L < 4) (hm : m ≤ 8) (hx : x + 2 < 2724) (he2 : e ≤ 300) (hE : ENVB m nv cs) : ∀ (C : List (Int × Int)) (w : Nat) (vs ts : List Int) (r : List Int × List Int) (S : St) (fuel : Nat), runS nv cs C vs ts = some r → CDA S L w C → (∀ c ∈ C, CV m c) → w + C.length = e → gI S 1002 0 (x + 2) = jj (e : Int) → (∀ k : Int, 0 ≤ k → k < m → gI S 1020 0 k.toNat = jj (nv k)) → (∀ i : Int, 0 ≤ i → i < 12 → gI S 1000 0 (11 + i).toNat = jj (cs i)) → VAL S vs → TRU S ts → BDV vs → BDT ts → vs.length + C.length ≤ 320 → ts.length + C.length ≤ 320 → C.length < fuel → ∃ S1, f_X10_summedUp_b38 N fuel (jj (x : Int)) (jj ((681 * L + 73 : Nat) : Int)) (jj (vs.length : Int)) (jj (ts.length : Int)) (jj (w : Int)) S = some (gL S1 1021 0 0, S1) ∧ VAL S1 r.1 ∧ FX RFX S S1 := by
  intro C
  induction C with
  | nil =>
    intro w vs ts r S fuel hr hC hv hw he hn hc hV hT bV bT l1 l2 hf
    obtain ⟨fuel, rfl⟩ : ∃ f', fuel = f' + 1 := ⟨fuel - 1, by omega⟩
    have : (vs, ts) = r := Option.some.inj hr
    subst this
    simp only [List.length_nil] at hw
    refine ⟨S, ?_, hV, FX_refl _ _⟩
    rw [f_X10_summedUp_b38, show jj (x : Int) + (2 : Int32) = jj ((x + 2 : Nat) : Int) from jn_add x 2, chk_true (jj_inb (by omega) (by omega) (by omega)), jj_nat (by omega) (by omega), Int.toNat_natCast, he, if_pos (show jj (e : Int) ≤ jj (w : Int) by rw [jj_le (by omega) (by omega) (by omega) (by omega)]; omega)]
  | cons c C ih =>
    intro w vs ts r S fuel hr hC hv hw he hn hc hV hT bV bT l1 l2 hf
    obtain ⟨fuel, rfl⟩ : ∃ f', fuel = f' + 1 := ⟨fuel - 1, by omega⟩
    simp only [List.length_cons] at hw l1 l2 hf
    obtain ⟨c, d⟩ := c
    have g := hC 0 (c, d) rfl
    simp only [Nat.add_zero] at g
    have hr : bnd (stpS nv cs (c, d) vs ts) (fun q => runS nv cs C q.1 q.2) = some r := hr
    cases hq : stpS nv cs (c, d) vs ts with
    | none => rw [hq] at hr; exact absurd hr (by simp [bnd])
    | some q =>
      obtain ⟨vs', ts'⟩ := q
      rw [bnd_of hq] at hr
      rw [q_b38 hL g.1 g.2 hx he (by omega) he2]
      obtain ⟨S1, e1, v1, t1, bv1, bt1, lv1, lt1, F1⟩ := r_step (N := N) (n := fuel) (w := w) (x3 := jj (x : Int)) (x4 := jj ((681 * L + 73 : Nat) : Int)) hq (hv _ (List.mem_cons_self ..)) hm hn hc hE hV hT bV bT (by omega) (by omega)
      rw [e1]
      have k2 : ∀ k, gI S1 1002 0 k = gI S 1002 0 k := fun k => F1.1 1002 0 k (by unfold RFX; omega)
      obtain ⟨S2, e2, v2, F2⟩ := ih (w + 1) vs' ts' r S1 fuel hr (fun k c hc => by
        have := hC (k + 1) c (by simpa using hc)
        rw [k2, k2, show w + 1 + k = w + (k + 1) by omega]
        exact this) (fun c hc => hv c (List.mem_cons_of_mem _ hc)) (by omega) ((k2 _).trans he) (fun k a b => (F1.1 1020 0 _ (by unfold RFX; omega)).trans (hn k a b)) (fun i a b => (F1.1 1000 0 _ (by unfold RFX; omega)).trans (hc i a b)) v1 t1 bv1 bt1 (by omega) (by omega) (by omega)
      exact ⟨S2, e2, v2, FX_trans F1 F2⟩
theorem r_cut {S : St} {v top : Int} (v0 : -100000000 ≤ v) (v1 : v ≤ 100000000) (t0 : 0 ≤ top) (t1 : top ≤ 100000000) : f_X10_cut S (kk v) 0 (jj top) = some (jj (if v < 0 then 0 else if top < v then top else v)) := by
  have e1 : ((0 : Int32) ≤ lg_cmp (kk v) ((0 : Int32).toInt64)) = ¬ (v < 0) := by
    rw [cmp_ge, show (0 : Int32).toInt64 = kk 0 from rfl, kk_lt (by omega) (by omega) (by decide) (by decide)]
  have e2 : (lg_cmp (kk v) ((jj top).toInt64) ≤ (0 : Int32)) = ¬ (top < v) := by
    rw [cmp_le, jj_long (by omega) (by omega), kk_lt (by omega) (by omega) (by omega) (by omega)]
  unfold f_X10_cut
  by_cases q : v < 0
  · rw [if_neg (fun z => e1.mp z q), if_pos q]; rfl
  · rw [if_pos (e1.mpr q), if_neg q]
    by_cases q2 : top < v
    · rw [if_neg (fun z => e2.mp z q2), if_pos q2]
    · rw [if_pos (e2.mpr q2), if_neg q2, kk_int]
/-- a clause that is a law: its code stands at w, as long as C -/
def LAWC (S : St) (L k w : Nat) (C : List (Int × Int)) : Prop := gI S 1002 0 (681 * L + 1 + 3 * k + 1) = jj (w : Int) ∧ gI S 1002 0 (681 * L + 1 + 3 * k + 2) = jj ((w + C.length : Nat) : Int) ∧ CDA S L w C ∧ w + C.length ≤ 300
theorem r_summedUp {L N k w : Nat} {m : Int} {nv cs : Int → Int} {S : St} {C : List (Int × Int)} {E : Sm} (hN : 4000 < N) (hL : L < 4) (hk : k < 24) (hm : m ≤ 8) (hE : ENVB m nv cs) (hW : LAWC S L k w C) (hv : ∀ c ∈ C, CV m c) (hM : SM C E) (hn : ∀ k : Int, 0 ≤ k → k < m → gI S 1020 0 k.toNat = jj (nv k)) (hc : ∀ i : Int, 0 ≤ i → i < 12 → gI S 1000 0 (11 + i).toNat = jj (cs i)) : ∃ S1, f_X10_summedUp N S (jj (L : Int)) (jj (k : Int)) = some (kk (E nv cs), S1) ∧ FX RFX S S1 := by
  obtain ⟨w1, w2, w3, w4⟩ := hW
  have i1 : (681 : Int32) * jj (L : Int) + (1 : Int32) + (3 : Int32) * jj (k : Int) = jj ((681 * L + 1 + 3 * k : Nat) : Int) := by
    rw [show (681 : Int32) = jj 681 from rfl, show (1 : Int32) = jj 1 from rfl, show (3 : Int32) = jj 3 from rfl, jj_mul, jj_mul, jj_add, jj_add]
    congr 1
  have i2 : (681 : Int32) * jj (L : Int) + (73 : Int32) = jj ((681 * L + 73 : Nat) : Int) := by
    rw [show (681 : Int32) = jj 681 from rfl, show (73 : Int32) = jj 73 from rfl, jj_mul, jj_add]
    congr 1
  obtain ⟨S1, e1, v1, F1⟩ := r_run (N := N) (x := 681 * L + 1 + 3 * k) (e := w + C.length) hL hm (by omega) w4 hE C w [] [] _ S N (hM nv cs [] []) w3 hv rfl w2 hn hc trivial trivial (fun x hx => absurd hx List.not_mem_nil) (fun x hx => absurd hx List.not_mem_nil) (by simp only [List.length_nil]; omega) (by simp only [List.length_nil]; omega) (by omega)
  refine ⟨S1, ?_, F1⟩
  unfold f_X10_summedUp
  simp only [lt]
  rw [i1, i2, show jj ((681 * L + 1 + 3 * k : Nat) : Int) + (1 : Int32) = jj ((681 * L + 1 + 3 * k + 1 : Nat) : Int) from jn_add _ 1, chk_true (jj_inb (by omega) (by omega) (by omega)), jj_nat (by omega) (by omega), Int.toNat_natCast, w1]
  have e1 : f_X10_summedUp_b38 N N (jj ((681 * L + 1 + 3 * k : Nat) : Int)) (jj ((681 * L + 73 : Nat) : Int)) 0 0 (jj (w : Int)) S = some (gL S1 1021 0 0, S1) := e1
  rw [e1]
  have v1 : gL S1 1021 0 0 = kk (E nv cs) := v1.1
  rw [v1]
/-- which clause says a law -/
theorem r_says {L N nc : Nat} {S : St} {sort w top : Int} {kd : Nat → Int} (hL : L < 4) (hnc : nc ≤ 24) (h0 : gI S 1002 0 (681 * L) = jj (nc : Int)) (hk : ∀ k, k < nc → gI S 1002 0 (681 * L + 1 + 3 * k) = jj (kd k) ∧ 0 ≤ kd k ∧ kd k ≤ 9) (s0 : 0 ≤ sort) (s1 : sort ≤ 9) : ∀ (m k fuel : Nat), k + m = nc → m < fuel → (∀ j, k ≤ j → j < nc → kd j ≠ sort) ∧ f_X10_says_b3 N fuel (jj (L : Int)) (jj sort) (jj w) (jj top) (jj (k : Int)) S = f_X10_says_b63 N (jj w) (jj top) S ∨ ∃ j, k ≤ j ∧ j < nc ∧ kd j = sort ∧ (∀ i, k ≤ i → i < j → kd i ≠ sort) ∧ f_X10_says_b3 N fuel (jj (L : Int)) (jj sort) (jj w) (jj top) (jj (k : Int)) S = (bnd (f_X10_summedUp N S (jj (L : Int)) (jj (j : Int))) fun q5 => bnd (f_X10_cut q5.2 q5.1 (0 : Int32) (jj top)) fun q6 => some (q6, q5.2)) := by
  have i0 : (681 : Int32) * jj (L : Int) = jj ((681 * L : Nat) : Int) := by
    rw [show (681 : Int32) = jj 681 from rfl, jj_mul]
    congr 1
  have nL : (jj ((681 * L : Nat) : Int)).toNatClampNeg = 681 * L := by rw [jj_nat (by omega) (by omega), Int.toNat_natCast]
  have l0 : ¬ jj (L : Int) < (0 : Int32) := by rw [show (0 : Int32) = jj 0 from rfl, jj_lt (by omega) (by omega) (by decide) (by decide)]; omega
  intro m
  induction m with
  | zero =>
    intro k fuel hm hf
    obtain ⟨fuel, rfl⟩ : ∃ f', fuel = f' + 1 := ⟨fuel - 1, by omega⟩
    refine Or.inl ⟨fun j a b => by omega, ?_⟩
    rw [f_X10_says_b3, if_neg l0, i0, chk_true (jj_inb (by omega) (by omega) (by omega)), nL, h0, if_pos (show jj (nc : Int) ≤ jj (k : Int) by rw [jj_le (by omega) (by omega) (by omega) (by omega)]; omega)]
  | succ m ih =>
    intro k fuel hm hf
    obtain ⟨fuel, rfl⟩ : ∃ f', fuel = f' + 1 := ⟨fuel - 1, by omega⟩
    obtain ⟨k1, k2, k3⟩ := hk k (by omega)
    have i1 : jj ((681 * L : Nat) : Int) + (1 : Int32) + (3 : Int32) * jj (k : Int) = jj ((681 * L + 1 + 3 * k : Nat) : Int) := by
      rw [show (1 : Int32) = jj 1 from rfl, show (3 : Int32) = jj 3 from rfl, jj_mul, jj_add, jj_add]
      congr 1
    have js : (jj (kd k) = jj sort) = (kd k = sort) := jj_eq (by omega) (by omega) (by omega) (by omega)
    rw [f_X10_says_b3, if_neg l0, i0, chk_true (jj_inb (by omega) (by omega) (by omega)), nL, h0, if_neg (show ¬ jj (nc : Int) ≤ jj (k : Int) by rw [jj_le (by omega) (by omega) (by omega) (by omega)]; omega), i1, chk_true (jj_inb (by omega) (by omega) (by omega)), jj_nat (by omega) (by omega), Int.toNat_natCast, k1]
    by_cases q : kd k = sort
    · rw [if_pos (js.mpr q)]
      exact Or.inr ⟨k, Nat.le_refl _, by omega, q, fun i a b => by omega, rfl⟩
    · rw [if_neg (fun z => q (js.mp z))]
      simp only [lt]
      rw [up9]
      rcases ih (k + 1) fuel (by omega) (by omega) with ⟨a1, a2⟩ | ⟨j, a1, a2, a3, a4, a5⟩
      · refine Or.inl ⟨fun j b c => ?_, a2⟩
        by_cases z : j = k
        · rw [z]; exact q
        · exact a1 j (by omega) c
      · refine Or.inr ⟨j, by omega, a2, a3, fun i b c => ?_, a5⟩
        by_cases z : i = k
        · rw [z]; exact q
        · exact a4 i (by omega) c
