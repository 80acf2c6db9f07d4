/-! WHAT CODE SAYS: the reference's, run by its machine. -/
def CV (m : Int) (c : Int × Int) : Prop := (c.1 = 0 ∧ 0 ≤ c.2 ∧ c.2 ≤ 9999) ∨ (c.1 = 1 ∧ 0 ≤ c.2 ∧ c.2 < m) ∨ (2 ≤ c.1 ∧ c.1 ≤ 22)
def OPV (x : Int) : Prop := (2 ≤ x ∧ x ≤ 22) ∨ 40 ≤ x
def APD (m : Int) (D0 D : List (Int × Int)) : Prop := ∃ D1, D = D0 ++ D1 ∧ ∀ c ∈ D1, CV m c
theorem APD_add {m : Int} {D0 D : List (Int × Int)} {c : Int × Int} (h : APD m D0 D) (hc : CV m c) : APD m D0 (D ++ [c]) := by
  obtain ⟨D1, e, h1⟩ := h
  refine ⟨D1 ++ [c], by rw [e, List.append_assoc], fun y hy => ?_⟩
  rcases List.mem_append.mp hy with z | z
  · exact h1 y z
  · rw [List.mem_singleton.mp z]; exact hc
theorem stl_CV {m r : Int} {D0 : List (Int × Int)} (hr : 1 ≤ r) : ∀ (P : List Int) (D : List (Int × Int)) (o : Int), (∀ x ∈ P, OPV x) → APD m D0 D → APD m D0 (stl r P D o).2.1 := by
  intro P
  induction P with
  | nil => intro D o _ h; exact h
  | cons x P ih =>
    intro D o hP h
    by_cases q : r ≤ rk x
    · rw [stl_pop q]
      have hx := hP x (List.mem_cons_self ..)
      have := rk_lt (show 1 ≤ rk x by omega)
      refine ih _ _ (fun y hy => hP y (List.mem_cons_of_mem _ hy)) (APD_add h (Or.inr (Or.inr ?_)))
      unfold OPV at hx
      show 2 ≤ x ∧ x ≤ 22
      omega
    · rw [stl_stop (by omega)]
      exact h
theorem itR_CV {K : Ks} {D0 : List (Int × Int)} (hT : TS K) : ∀ (fuel : Nat) (s : Ps) (wh : Int) (i : Nat) (f : Int) (j : Nat) (D' : List (Int × Int)), APD (mk8 K) D0 s.2.1 → (∀ x ∈ s.1, OPV x) → itR K fuel s wh i = some (f, j, D') → APD (mk8 K) D0 D' := by
  intro fuel
  induction fuel with
  | zero => intro s wh i f j D' _ _ he; exact absurd he (by simp [itR])
  | succ fuel ih =>
    intro s wh i f j D' hA hO he
    have nb := hT.2.2.2.2.2.1 i
    have same : ∀ {f' : Int} {E : List (Int × Int)}, some (f', i, E) = some (f, j, D') → APD (mk8 K) D0 E → APD (mk8 K) D0 D' := fun e h => by
      have := congrArg (·.2.2) (Option.some.inj e)
      simp only at this
      rw [← this]; exact h
    have tl : ∀ x ∈ (stl 1 s.1 s.2.1 s.2.2).1.tail, OPV x := fun x hx => hO x ((stl_len (m := 1) s.1 s.2.1 s.2.2).2.2.2.2 x (List.mem_of_mem_tail hx))
    have A1 := stl_CV (r := 1) (by decide) s.1 s.2.1 s.2.2 hO hA
    rw [itR] at he
    by_cases q0 : wh = 0
    · rw [if_pos q0] at he
      by_cases q39 : K.1 i = 39
      · rw [if_pos q39] at he
        by_cases q9 : 9999 < K.2.1 i
        · rw [if_pos q9] at he; exact same he hA
        · rw [if_neg q9] at he
          exact ih _ 1 (i + 1) f j D' (stl_CV (by decide) _ _ _ hO (APD_add hA (Or.inl ⟨rfl, nb.1, by show K.2.1 i ≤ 9999; omega⟩))) (fun x hx => hO x ((stl_len _ _ _).2.2.2.2 x hx)) he
      · rw [if_neg q39] at he
        by_cases qn : 0 ≤ nmo (K.1 i)
        · rw [if_pos qn] at he
          by_cases q5 : 3 < nmo (K.1 i) ∧ K.2.2.2.2 ≠ 0
          · rw [if_pos q5] at he; exact same he hA
          · rw [if_neg q5] at he
            have nm := nmo_b (K.1 i)
            have km : nmo (K.1 i) < mk8 K := by unfold mk8; split <;> omega
            exact ih _ 1 (i + 1) f j D' (stl_CV (by decide) _ _ _ hO (APD_add hA (Or.inr (Or.inl ⟨rfl, qn, km⟩)))) (fun x hx => hO x ((stl_len _ _ _).2.2.2.2 x hx)) he
        · rw [if_neg qn] at he
          by_cases qo : opc s.1 (K.1 i) < 0
          · rw [if_pos qo] at he; exact same he hA
          · rw [if_neg qo] at he
            by_cases q8 : s.2.2 = 8
            · rw [if_pos q8] at he; exact same he hA
            · rw [if_neg q8] at he
              by_cases ql : s.1.length < 160
              · rw [if_pos ql] at he
                refine ih (opc s.1 (K.1 i) :: s.1, s.2.1, s.2.2 + 1) 0 (i + 1) f j D' hA (fun x hx => ?_) he
                rcases List.mem_cons.mp hx with z | z
                · rw [z]
                  have : opc s.1 (K.1 i) = -1 ∨ OPV (opc s.1 (K.1 i)) := by
                    unfold opc OPV
                    repeat' split
                    all_goals first | exact Or.inl rfl | exact Or.inr (by decide)
                  rcases this with y | y
                  · omega
                  · exact y
                · exact hO x z
              · rw [if_neg ql] at he; exact absurd he (by simp)
    · rw [if_neg q0] at he
      by_cases qb : 0 ≤ btw s.1 (K.1 i)
      · rw [if_pos qb] at he
        by_cases ql : (stl (lvl (btw s.1 (K.1 i))) s.1 s.2.1 s.2.2).1.length < 160
        · rw [if_pos ql] at he
          have bb := @btw_b s.1 (K.1 i)
          have lv1 : 1 ≤ lvl (btw s.1 (K.1 i)) := by
            have : (1 : Int) ≤ rk (btw s.1 (K.1 i)) := by
              unfold rk
              rw [if_neg (by omega)]
              repeat' split
              all_goals decide
            unfold lvl
            split <;> omega
          refine ih (btw s.1 (K.1 i) :: (stl (lvl (btw s.1 (K.1 i))) s.1 s.2.1 s.2.2).1, (stl (lvl (btw s.1 (K.1 i))) s.1 s.2.1 s.2.2).2) 0 (i + 1) f j D' (stl_CV lv1 _ _ _ hO hA) (fun x hx => ?_) he
          rcases List.mem_cons.mp hx with z | z
          · rw [z]; exact Or.inl ⟨by omega, by omega⟩
          · exact hO x ((stl_len _ _ _).2.2.2.2 x z)
        · rw [if_neg ql] at he; exact absurd he (by simp)
      · rw [if_neg qb] at he
        by_cases qp : ptk s.1 (K.1 i) < 0
        · rw [if_pos qp] at he
          by_cases qo : 0 ≤ opn s.1
          · rw [if_pos qo] at he; exact same he hA
          · rw [if_neg qo] at he; exact same he A1
        · rw [if_neg qp] at he
          have pb := @ptk_b s.1 (K.1 i)
          by_cases q1 : 0 < ptk s.1 (K.1 i)
          · rw [if_pos q1] at he
            refine ih (ptk s.1 (K.1 i) :: (stl 1 s.1 s.2.1 s.2.2).1.tail, (stl 1 s.1 s.2.1 s.2.2).2) 0 (i + 1) f j D' A1 (fun x hx => ?_) he
            rcases List.mem_cons.mp hx with z | z
            · rw [z]; exact Or.inr (by omega)
            · exact tl x z
          · rw [if_neg q1] at he
            refine ih _ 1 (i + 1) f j D' (stl_CV (by decide) _ _ _ tl ?_) (fun x hx => tl x ((stl_len _ _ _).2.2.2.2 x hx)) he
            split
            · exact APD_add A1 (Or.inr (Or.inr ⟨by show (2 : Int) ≤ 3; decide, by show (3 : Int) ≤ 22; decide⟩))
            · exact A1
def CDA (S : St) (L w : Nat) (C : List (Int × Int)) : Prop := ∀ (k : Nat) (c : Int × Int), C[k]? = some c → gI S 1002 0 (681 * L + 73 + 2 * (w + k)) = jj c.1 ∧ gI S 1002 0 (681 * L + 73 + 2 * (w + k) + 1) = jj c.2
def VAL (S : St) : List Int → Prop
  | [] => True
  | x :: vs => gL S 1021 0 vs.length = kk x ∧ VAL S vs
def TRU (S : St) : List Int → Prop
  | [] => True
  | t :: ts => gI S 1022 0 ts.length = jj t ∧ TRU S ts
theorem VAL_eq {S S1 : St} : ∀ {vs : List Int}, (∀ k, k < vs.length → gL S1 1021 0 k = gL S 1021 0 k) → VAL S vs → VAL S1 vs := by
  intro vs
  induction vs with
  | nil => intro _ _; trivial
  | cons x vs ih =>
    intro e h
    exact ⟨(e vs.length (by simp)).trans h.1, ih (fun k hk => e k (by simp only [List.length_cons]; omega)) h.2⟩
theorem TRU_eq {S S1 : St} : ∀ {ts : List Int}, (∀ k, k < ts.length → gI S1 1022 0 k = gI S 1022 0 k) → TRU S ts → TRU S1 ts := by
  intro ts
  induction ts with
  | nil => intro _ _; trivial
  | cons x vs ih =>
    intro e h
    exact ⟨(e vs.length (by simp)).trans h.1, ih (fun k hk => e k (by simp only [List.length_cons]; omega)) h.2⟩
def BDV (vs : List Int) : Prop := ∀ x ∈ vs, -100000000 ≤ x ∧ x ≤ 100000000
def BDT (ts : List Int) : Prop := ∀ x ∈ ts, x = 0 ∨ x = 1
def RFX (f _j : Nat) : Prop := f = 1021 ∨ f = 1022
theorem r_clip (S : St) (v : Int64) : f_X10_clip S v = some (kk (clI v.toInt)) := by
  have e1 : (lg_cmp v (1000000 : Int64) ≤ (0 : Int32)) = ¬ (1000000 < v.toInt) := by
    rw [cmp_le, Int64.lt_iff_toInt_lt]
    rfl
  have e2 : ((0 : Int32) ≤ lg_cmp v (-1000000 : Int64)) = ¬ (v.toInt < -1000000) := by
    rw [cmp_ge, Int64.lt_iff_toInt_lt]
    rfl
  have ev : kk v.toInt = v := Int64.ofInt_toInt v
  unfold f_X10_clip clI
  by_cases q : 1000000 < v.toInt
  · rw [if_neg (fun z => e1.mp z q), if_neg (by omega), if_pos q]; rfl
  · rw [if_pos (e1.mpr q)]
    by_cases q2 : v.toInt < -1000000
    · rw [if_neg (fun z => e2.mp z q2), if_pos q2]; rfl
    · rw [if_pos (e2.mpr q2), if_neg q2, if_neg q, ev]
theorem r_two (S : St) {o a b : Int} (o0 : 6 ≤ o) (o1 : o ≤ 9) (a0 : -100000000 ≤ a) (a1 : a ≤ 100000000) (b0 : -100000000 ≤ b) (b1 : b ≤ 100000000) : f_X10_two S (jj o) (kk a) (kk b) = some (kk (bop o a b)) := by
  have m1 := mul_b16 a0 a1 b0 b1
  have t1 : (kk (a + b)).toInt = a + b := kk_toInt (by omega) (by omega)
  have t2 : (kk (a - b)).toInt = a - b := kk_toInt (by omega) (by omega)
  have t3 : (kk (a * b)).toInt = a * b := kk_toInt (by omega) (by omega)
  have zb : (lg_cmp (kk b) (0 : Int64) = (0 : Int32)) = (b = 0) := by rw [cmp_zero, show (0 : Int64) = kk 0 from rfl, kk_eq (by omega) (by omega) (by decide) (by decide)]
  have nzb : b ≠ 0 → nzL (kk b) = true := by
    intro q
    unfold nzL
    have : ¬ kk b = 0 := by rw [show (0 : Int64) = kk 0 from rfl, kk_eq (by omega) (by omega) (by decide) (by decide)]; exact q
    rw [decide_eq_false this]
    rfl
  have ho : o = 6 ∨ o = 7 ∨ o = 8 ∨ o = 9 := by omega
  clear o0 o1 m1 a0 a1 b0 b1
  unfold f_X10_two bop
  rcases ho with rfl | rfl | rfl | rfl
  · rw [if_pos (show jj 6 = 6 from rfl), if_pos rfl, kk_add, bnd_of (r_clip S _), t1]
  · rw [if_neg (show ¬ jj 7 = 6 by decide), if_pos (show jj 7 = 7 from rfl), if_neg (show ¬ (7 : Int) = 6 by decide), if_pos rfl, kk_sub, bnd_of (r_clip S _), t2]
  · rw [if_neg (show ¬ jj 8 = 6 by decide), if_neg (show ¬ jj 8 = 7 by decide), if_pos (show jj 8 = 8 from rfl), if_neg (show ¬ (8 : Int) = 6 by decide), if_neg (show ¬ (8 : Int) = 7 by decide), if_pos rfl, kk_mul, bnd_of (r_clip S _), t3]
  · rw [if_neg (show ¬ jj 9 = 6 by decide), if_neg (show ¬ jj 9 = 7 by decide), if_neg (show ¬ jj 9 = 8 by decide), if_neg (show ¬ (9 : Int) = 6 by decide), if_neg (show ¬ (9 : Int) = 7 by decide), if_neg (show ¬ (9 : Int) = 8 by decide)]
    by_cases q : b = 0
    · rw [if_pos (zb.mpr q), if_pos q]; rfl
    · rw [if_neg (fun z => q (zb.mp z)), if_neg q, chk_true (nzb q), bnd_of (r_clip S _)]
theorem r_asked (S : St) {o a b : Int} (o0 : 10 ≤ o) (o1 : o ≤ 22) (a0 : -100000000 ≤ a) (a1 : a ≤ 100000000) (b0 : -100000000 ≤ b) (b1 : b ≤ 100000000) : f_X10_isAsked S (jj o) (kk a) (kk b) = some (jj (cop o a b)) := by
  have lk : (kk a < kk b) = (a < b) := kk_lt (by omega) (by omega) (by omega) (by omega)
  have lk2 : (kk b < kk a) = (b < a) := kk_lt (by omega) (by omega) (by omega) (by omega)
  have lq : (kk a = kk b) = (a = b) := kk_eq (by omega) (by omega) (by omega) (by omega)
  have zl : (lg_cmp (kk a) (kk b) < (0 : Int32)) = (a < b) := by rw [cmp_lt, lk]
  have zg : ((0 : Int32) < lg_cmp (kk a) (kk b)) = (b < a) := by rw [cmp_gt, lk2]
  have ze : (lg_cmp (kk a) (kk b) = (0 : Int32)) = (a = b) := by rw [cmp_zero, lq]
  have zle : (lg_cmp (kk a) (kk b) ≤ (0 : Int32)) = ¬ (b < a) := by rw [cmp_le, lk2]
  have zge : ((0 : Int32) ≤ lg_cmp (kk a) (kk b)) = ¬ (a < b) := by rw [cmp_ge, lk]
  have j : ∀ c : Int, 0 ≤ c → c ≤ 50 → (jj o = jj c) = (o = c) := fun c c0 c1 => jj_eq (by omega) (by omega) (by omega) (by omega)
  have j10 : (jj o = (10 : Int32)) = (o = 10) := j 10 (by decide) (by decide)
  have j11 : (jj o = (11 : Int32)) = (o = 11) := j 11 (by decide) (by decide)
  have j12 : (jj o = (12 : Int32)) = (o = 12) := j 12 (by decide) (by decide)
  have j13 : (jj o = (13 : Int32)) = (o = 13) := j 13 (by decide) (by decide)
  have j14 : (jj o = (14 : Int32)) = (o = 14) := j 14 (by decide) (by decide)
  clear lk lk2 lq a0 a1 b0 b1 j
  unfold f_X10_isAsked cop
  by_cases q10 : o = 10
  · rw [if_pos (j10.mpr q10), if_pos q10]
    by_cases q : a < b
    · rw [if_neg (fun z => zge.mp z q), if_pos q]; rfl
    · rw [if_pos (zge.mpr q), if_neg q]; rfl
  rw [if_neg (fun z => q10 (j10.mp z)), if_neg q10]
  by_cases q11 : o = 11
  · rw [if_pos (j11.mpr q11), if_pos q11]
    by_cases q : b < a
    · rw [if_pos (zg.mpr q), if_neg (by omega)]; rfl
    · rw [if_neg (fun z => q (zg.mp z)), if_pos (by omega)]; rfl
  rw [if_neg (fun z => q11 (j11.mp z)), if_neg q11]
  by_cases q12 : o = 12
  · rw [if_pos (j12.mpr q12), if_pos q12]
    by_cases q : b < a
    · rw [if_neg (fun z => zle.mp z q), if_pos q]; rfl
    · rw [if_pos (zle.mpr q), if_neg q]; rfl
  rw [if_neg (fun z => q12 (j12.mp z)), if_neg q12]
  by_cases q13 : o = 13
  · rw [if_pos (j13.mpr q13), if_pos q13]
    by_cases q : a < b
    · rw [if_pos (zl.mpr q), if_neg (by omega)]; rfl
    · rw [if_neg (fun z => q (zl.mp z)), if_pos (by omega)]; rfl
  rw [if_neg (fun z => q13 (j13.mp z)), if_neg q13]
  by_cases q14 : o = 14
  · rw [if_pos (j14.mpr q14), if_pos q14]
    by_cases q : a = b
    · rw [if_pos (ze.mpr q), if_pos q]; rfl
    · rw [if_neg (fun z => q (ze.mp z)), if_neg q]; rfl
  rw [if_neg (fun z => q14 (j14.mp z)), if_neg q14]
  by_cases q : a = b
  · rw [if_pos (ze.mpr q), if_pos q]; rfl
  · rw [if_neg (fun z => q (ze.mp z)), if_neg q]; rfl
theorem r_ofOne (S : St) {cs : Int → Int} {o v : Int} (o0 : 2 ≤ o) (o1 : o ≤ 5) (v0 : -100000000 ≤ v) (v1 : v ≤ 100000000) (hc : ∀ i : Int, 0 ≤ i → i < 12 → gI S 1000 0 (11 + i).toNat = jj (cs i)) (cb : ∀ i : Int, 0 ≤ i → i < 12 → 0 ≤ cs i ∧ cs i ≤ 100000000) : f_X10_ofOne S (jj o) (kk v) = some (kk (uop o cs v)) := by
  have m1 := mul_b16 v0 v1 v0 v1
  have sq : 0 ≤ v * v := by
    rcases Int.le_total 0 v with q | q
    · exact Int.mul_nonneg q q
    · exact Int.mul_nonneg_of_nonpos_of_nonpos q q
  have z2 : (lg_cmp (kk v) (0 : Int64) < (0 : Int32)) = (v < 0) := by rw [cmp_lt, show (0 : Int64) = kk 0 from rfl, kk_lt (by omega) (by omega) (by decide) (by decide)]
  have z3 : ((0 : Int32) ≤ lg_cmp (kk v) (12 : Int64)) = ¬ (v < 12) := by rw [cmp_ge, show (12 : Int64) = kk 12 from rfl, kk_lt (by omega) (by omega) (by decide) (by decide)]
  have j5 : (jj o = (5 : Int32)) = (o = 5) := jj_eq (b := 5) (by omega) (by omega) (by decide) (by decide)
  have j4 : (jj o = (4 : Int32)) = (o = 4) := jj_eq (b := 4) (by omega) (by omega) (by decide) (by decide)
  unfold f_X10_ofOne uop
  by_cases q5 : o = 5
  · rw [if_pos (j5.mpr q5), if_pos q5, kk_neg]
  rw [if_neg (fun z => q5 (j5.mp z)), if_neg q5]
  by_cases q4 : o = 4
  · rw [if_pos (j4.mpr q4), if_pos q4]
    have e : f_X10_two S 8 (kk v) (kk v) = some (kk (bop 8 v v)) := r_two S (o := 8) (by decide) (by decide) v0 v1 v0 v1
    rw [bnd_of e]
    have e2 : bop 8 v v = (if 1000000 < v * v then 1000000 else v * v) := by
      unfold bop clI
      rw [if_neg (show ¬ (8 : Int) = 6 by decide), if_neg (show ¬ (8 : Int) = 7 by decide), if_pos rfl, if_neg (show ¬ v * v < -1000000 by omega)]
    rw [e2]
  rw [if_neg (fun z => q4 (j4.mp z)), if_neg q4]
  unfold f_X10_sheetOf
  by_cases q : v < 0
  · rw [if_pos (z2.mpr q), if_neg (by omega)]; rfl
  · rw [if_neg (fun z => q (z2.mp z))]
    by_cases q2 : v < 12
    · have cv := cb v (by omega) q2
      have ix : (11 : Int32) + (kk v).toInt32 = jj (11 + v) := by rw [kk_int, show (11 : Int32) = jj 11 from rfl, jj_add]
      rw [if_neg (fun z => z3.mp z q2), if_pos (show 0 ≤ v ∧ v < 12 by omega), ix, chk_true (jj_inb (by omega) (by omega) (by omega)), jj_nat (by omega) (by omega), hc v (by omega) q2, jj_long (by omega) (by omega)]
      rfl
    · rw [if_pos (z3.mpr q2), if_neg (by omega)]; rfl
theorem r_joined (S : St) {o a b : Int} (o0 : 0 ≤ o) (o1 : o ≤ 22) (ha : a = 0 ∨ a = 1) (hb : b = 0 ∨ b = 1) : f_X10_joined S (jj o) (jj a) (jj b) = some (jj (jop o a b)) := by
  have j21 : (jj o = (21 : Int32)) = (o = 21) := jj_eq (b := 21) (by omega) (by omega) (by decide) (by decide)
  unfold f_X10_joined jop
  by_cases q : o = 21
  · rw [if_pos (j21.mpr q), if_pos q]
    rcases ha with rfl | rfl <;> rcases hb with rfl | rfl <;> decide
  · rw [if_neg (fun z => q (j21.mp z)), if_neg q]
    rcases ha with rfl | rfl <;> rcases hb with rfl | rfl <;> decide
