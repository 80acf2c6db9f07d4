/-! THE PARSER OF THE REFERENCE does what the walk over lists does. -/
def Kst (b : Nat → Nat) (n nt : Nat) (kd : Int) : Ks := (fun i => ((tkd b n (plc b n i) : Nat) : Int), fun i => ((tnm b n (plc b n i) : Nat) : Int), fun i => ((plc b n i : Nat) : Int), nt, kd)
def PIL (R : St) : List Int → Prop
  | [] => True
  | x :: P => gI R 1015 0 P.length = jj x ∧ PIL R P
def PBD (P : List Int) : Prop := ∀ x ∈ P, 0 ≤ x ∧ x ≤ 43
def COD (R : St) (L : Nat) (D : List (Int × Int)) : Prop := ∀ (k : Nat) (c : Int × Int), D[k]? = some c → gI R 1002 0 (681 * L + 73 + 2 * k) = jj c.1 ∧ gI R 1002 0 (681 * L + 73 + 2 * k + 1) = jj c.2
def RSP (L : Nat) (kd : Int) (R : St) (s : Ps) (wh : Int) : Prop := gI R 1016 0 0 = jj (s.1.length : Int) ∧ PIL R s.1 ∧ gI R 1017 0 0 = jj s.2.2 ∧ gI R 1018 0 0 = jj wh ∧ gI R 1013 0 0 = jj (s.2.1.length : Int) ∧ gI R 1012 0 0 = jj ((681 * L : Nat) : Int) ∧ COD R L s.2.1 ∧ gI R 1014 0 0 = jj kd
def OLD (L : Nat) (R R' : St) : Prop := ∀ k, k < 681 * L + 73 → gI R' 1002 0 k = gI R 1002 0 k
def PFX (f _j : Nat) : Prop := f = 1002 ∨ (1007 ≤ f ∧ f ≤ 1011) ∨ f = 1013 ∨ (1015 ≤ f ∧ f ≤ 1018)
theorem OLD_trans {L : Nat} {R R1 R2 : St} (h : OLD L R R1) (h2 : OLD L R1 R2) : OLD L R R2 := fun k hk => (h2 k hk).trans (h k hk)
theorem OLD_FX {P : Nat → Nat → Prop} {L : Nat} {R R1 : St} (h : FX P R R1) (p : ¬ P 1002 0) : OLD L R R1 := fun k _ => h.1 1002 0 k p
theorem PIL_eq {R R1 : St} : ∀ {P : List Int}, (∀ k, k < P.length → gI R1 1015 0 k = gI R 1015 0 k) → PIL R P → PIL R1 P := by
  intro P
  induction P with
  | nil => intro _ _; trivial
  | cons x P ih =>
    intro e h
    exact ⟨(e P.length (by simp)).trans h.1, ih (fun k hk => e k (by simp only [List.length_cons]; omega)) h.2⟩
theorem RSP_FX {P : Nat → Nat → Prop} {L : Nat} {kd wh : Int} {R R1 : St} {s : Ps} (h : FX P R R1) (p2 : ¬ P 1002 0) (p : ∀ f, 1012 ≤ f → f ≤ 1018 → ¬ P f 0) (hR : RSP L kd R s wh) : RSP L kd R1 s wh := by
  obtain ⟨h1, h2, h3, h4, h5, h6, h7, h8⟩ := hR
  refine ⟨(h.1 1016 0 0 (p _ (by omega) (by omega))).trans h1, PIL_eq (fun k _ => h.1 1015 0 k (p _ (by omega) (by omega))) h2, (h.1 1017 0 0 (p _ (by omega) (by omega))).trans h3, (h.1 1018 0 0 (p _ (by omega) (by omega))).trans h4, (h.1 1013 0 0 (p _ (by omega) (by omega))).trans h5, (h.1 1012 0 0 (p _ (by omega) (by omega))).trans h6, fun k c hc => ?_, (h.1 1014 0 0 (p _ (by omega) (by omega))).trans h8⟩
  rw [h.1 1002 0 _ p2, h.1 1002 0 _ p2]
  exact h7 k c hc
theorem r_rank (R : St) {x : Int} (h : 0 ≤ x) (h2 : x ≤ 43) : f_X10_rank R (jj x) = some (jj (rk x)) := by
  have key : ∀ x : Fin 44, f_X10_rank ((fun _ _ _ => 0, fun _ _ _ => 0, fun _ _ _ => 0, fun _ => none, 0) : St) (jj (x.val : Int)) = some (jj (rk (x.val : Int))) := by decide +kernel
  have := key ⟨x.toNat, by omega⟩
  simp only [Int.toNat_of_nonneg h] at this
  exact this
theorem rk_b {x : Int} : 0 ≤ rk x ∧ rk x ≤ 7 := by
  unfold rk
  repeat' split
  all_goals decide
theorem r_emit {L : Nat} {kd wh : Int} {R : St} {P : List Int} {D : List (Int × Int)} {o x v : Int} (hL : L < 4) (hD : D.length ≤ 302) (hR : RSP L kd R (P, D, o) wh) : ∃ R', f_X10_emit R (jj x) (jj v) = some R' ∧ RSP L kd R' (P, D ++ [(x, v)], o) wh ∧ OLD L R R' ∧ FX (fun f _ => f = 1002 ∨ f = 1013) R R' := by
  obtain ⟨h1, h2, h3, h4, h5, h6, h7, h8⟩ := hR
  simp only at h1 h2 h3 h5 h7
  have ix : jj ((681 * L : Nat) : Int) + (73 : Int32) + (2 : Int32) * jj (D.length : Int) = jj ((681 * L + 73 + 2 * D.length : Nat) : Int) := by
    rw [show (73 : Int32) = jj 73 from rfl, show (2 : Int32) = jj 2 from rfl, jj_mul, jj_add, jj_add]
    congr 1
  have n1 : (jj ((681 * L + 73 + 2 * D.length : Nat) : Int)).toNatClampNeg = 681 * L + 73 + 2 * D.length := by rw [jj_nat (by omega) (by omega), Int.toNat_natCast]
  have n2 : (jj ((681 * L + 73 + 2 * D.length + 1 : Nat) : Int)).toNatClampNeg = 681 * L + 73 + 2 * D.length + 1 := by rw [jj_nat (by omega) (by omega), Int.toNat_natCast]
  have F : FX (fun f _ => f = 1002 ∨ f = 1013) R (sI (sI (sI R 1002 0 (681 * L + 73 + 2 * D.length) (jj x)) 1002 0 (681 * L + 73 + 2 * D.length + 1) (jj v)) 1013 0 0 (jj ((D.length + 1 : Nat) : Int))) := FX_sI (FX_sI (FX_sI (FX_refl _ _) (Or.inl rfl)) (Or.inl rfl)) (Or.inr rfl)
  refine ⟨_, ?_, ⟨?_, ?_, ?_, ?_, ?_, ?_, ?_, ?_⟩, fun k hk => ?_, F⟩
  · unfold f_X10_emit
    simp only [lt]
    rw [h6, h5, ix, chk_true (jj_inb (by omega) (by omega) (by omega)), n1, show gI (sI R 1002 0 (681 * L + 73 + 2 * D.length) (jj x)) 1012 0 0 = jj ((681 * L : Nat) : Int) from by rw [gI_sI, if_neg (by omega)]; exact h6, show gI (sI R 1002 0 (681 * L + 73 + 2 * D.length) (jj x)) 1013 0 0 = jj (D.length : Int) from by rw [gI_sI, if_neg (by omega)]; exact h5, ix, show jj ((681 * L + 73 + 2 * D.length : Nat) : Int) + (1 : Int32) = jj ((681 * L + 73 + 2 * D.length + 1 : Nat) : Int) from jn_add _ 1, chk_true (jj_inb (by omega) (by omega) (by omega)), n2, show gI (sI (sI R 1002 0 (681 * L + 73 + 2 * D.length) (jj x)) 1002 0 (681 * L + 73 + 2 * D.length + 1) (jj v)) 1013 0 0 = jj (D.length : Int) from by rw [gI_sI, if_neg (by omega), gI_sI, if_neg (by omega)]; exact h5, show jj (D.length : Int) + (1 : Int32) = jj ((D.length + 1 : Nat) : Int) from jn_add _ 1]
  · exact (F.1 1016 0 0 (by omega)).trans h1
  · exact PIL_eq (fun k _ => F.1 1015 0 k (by omega)) h2
  · exact (F.1 1017 0 0 (by omega)).trans h3
  · exact (F.1 1018 0 0 (by omega)).trans h4
  · rw [gI_sI, if_pos ⟨rfl, rfl, rfl⟩, List.length_append]; rfl
  · exact (F.1 1012 0 0 (by omega)).trans h6
  · intro k c hc
    by_cases z : k < D.length
    · rw [List.getElem?_append_left z] at hc
      obtain ⟨a1, a2⟩ := h7 k c hc
      refine ⟨?_, ?_⟩
      · rw [gI_sI, if_neg (by omega), gI_sI, if_neg (by omega), gI_sI, if_neg (by omega)]; exact a1
      · rw [gI_sI, if_neg (by omega), gI_sI, if_neg (by omega), gI_sI, if_neg (by omega)]; exact a2
    · rw [List.getElem?_append_right (by omega)] at hc
      have k0 : k = D.length := by
        by_cases y : k = D.length
        · exact y
        · rw [List.getElem?_eq_none (by simp; omega)] at hc
          exact absurd hc (by simp)
      subst k0
      rw [Nat.sub_self] at hc
      have := Option.some.inj hc
      subst this
      refine ⟨?_, ?_⟩
      · rw [gI_sI, if_neg (by omega), gI_sI, if_neg (by omega), gI_sI, if_pos ⟨rfl, rfl, rfl⟩]
      · rw [gI_sI, if_neg (by omega), gI_sI, if_pos ⟨rfl, rfl, rfl⟩]
  · exact (F.1 1014 0 0 (by omega)).trans h8
  · rw [gI_sI, if_neg (by omega), gI_sI, if_neg (by omega), gI_sI, if_neg (by omega)]
def SFX (f _j : Nat) : Prop := f = 1002 ∨ f = 1013 ∨ f = 1016 ∨ f = 1017
theorem r_settle {L N : Nat} {kd wh m : Int} (hL : L < 4) (m0 : 0 ≤ m) (m1 : m ≤ 7) : ∀ (P : List Int) (D : List (Int × Int)) (o : Int) (R : St) (fuel : Nat), P.length < fuel → D.length + P.length ≤ 302 → P.length ≤ 160 → PBD P → RSP L kd R (P, D, o) wh → ∃ R', f_X10_settle_b0 N fuel (jj m) R = some R' ∧ RSP L kd R' (stl m P D o) wh ∧ OLD L R R' ∧ FX SFX R R' := by
  intro P
  induction P with
  | nil =>
    intro D o R fuel hf hD hP hB hR
    obtain ⟨fuel, rfl⟩ : ∃ f', fuel = f' + 1 := ⟨fuel - 1, by omega⟩
    have h1 : gI R 1016 0 0 = 0 := hR.1
    rw [f_X10_settle_b0, h1, if_pos (by decide)]
    exact ⟨R, rfl, hR, fun _ _ => rfl, FX_refl _ _⟩
  | cons x P ih =>
    intro D o R fuel hf hD hP hB hR
    obtain ⟨fuel, rfl⟩ : ∃ f', fuel = f' + 1 := ⟨fuel - 1, by omega⟩
    simp only [List.length_cons] at hf hD hP
    have hx := hB x (List.mem_cons_self ..)
    have kb := @rk_b x
    have h1 : gI R 1016 0 0 = jj ((P.length + 1 : Nat) : Int) := hR.1
    have h2 := hR.2.1
    have h3 := hR.2.2.1
    have em1 : jj ((P.length + 1 : Nat) : Int) - (1 : Int32) = jj (P.length : Int) := (jj_sub _ 1).trans (by congr 1; omega)
    have nP : (jj (P.length : Int)).toNatClampNeg = P.length := by rw [jj_nat (by omega) (by omega), Int.toNat_natCast]
    have iP : inb (jj (P.length : Int)) 160 = true := jj_inb (by omega) (by omega) (by omega)
    have lt0 : ¬ jj ((P.length + 1 : Nat) : Int) ≤ (0 : Int32) := by rw [show (0 : Int32) = jj 0 from rfl, jj_le (by omega) (by omega) (by decide) (by decide)]; omega
    have lm : (jj (rk x) < jj m) = (rk x < m) := jj_lt (by omega) (by omega) (by omega) (by omega)
    rw [f_X10_settle_b0, h1, if_neg lt0, em1, chk_true iP, nP, h2.1, bnd_of (r_rank R hx.1 hx.2)]
    by_cases q : rk x < m
    · rw [if_pos (lm.mpr q), stl_stop q]
      exact ⟨R, rfl, hR, fun _ _ => rfl, FX_refl _ _⟩
    · rw [if_neg (fun z => q (lm.mp z)), stl_pop (by omega)]
      simp only [lt]
      have F3 : FX (fun f _ => f = 1016) R (sI R 1016 0 0 (jj (P.length : Int))) := FX_sI (FX_refl _ _) rfl
      have R3 : RSP L kd (sI R 1016 0 0 (jj (P.length : Int))) (P, D, o) wh := by
        obtain ⟨-, r2, r3, r4, r5, r6, r7, r8⟩ := hR
        refine ⟨?_, PIL_eq (fun k _ => F3.1 1015 0 k (by omega)) r2.2, (F3.1 1017 0 0 (by omega)).trans r3, (F3.1 1018 0 0 (by omega)).trans r4, (F3.1 1013 0 0 (by omega)).trans r5, (F3.1 1012 0 0 (by omega)).trans r6, fun k c hc => ?_, (F3.1 1014 0 0 (by omega)).trans r8⟩
        · rw [gI_sI, if_pos ⟨rfl, rfl, rfl⟩]
        · rw [F3.1 1002 0 _ (by omega), F3.1 1002 0 _ (by omega)]
          exact r7 k c hc
      have g3 : gI (sI R 1016 0 0 (jj (P.length : Int))) 1016 0 0 = jj (P.length : Int) := by rw [gI_sI, if_pos ⟨rfl, rfl, rfl⟩]
      have x3 : gI (sI R 1016 0 0 (jj (P.length : Int))) 1015 0 P.length = jj x := (F3.1 1015 0 _ (by omega)).trans h2.1
      rw [g3, chk_true iP, nP, x3]
      obtain ⟨R4, e4, R4', O4, F4⟩ := r_emit (x := x) (v := 0) hL (by omega) R3
      have e4 : f_X10_emit (sI R 1016 0 0 (jj (P.length : Int))) (jj x) 0 = some R4 := e4
      have g4 : gI R4 1016 0 0 = jj (P.length : Int) := (F4.1 1016 0 0 (by omega)).trans g3
      have x4 : gI R4 1015 0 P.length = jj x := (F4.1 1015 0 _ (by omega)).trans x3
      rw [bnd_of e4, g4, chk_true iP, nP, x4, bnd_of (r_rank R4 hx.1 hx.2)]
      have F04 : FX SFX R R4 := FX_trans (FX_sub F3 (fun f _ z => by unfold SFX; omega)) (FX_sub F4 (fun f _ z => by unfold SFX; omega))
      have O04 : OLD L R R4 := OLD_trans (OLD_FX F3 (by omega)) O4
      have lB : PBD P := fun y hy => hB y (List.mem_cons_of_mem _ hy)
      have down : ∃ R', f_X10_settle_b80 (f_X10_settle_b0 N fuel) N (jj m) R4 = some R' ∧ RSP L kd R' (stl m P (D ++ [(x, 0)]) (o - 1)) wh ∧ OLD L R R' ∧ FX SFX R R' := by
        unfold f_X10_settle_b80
        simp only [lt]
        have h7 : gI R4 1017 0 0 = jj o := R4'.2.2.1
        rw [h7, show jj o - (1 : Int32) = jj (o - 1) from jj_sub o 1]
        have F5 : FX (fun f _ => f = 1017) R4 (sI R4 1017 0 0 (jj (o - 1))) := FX_sI (FX_refl _ _) rfl
        have R5 : RSP L kd (sI R4 1017 0 0 (jj (o - 1))) (P, D ++ [(x, 0)], o - 1) wh := by
          obtain ⟨r1, r2, r3, r4, r5, r6, r7, r8⟩ := R4'
          refine ⟨(F5.1 1016 0 0 (by omega)).trans r1, PIL_eq (fun k _ => F5.1 1015 0 k (by omega)) r2, by rw [gI_sI, if_pos ⟨rfl, rfl, rfl⟩], (F5.1 1018 0 0 (by omega)).trans r4, (F5.1 1013 0 0 (by omega)).trans r5, (F5.1 1012 0 0 (by omega)).trans r6, fun k c hc => ?_, (F5.1 1014 0 0 (by omega)).trans r8⟩
          rw [F5.1 1002 0 _ (by omega), F5.1 1002 0 _ (by omega)]
          exact r7 k c hc
        obtain ⟨R6, e6, R6', O6, F6⟩ := ih (D ++ [(x, 0)]) (o - 1) _ fuel (by omega) (by rw [List.length_append]; simp only [List.length_singleton]; omega) (by omega) lB R5
        exact ⟨R6, e6, R6', OLD_trans O04 (OLD_trans (OLD_FX F5 (by omega)) O6), FX_trans F04 (FX_trans (FX_sub F5 (fun f _ z => by unfold SFX; omega)) F6)⟩
      have j7 : (jj (rk x) = (7 : Int32)) = (rk x = 7) := jj_eq (b := 7) (by omega) (by omega) (by decide) (by decide)
      have j20 : (jj x = (20 : Int32)) = (x = 20) := jj_eq (b := 20) (by omega) (by omega) (by decide) (by decide)
      by_cases q7 : rk x = 7
      · rw [if_pos (j7.mpr q7), show cnq x = 1 from if_pos (Or.inl q7)]
        exact down
      · rw [if_neg (fun z => q7 (j7.mp z)), chk_true iP]
        by_cases q20 : x = 20
        · rw [if_pos (j20.mpr q20), show cnq x = 1 from if_pos (Or.inr q20)]
          exact down
        · rw [if_neg (fun z => q20 (j20.mp z)), show cnq x = 0 from if_neg (by omega), Int.sub_zero]
          obtain ⟨R6, e6, R6', O6, F6⟩ := ih (D ++ [(x, 0)]) o R4 fuel (by omega) (by rw [List.length_append]; simp only [List.length_singleton]; omega) (by omega) lB R4'
          exact ⟨R6, e6, R6', OLD_trans O04 O6, FX_trans F04 F6⟩
def oat : List Int → Int
  | [] => -1
  | x :: P => if 40 ≤ x then (P.length : Int) else oat P
theorem oat_b : ∀ P : List Int, -1 ≤ oat P ∧ oat P < P.length ∧ (oat P < 0 → opn P = -1) := by
  intro P
  induction P with
  | nil => exact ⟨by decide, by decide, fun _ => rfl⟩
  | cons x P ih =>
    show -1 ≤ (if 40 ≤ x then (P.length : Int) else oat P) ∧ (if 40 ≤ x then (P.length : Int) else oat P) < ((P.length + 1 : Nat) : Int) ∧ ((if 40 ≤ x then (P.length : Int) else oat P) < 0 → (if 40 ≤ x then x else opn P) = -1)
    by_cases q : 40 ≤ x
    · rw [if_pos q, if_pos q]; exact ⟨by omega, by omega, fun z => by omega⟩
    · rw [if_neg q, if_neg q]; exact ⟨ih.1, by omega, ih.2.2⟩
theorem oat_at {R : St} : ∀ {P : List Int}, PIL R P → 0 ≤ oat P → gI R 1015 0 (oat P).toNat = jj (opn P) := by
  intro P
  induction P with
  | nil => intro _ h; exact absurd h (by decide)
  | cons x P ih =>
    intro h h0
    show gI R 1015 0 (if 40 ≤ x then (P.length : Int) else oat P).toNat = jj (if 40 ≤ x then x else opn P)
    have e : oat (x :: P) = if 40 ≤ x then (P.length : Int) else oat P := rfl
    by_cases q : 40 ≤ x
    · rw [if_pos q, if_pos q, Int.toNat_natCast]; exact h.1
    · rw [if_neg q, if_neg q]
      rw [e, if_neg q] at h0
      exact ih h.2 h0
theorem r_oat7 {N : Nat} {R : St} : ∀ (P : List Int) (fuel : Nat), P.length < fuel → P.length ≤ 160 → PBD P → PIL R P → f_X10_openAt_b7 N fuel (jj ((P.length : Int) - 1)) R = some (jj (oat P)) := by
  intro P
  induction P with
  | nil =>
    intro fuel hf hP hB hR
    obtain ⟨fuel, rfl⟩ : ∃ f', fuel = f' + 1 := ⟨fuel - 1, by omega⟩
    rw [f_X10_openAt_b7, if_pos (by decide)]
    rfl
  | cons x P ih =>
    intro fuel hf hP hB hR
    obtain ⟨fuel, rfl⟩ : ∃ f', fuel = f' + 1 := ⟨fuel - 1, by omega⟩
    simp only [List.length_cons] at hf hP
    have hx := hB x (List.mem_cons_self ..)
    have e1 : (((x :: P).length : Nat) : Int) - 1 = (P.length : Int) := by simp only [List.length_cons]; omega
    have l40 : ((40 : Int32) ≤ jj x) = (40 ≤ x) := jj_le (a := 40) (by decide) (by decide) (by omega) (by omega)
    rw [e1, f_X10_openAt_b7, if_neg (show ¬ jj (P.length : Int) < (0 : Int32) by rw [show (0 : Int32) = jj 0 from rfl, jj_lt (by omega) (by omega) (by decide) (by decide)]; omega), chk_true (jj_inb (by omega) (by omega) (by omega)), jj_nat (by omega) (by omega), Int.toNat_natCast, hR.1]
    show _ = some (jj (if 40 ≤ x then (P.length : Int) else oat P))
    by_cases q : 40 ≤ x
    · rw [if_pos (l40.mpr q), if_pos q]
    · rw [if_neg (fun z => q (l40.mp z)), if_neg q]
      simp only [lt]
      rw [show jj (P.length : Int) + (-1 : Int32) = jj ((P.length : Int) - 1) from by rw [show (-1 : Int32) = jj (-1) from rfl, jj_add]; rfl]
      exact ih fuel (by omega) (by omega) (fun y hy => hB y (List.mem_cons_of_mem _ hy)) hR.2
theorem r_oat {L N : Nat} {kd wh : Int} {R : St} {s : Ps} (hN : 4000 < N) (hP : s.1.length ≤ 160) (hB : PBD s.1) (hR : RSP L kd R s wh) : f_X10_openAt N R = some (jj (oat s.1)) := by
  unfold f_X10_openAt
  simp only [lt]
  rw [hR.1, show jj (s.1.length : Int) - (1 : Int32) = jj ((s.1.length : Int) - 1) from jj_sub _ 1]
  exact r_oat7 s.1 N (by omega) hP hB hR.2.1
theorem r_opn {L N : Nat} {kd wh : Int} {R : St} {s : Ps} (hN : 4000 < N) (hP : s.1.length ≤ 160) (hB : PBD s.1) (hR : RSP L kd R s wh) : f_X10_openNow N R = some (jj (opn s.1)) := by
  have e := r_oat hN hP hB hR
  have ob := oat_b s.1
  have l0 : ((0 : Int32) ≤ jj (oat s.1)) = (0 ≤ oat s.1) := jj_le (a := 0) (by decide) (by decide) (by omega) (by omega)
  unfold f_X10_openNow
  rw [bnd_of e]
  by_cases q : 0 ≤ oat s.1
  · rw [if_pos (l0.mpr q), bnd_of e, chk_true (jj_inb q (by omega) (by omega)), jj_nat (by omega) (by omega), oat_at hR.2.1 q]
  · rw [if_neg (fun z => q (l0.mp z)), ob.2.2 (by omega)]
    rfl
theorem r_cmp7 {N : Nat} {R : St} : ∀ (P : List Int) (fuel : Nat), P.length < fuel → P.length ≤ 160 → PBD P → PIL R P → f_X10_isCompared_b7 N fuel (jj ((P.length : Int) - 1)) R = some (jj (cmpd P)) := by
  intro P
  induction P with
  | nil =>
    intro fuel hf hP hB hR
    obtain ⟨fuel, rfl⟩ : ∃ f', fuel = f' + 1 := ⟨fuel - 1, by omega⟩
    unfold f_X10_isCompared_b7 f_X10_isCompared_b30
    rw [if_pos (by decide), if_pos (by decide)]
    rfl
  | cons x P ih =>
    intro fuel hf hP hB hR
    obtain ⟨fuel, rfl⟩ : ∃ f', fuel = f' + 1 := ⟨fuel - 1, by omega⟩
    simp only [List.length_cons] at hf hP
    have hx := hB x (List.mem_cons_self ..)
    have kb := @rk_b x
    have e1 : (((x :: P).length : Nat) : Int) - 1 = (P.length : Int) := by simp only [List.length_cons]; omega
    have n0 : ¬ jj (P.length : Int) < (0 : Int32) := by rw [show (0 : Int32) = jj 0 from rfl, jj_lt (by omega) (by omega) (by decide) (by decide)]; omega
    have iP : inb (jj (P.length : Int)) 160 = true := jj_inb (by omega) (by omega) (by omega)
    have nP : (jj (P.length : Int)).toNatClampNeg = P.length := by rw [jj_nat (by omega) (by omega), Int.toNat_natCast]
    have l4 : (jj (rk x) ≤ (4 : Int32)) = (rk x ≤ 4) := jj_le (b := 4) (by omega) (by omega) (by decide) (by decide)
    have e4 : (jj (rk x) = (4 : Int32)) = (rk x = 4) := jj_eq (b := 4) (by omega) (by omega) (by decide) (by decide)
    rw [e1, f_X10_isCompared_b7, if_neg n0, chk_true iP, nP, hR.1, bnd_of (r_rank R hx.1 hx.2), cmpd_cons]
    by_cases q : rk x ≤ 4
    · rw [if_pos (l4.mpr q), if_neg (show ¬ 4 < rk x by omega)]
      unfold f_X10_isCompared_b30
      rw [if_neg n0, chk_true iP, nP, hR.1, bnd_of (r_rank R hx.1 hx.2)]
      by_cases z : rk x = 4
      · rw [if_pos (e4.mpr z), if_pos z]; rfl
      · rw [if_neg (fun y => z (e4.mp y)), if_neg z]; rfl
    · rw [if_neg (fun z => q (l4.mp z)), if_pos (show 4 < rk x by omega)]
      simp only [lt]
      rw [show jj (P.length : Int) + (-1 : Int32) = jj ((P.length : Int) - 1) from by rw [show (-1 : Int32) = jj (-1) from rfl, jj_add]; rfl]
      exact ih fuel (by omega) (by omega) (fun y hy => hB y (List.mem_cons_of_mem _ hy)) hR.2
theorem r_cmpd {L N : Nat} {kd wh : Int} {R : St} {s : Ps} (hN : 4000 < N) (hP : s.1.length ≤ 160) (hB : PBD s.1) (hR : RSP L kd R s wh) : f_X10_isCompared N R = some (jj (cmpd s.1)) := by
  unfold f_X10_isCompared
  simp only [lt]
  rw [hR.1, show jj (s.1.length : Int) - (1 : Int32) = jj ((s.1.length : Int) - 1) from jj_sub _ 1]
  exact r_cmp7 s.1 N (by omega) hP hB hR.2.1
theorem cmpd_b : ∀ P : List Int, cmpd P = 0 ∨ cmpd P = 1 := by
  intro P
  induction P with
  | nil => exact Or.inl rfl
  | cons x P ih =>
    rw [cmpd_cons]
    repeat' split
    · exact ih
    · exact Or.inr rfl
    · exact Or.inl rfl
theorem opn_b : ∀ P : List Int, PBD P → opn P = -1 ∨ (40 ≤ opn P ∧ opn P ≤ 43) := by
  intro P
  induction P with
  | nil => intro _; exact Or.inl rfl
  | cons x P ih =>
    intro h
    show (if 40 ≤ x then x else opn P) = -1 ∨ (40 ≤ (if 40 ≤ x then x else opn P) ∧ (if 40 ≤ x then x else opn P) ≤ 43)
    have hx := h x (List.mem_cons_self ..)
    by_cases q : 40 ≤ x
    · rw [if_pos q]; exact Or.inr ⟨q, hx.2⟩
    · rw [if_neg q]; exact ih (fun y hy => h y (List.mem_cons_of_mem _ hy))
theorem r_ahd {L N : Nat} {kd wh : Int} {R : St} {s : Ps} (hN : 4000 < N) (hP : s.1.length ≤ 160) (hB : PBD s.1) (hR : RSP L kd R s wh) : f_X10_isAskAhead N R = some (jj (ahd s.1)) := by
  have eo := r_opn hN hP hB hR
  have ob := opn_b s.1 hB
  have e41 : (jj (opn s.1) = (41 : Int32)) = (opn s.1 = 41) := jj_eq (b := 41) (by omega) (by omega) (by decide) (by decide)
  unfold f_X10_isAskAhead
  rw [bnd_of eo]
  obtain ⟨P, D, o⟩ := s
  simp only at *
  cases P with
  | nil =>
    rw [if_neg (fun z => absurd (e41.mp z) (by decide))]
    rfl
  | cons x P =>
    rw [ahd_cons]
    by_cases q : opn (x :: P) = 41
    · have hx := hB x (List.mem_cons_self ..)
      have kb := @rk_b x
      simp only [List.length_cons] at hP
      have h1 : gI R 1016 0 0 = jj ((P.length + 1 : Nat) : Int) := hR.1
      have em1 : jj ((P.length + 1 : Nat) : Int) - (1 : Int32) = jj (P.length : Int) := (jj_sub _ 1).trans (by congr 1; omega)
      have nP : (jj (P.length : Int)).toNatClampNeg = P.length := by rw [jj_nat (by omega) (by omega), Int.toNat_natCast]
      have iP : inb (jj (P.length : Int)) 160 = true := jj_inb (by omega) (by omega) (by omega)
      have l40 : ((40 : Int32) ≤ jj x) = (40 ≤ x) := jj_le (a := 40) (by decide) (by decide) (by omega) (by omega)
      rw [if_pos (e41.mpr q), if_pos q, h1, em1, chk_true iP, nP, hR.2.1.1]
      by_cases z : 40 ≤ x
      · rw [if_pos (l40.mpr z), if_pos z]; rfl
      · rw [if_neg (fun y => z (l40.mp y)), if_neg z, chk_true iP, bnd_of (r_rank R hx.1 hx.2)]
        have ei : f_X10_isIn R (jj (rk x)) 1 3 = some (if 1 ≤ rk x ∧ rk x ≤ 3 then jj 1 else jj 0) := q_isIn2 (a := 1) (b := 3) (by omega) (by omega) (by decide) (by decide) (by decide) (by decide)
        rw [bnd_of ei]
        by_cases y : 1 ≤ rk x ∧ rk x ≤ 3
        · rw [if_pos y, if_neg (show ¬ jj 1 = 0 by decide), if_pos y]; rfl
        · rw [if_neg y, if_pos (show jj 0 = 0 by decide), if_neg y]; rfl
    · rw [if_neg (fun z => q (e41.mp z)), if_neg q]; rfl
