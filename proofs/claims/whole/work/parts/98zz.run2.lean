/-! WHAT CODE SAYS: the reference's machine, step by step. -/
theorem r_step {L N x w e fuel : Nat} {m : Int} {nv cs : Int → Int} {S : St} {c : Int × Int} {vs ts vs' ts' : List Int} (hL : L < 4) (hst : stpS nv cs c vs ts = some (vs', ts')) (hcv : CV m c) (hm : m ≤ 8) (c1 : gI S 1002 0 (681 * L + 73 + 2 * w) = jj c.1) (c2 : gI S 1002 0 (681 * L + 73 + 2 * w + 1) = jj c.2) (hx : x + 2 < 2724) (he : gI S 1002 0 (x + 2) = jj (e : Int)) (hwe : w < e) (he2 : e ≤ 300) (hn : ∀ k : Int, 0 ≤ k → k < m → gI S 1020 0 k.toNat = jj (nv k)) (hc : ∀ i : Int, 0 ≤ i → i < 12 → gI S 1000 0 (11 + i).toNat = jj (cs i)) (hE : ENVB m nv cs) (hV : VAL S vs) (hT : TRU S ts) (bV : BDV vs) (bT : BDT ts) (lv : vs.length ≤ 320) (lt' : ts.length ≤ 320) : ∃ S1, f_X10_summedUp_b38 N (fuel + 1) (jj (x : Int)) (jj ((681 * L + 73 : Nat) : Int)) (jj (vs.length : Int)) (jj (ts.length : Int)) (jj (w : Int)) S = f_X10_summedUp_b38 N fuel (jj (x : Int)) (jj ((681 * L + 73 : Nat) : Int)) (jj (vs'.length : Int)) (jj (ts'.length : Int)) (jj ((w + 1 : Nat) : Int)) S1 ∧ VAL S1 vs' ∧ TRU S1 ts' ∧ BDV vs' ∧ BDT ts' ∧ vs'.length ≤ vs.length + 1 ∧ ts'.length ≤ ts.length + 1 ∧ FX RFX S S1 := by
  obtain ⟨c, d⟩ := c
  simp only at c1 c2
  have cb : 0 ≤ c ∧ c ≤ 22 := by
    rcases hcv with z | z | z
    · have : c = 0 := z.1; omega
    · have : c = 1 := z.1; omega
    · have := z.1; have := z.2; simp only at *; omega
  have ix : jj ((681 * L + 73 : Nat) : Int) + (2 : Int32) * jj (w : Int) = jj ((681 * L + 73 + 2 * w : Nat) : Int) := by
    rw [show (2 : Int32) = jj 2 from rfl, jj_mul, jj_add]
    congr 1
  have ix1 : jj ((681 * L + 73 + 2 * w : Nat) : Int) + (1 : Int32) = jj ((681 * L + 73 + 2 * w + 1 : Nat) : Int) := jn_add _ 1
  have n1 : (jj ((681 * L + 73 + 2 * w : Nat) : Int)).toNatClampNeg = 681 * L + 73 + 2 * w := by rw [jj_nat (by omega) (by omega), Int.toNat_natCast]
  have n2 : (jj ((681 * L + 73 + 2 * w + 1 : Nat) : Int)).toNatClampNeg = 681 * L + 73 + 2 * w + 1 := by rw [jj_nat (by omega) (by omega), Int.toNat_natCast]
  have nx : (jj ((x + 2 : Nat) : Int)).toNatClampNeg = x + 2 := by rw [jj_nat (by omega) (by omega), Int.toNat_natCast]
  have w1 : jj (w : Int) + (1 : Int32) = jj ((w + 1 : Nat) : Int) := jn_add w 1
  have j1 : ((1 : Int32) < jj c) = (1 < c) := jj_lt (a := 1) (by decide) (by decide) (by omega) (by omega)
  have j5 : ((5 : Int32) < jj c) = (5 < c) := jj_lt (a := 5) (by decide) (by decide) (by omega) (by omega)
  have j10 : ((10 : Int32) ≤ jj c) = (10 ≤ c) := jj_le (a := 10) (by decide) (by decide) (by omega) (by omega)
  have j20 : ((20 : Int32) ≤ jj c) = (20 ≤ c) := jj_le (a := 20) (by decide) (by decide) (by omega) (by omega)
  have e3 : (jj c = (3 : Int32)) = (c = 3) := jj_eq (b := 3) (by omega) (by omega) (by decide) (by decide)
  have e0 : (jj c = (0 : Int32)) = (c = 0) := jj_eq (b := 0) (by omega) (by omega) (by decide) (by decide)
  have e20 : (jj c = (20 : Int32)) = (c = 20) := jj_eq (b := 20) (by omega) (by omega) (by decide) (by decide)
  rw [f_X10_summedUp_b38, show jj (x : Int) + (2 : Int32) = jj ((x + 2 : Nat) : Int) from jn_add x 2, chk_true (jj_inb (by omega) (by omega) (by omega)), nx, he, if_neg (show ¬ jj (e : Int) ≤ jj (w : Int) by rw [jj_le (by omega) (by omega) (by omega) (by omega)]; omega), ix, chk_true (jj_inb (by omega) (by omega) (by omega)), n1, c1]
  simp only [lt]
  rw [ix1, chk_true (jj_inb (by omega) (by omega) (by omega)), n2, c2, w1]
  -- a value that comes on top of vs0
  have putV : ∀ (vs0 : List Int) (v : Int), VAL S vs0 → (∀ y ∈ vs0, y ∈ vs) → vs0.length ≤ 320 → -100000000 ≤ v → v ≤ 100000000 → VAL (sL S 1021 0 vs0.length (kk v)) (v :: vs0) ∧ BDV (v :: vs0) ∧ FX RFX S (sL S 1021 0 vs0.length (kk v)) := by
    intro vs0 v h0 hs _ v0 v1
    refine ⟨⟨by rw [gL_sL, if_pos ⟨rfl, rfl, rfl⟩], VAL_eq (fun k hk => by rw [gL_sL, if_neg (by omega)]) h0⟩, fun y hy => ?_, FX_sL (FX_refl _ _) (by unfold RFX; omega)⟩
    rcases List.mem_cons.mp hy with z | z
    · rw [z]; exact ⟨v0, v1⟩
    · exact bV y (hs y z)
  have putT : ∀ (ts0 : List Int) (v : Int), TRU S ts0 → (∀ y ∈ ts0, y ∈ ts) → (v = 0 ∨ v = 1) → TRU (sI S 1022 0 ts0.length (jj v)) (v :: ts0) ∧ BDT (v :: ts0) ∧ FX RFX S (sI S 1022 0 ts0.length (jj v)) := by
    intro ts0 v h0 hs hv
    refine ⟨⟨by rw [gI_sI, if_pos ⟨rfl, rfl, rfl⟩], TRU_eq (fun k hk => by rw [gI_sI, if_neg (by omega)]) h0⟩, fun y hy => ?_, FX_sI (FX_refl _ _) (by unfold RFX; omega)⟩
    rcases List.mem_cons.mp hy with z | z
    · rw [z]; exact hv
    · exact bT y (hs y z)
  have nat : ∀ k : Nat, k ≤ 400 → (jj (k : Int)).toNatClampNeg = k := fun k hk => by rw [jj_nat (by omega) (by omega), Int.toNat_natCast]
  have inn : ∀ k : Nat, k < 330 → inb (jj (k : Int)) 330 = true := fun k hk => jj_inb (by omega) (by omega) (by omega)
  have sub1 : ∀ k : Nat, jj ((k + 1 : Nat) : Int) - (1 : Int32) = jj (k : Int) := fun k => (jj_sub _ 1).trans (by congr 1; omega)
  have add1 : ∀ k : Nat, jj ((k + 1 : Nat) : Int) + (-1 : Int32) = jj (k : Int) := fun k => by
    rw [show (-1 : Int32) = jj (-1) from rfl, jj_add]
    congr 1; omega
  have add2 : ∀ k : Nat, jj ((k + 2 : Nat) : Int) + (-2 : Int32) = jj (k : Int) := fun k => by
    rw [show (-2 : Int32) = jj (-2) from rfl, jj_add]
    congr 1; omega
  have up1 : ∀ k : Nat, jj (k : Int) + (1 : Int32) = jj ((k + 1 : Nat) : Int) := fun k => jn_add k 1
  unfold stpS at hst
  simp only at hst
  by_cases q1 : 1 < c
  · rw [if_neg (show ¬ c = 0 by omega), if_neg (show ¬ c = 1 by omega)] at hst
    rw [if_pos (j1.mpr q1)]
    by_cases q3 : c = 3
    · rw [if_pos q3] at hst
      rw [if_pos (e3.mpr q3)]
      match vs, ts, hst, hV, hT, bV, bT, lv, lt', putV, putT with
      | b :: a :: vs0, t :: ts0, hst, hV, hT, bV, bT, lv, lt', putV, putT =>
        have := Option.some.inj hst
        obtain ⟨rfl, rfl⟩ : vs' = sel t a b :: vs0 ∧ ts' = ts0 := ⟨(congrArg (·.1) this).symm, (congrArg (·.2) this).symm⟩
        simp only [List.length_cons] at lv lt' ⊢
        have tb := bT t (List.mem_cons_self ..)
        have ab := bV a (List.mem_cons_of_mem _ (List.mem_cons_self ..))
        have bb := bV b (List.mem_cons_self ..)
        have g1 : gL S 1021 0 (vs0.length + 1) = kk b := hV.1
        have g2 : gL S 1021 0 vs0.length = kk a := hV.2.1
        have g3 : gI S 1022 0 ts0.length = jj t := hT.1
        have jt : (jj t = (0 : Int32)) = (t = 0) := jj_eq (b := 0) (by omega) (by omega) (by decide) (by decide)
        have bT0 : BDT ts0 := fun y hy => bT y (List.mem_cons_of_mem _ hy)
        rw [add1 (vs0.length + 1), add1 ts0.length, chk_true (inn _ (by omega)), nat _ (by omega), g3]
        by_cases z : t = 0
        · rw [if_pos (jt.mpr z), chk_true (inn _ (by omega)), sub1, chk_true (inn _ (by omega)), nat _ (by omega), nat _ (by omega), g1, w1]
          have p := putV vs0 b hV.2.2 (fun y hy => List.mem_cons_of_mem _ (List.mem_cons_of_mem _ hy)) (by omega) bb.1 bb.2
          have es : sel t a b = b := if_pos z
          rw [es]
          exact ⟨_, rfl, p.1, TRU_eq (fun k hk => rfl) hT.2, p.2.1, bT0, by omega, by omega, p.2.2⟩
        · rw [if_neg (fun y => z (jt.mp y)), w1]
          have es : sel t a b = a := if_neg z
          rw [es]
          exact ⟨S, rfl, ⟨g2, hV.2.2⟩, hT.2, fun y hy => bV y (List.mem_cons_of_mem _ hy), bT0, by omega, by omega, FX_refl _ _⟩
      | [], ts, hst, _, _, _, _, _, _, _, _ => exact absurd hst (by simp)
      | [_], ts, hst, _, _, _, _, _, _, _, _ => exact absurd hst (by simp)
      | _ :: _ :: _, [], hst, _, _, _, _, _, _, _, _ => exact absurd hst (by simp)
    · rw [if_neg q3] at hst
      rw [if_neg (fun z => q3 (e3.mp z))]
      by_cases q5 : 5 < c
      · rw [if_neg (show ¬ c ≤ 5 by omega)] at hst
        rw [if_pos (j5.mpr q5)]
        by_cases q10 : 10 ≤ c
        · rw [if_neg (show ¬ c < 10 by omega)] at hst
          rw [if_pos (j10.mpr q10)]
          by_cases q20 : 20 ≤ c
          · rw [if_neg (show ¬ c < 20 by omega)] at hst
            rw [if_pos (j20.mpr q20)]
            by_cases q20e : c = 20
            · rw [if_pos q20e] at hst
              rw [if_pos (e20.mpr q20e)]
              match ts, hst, hT, bT, lt', putT with
              | t :: ts0, hst, hT, bT, lt', putT =>
                have := Option.some.inj hst
                obtain ⟨rfl, rfl⟩ : vs' = vs ∧ ts' = nop t :: ts0 := ⟨(congrArg (·.1) this).symm, (congrArg (·.2) this).symm⟩
                simp only [List.length_cons] at lt' ⊢
                have tb := bT t (List.mem_cons_self ..)
                have g3 : gI S 1022 0 ts0.length = jj t := hT.1
                have jt : (jj t = (0 : Int32)) = (t = 0) := jj_eq (b := 0) (by omega) (by omega) (by decide) (by decide)
                rw [sub1 ts0.length, chk_true (inn _ (by omega)), nat _ (by omega), g3]
                have p := putT ts0 (nop t) hT.2 (fun y hy => List.mem_cons_of_mem _ hy) (nop_b t)
                by_cases z : t = 0
                · rw [if_pos (jt.mpr z), chk_true (inn _ (by omega)), w1]
                  have es : nop t = 1 := if_pos z
                  rw [es] at p ⊢
                  exact ⟨_, rfl, VAL_eq (fun k hk => rfl) hV, p.1, bV, p.2.1, by omega, by omega, p.2.2⟩
                · rw [if_neg (fun y => z (jt.mp y)), chk_true (inn _ (by omega)), w1]
                  have es : nop t = 0 := if_neg z
                  rw [es] at p ⊢
                  exact ⟨_, rfl, VAL_eq (fun k hk => rfl) hV, p.1, bV, p.2.1, by omega, by omega, p.2.2⟩
              | [], hst, _, _, _, _ => exact absurd hst (by simp)
            · rw [if_neg q20e] at hst
              rw [if_neg (fun z => q20e (e20.mp z))]
              match ts, hst, hT, bT, lt', putT with
              | u :: t :: ts0, hst, hT, bT, lt', putT =>
                have := Option.some.inj hst
                obtain ⟨rfl, rfl⟩ : vs' = vs ∧ ts' = jop c t u :: ts0 := ⟨(congrArg (·.1) this).symm, (congrArg (·.2) this).symm⟩
                simp only [List.length_cons] at lt' ⊢
                have ub := bT u (List.mem_cons_self ..)
                have tb := bT t (List.mem_cons_of_mem _ (List.mem_cons_self ..))
                have g3 : gI S 1022 0 (ts0.length + 1) = jj u := hT.1
                have g4 : gI S 1022 0 ts0.length = jj t := hT.2.1
                have iz : isz (jj (jop c t u)) = true := by rcases jop_b c t u with z | z <;> rw [z] <;> rfl
                rw [add1 (ts0.length + 1), sub1 ts0.length, chk_true (inn _ (by omega)), chk_true (inn _ (by omega)), nat _ (by omega), nat _ (by omega), g3, g4, bnd_of (r_joined S (by omega) cb.2 tb ub), chk_true (inn _ (by omega)), chk_true iz, w1]
                have p := putT ts0 (jop c t u) hT.2.2 (fun y hy => List.mem_cons_of_mem _ (List.mem_cons_of_mem _ hy)) (jop_b c t u)
                exact ⟨_, rfl, VAL_eq (fun k hk => rfl) hV, p.1, bV, p.2.1, by omega, by omega, p.2.2⟩
              | [], hst, _, _, _, _ => exact absurd hst (by simp)
              | [_], hst, _, _, _, _ => exact absurd hst (by simp)
          · rw [if_pos (show c < 20 by omega)] at hst
            rw [if_neg (fun z => q20 (j20.mp z))]
            match vs, hst, hV, bV, lv with
            | b :: a :: vs0, hst, hV, bV, lv =>
              have := Option.some.inj hst
              obtain ⟨rfl, rfl⟩ : vs' = vs0 ∧ ts' = cop c a b :: ts := ⟨(congrArg (·.1) this).symm, (congrArg (·.2) this).symm⟩
              simp only [List.length_cons] at lv ⊢
              have ab := bV a (List.mem_cons_of_mem _ (List.mem_cons_self ..))
              have bb := bV b (List.mem_cons_self ..)
              have g1 : gL S 1021 0 (vs0.length + 1) = kk b := hV.1
              have g2 : gL S 1021 0 vs0.length = kk a := hV.2.1
              have iz : isz (jj (cop c a b)) = true := by rcases cop_b c a b with z | z <;> rw [z] <;> rfl
              rw [show jj ((vs0.length + 1 + 1 : Nat) : Int) + (-2 : Int32) = jj (vs0.length : Int) from add2 vs0.length, chk_true (inn _ (by omega)), up1, chk_true (inn _ (by omega)), nat _ (by omega), nat _ (by omega), g1, g2, bnd_of (r_asked S q10 cb.2 ab.1 ab.2 bb.1 bb.2), chk_true (inn _ (by omega)), chk_true iz, up1, w1]
              have p := putT ts (cop c a b) hT (fun y hy => hy) (cop_b c a b)
              exact ⟨_, rfl, VAL_eq (fun k hk => rfl) hV.2.2, p.1, fun y hy => bV y (List.mem_cons_of_mem _ (List.mem_cons_of_mem _ hy)), p.2.1, by omega, by omega, p.2.2⟩
            | [], hst, _, _, _ => exact absurd hst (by simp)
            | [_], hst, _, _, _ => exact absurd hst (by simp)
        · rw [if_pos (show c < 10 by omega)] at hst
          rw [if_neg (fun z => q10 (j10.mp z))]
          match vs, hst, hV, bV, lv, putV with
          | b :: a :: vs0, hst, hV, bV, lv, putV =>
            have := Option.some.inj hst
            obtain ⟨rfl, rfl⟩ : vs' = bop c a b :: vs0 ∧ ts' = ts := ⟨(congrArg (·.1) this).symm, (congrArg (·.2) this).symm⟩
            simp only [List.length_cons] at lv ⊢
            have ab := bV a (List.mem_cons_of_mem _ (List.mem_cons_self ..))
            have bb := bV b (List.mem_cons_self ..)
            have g1 : gL S 1021 0 (vs0.length + 1) = kk b := hV.1
            have g2 : gL S 1021 0 vs0.length = kk a := hV.2.1
            have ob := bop_b c a b
            rw [add1 (vs0.length + 1), sub1 vs0.length, chk_true (inn _ (by omega)), chk_true (inn _ (by omega)), nat _ (by omega), nat _ (by omega), g1, g2, bnd_of (r_two S (by omega) (by omega) ab.1 ab.2 bb.1 bb.2), chk_true (inn _ (by omega)), w1]
            have p := putV vs0 (bop c a b) hV.2.2 (fun y hy => List.mem_cons_of_mem _ (List.mem_cons_of_mem _ hy)) (by omega) (by omega) (by omega)
            exact ⟨_, rfl, p.1, TRU_eq (fun k hk => rfl) hT, p.2.1, bT, by omega, by omega, p.2.2⟩
          | [], hst, _, _, _, _ => exact absurd hst (by simp)
          | [_], hst, _, _, _, _ => exact absurd hst (by simp)
      · rw [if_pos (show c ≤ 5 by omega)] at hst
        rw [if_neg (fun z => q5 (j5.mp z))]
        match vs, hst, hV, bV, lv, putV with
        | a :: vs0, hst, hV, bV, lv, putV =>
          have := Option.some.inj hst
          obtain ⟨rfl, rfl⟩ : vs' = uop c cs a :: vs0 ∧ ts' = ts := ⟨(congrArg (·.1) this).symm, (congrArg (·.2) this).symm⟩
          simp only [List.length_cons] at lv ⊢
          have ab := bV a (List.mem_cons_self ..)
          have g1 : gL S 1021 0 vs0.length = kk a := hV.1
          have ob := uop_b (o := c) (cs := cs) ab.1 ab.2 hE.2
          rw [sub1 vs0.length, chk_true (inn _ (by omega)), nat _ (by omega), g1, bnd_of (r_ofOne S (by omega) (by omega) ab.1 ab.2 hc hE.2), chk_true (inn _ (by omega)), w1]
          have p := putV vs0 (uop c cs a) hV.2 (fun y hy => List.mem_cons_of_mem _ hy) (by omega) ob.1 ob.2
          exact ⟨_, rfl, p.1, TRU_eq (fun k hk => rfl) hT, p.2.1, bT, by omega, by omega, p.2.2⟩
        | [], hst, _, _, _, _ => exact absurd hst (by simp)
  · rw [if_neg (fun z => q1 (j1.mp z))]
    by_cases q0 : c = 0
    · rw [if_pos q0] at hst
      rw [if_pos (e0.mpr q0)]
      have db : 0 ≤ d ∧ d ≤ 9999 := by
        rcases hcv with z | z | z
        · exact z.2
        · have : c = 1 := z.1; omega
        · have : 2 ≤ c := z.1; omega
      have := Option.some.inj hst
      obtain ⟨rfl, rfl⟩ : vs' = d :: vs ∧ ts' = ts := ⟨(congrArg (·.1) this).symm, (congrArg (·.2) this).symm⟩
      rw [chk_true (inn _ (by omega)), nat _ (by omega), jj_long (by omega) (by omega), up1, w1]
      have p := putV vs d hV (fun y hy => hy) lv (by omega) (by omega)
      exact ⟨_, rfl, p.1, TRU_eq (fun k hk => rfl) hT, p.2.1, bT, by simp, by omega, p.2.2⟩
    · have q1' : c = 1 := by omega
      rw [if_neg q0, if_pos q1'] at hst
      rw [if_neg (fun z => q0 (e0.mp z))]
      have db : 0 ≤ d ∧ d < m := by
        rcases hcv with z | z | z
        · exact absurd z.1 q0
        · exact z.2
        · have : 2 ≤ c := z.1; omega
      have := Option.some.inj hst
      obtain ⟨rfl, rfl⟩ : vs' = nv d :: vs ∧ ts' = ts := ⟨(congrArg (·.1) this).symm, (congrArg (·.2) this).symm⟩
      have nb := hE.1 d db.1 db.2
      rw [chk_true (jj_inb (by omega) (by omega) (by omega)), chk_true (inn _ (by omega)), nat _ (by omega), jj_nat (by omega) (by omega), hn d db.1 db.2, jj_long (by omega) (by omega), up1, w1]
      have p := putV vs (nv d) hV (fun y hy => hy) lv (by omega) (by omega)
      exact ⟨_, rfl, p.1, TRU_eq (fun k hk => rfl) hT, p.2.1, bT, by simp, by omega, p.2.2⟩
