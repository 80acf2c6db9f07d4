theorem k_text {S : St} {N : Nat} {T : Int} (hN : 4000 < N) (t0 : 0 ≤ T) (t1 : T < 512) (hI : INV T S) : TWO (fun S => f_X9_text N S) (fun S => f_X10_text N S) T S := by
  obtain ⟨A, B, hI⟩ := hI
  obtain ⟨i1, i2, i3, i4, i5, i6, i7, i8, i9, i10, i11⟩ := id hI
  obtain ⟨⟨EM, ET, hE⟩, x2, x3, x4, x5, x6⟩ := id i11
  have a2 := i5.2.1
  have a2' := i5.2.2.1
  have g8 : gI S 808 0 0 = jj (A 2) := i3.1.2.2.1
  have e2 : gI S 1000 0 2 = jj (A 2) := i1 2 (by decide) (by decide)
  show ∃ v S1 S2, f_X9_text N S = some (v, S1) ∧ f_X10_text N S1 = some (v, S2) ∧ INV (T + 1) S2
  by_cases full : A 2 = 4
  · refine ⟨-1, S, S, ?_, ?_, INV_same hI t0 t1⟩
    · unfold f_X9_text
      rw [g8, full, if_neg (show ¬ jj 4 < (4 : Int32) by decide)]
    · unfold f_X10_text
      rw [e2, full, if_pos (show jj 4 = 4 from rfl)]
  obtain ⟨nn, bb, p1, p2, p3, p4, p5⟩ := i9
  -- the bytes as Nat
  have hBY : BYT S (fun i => if i < nn.toNat then (bb i).toNat else 0) nn.toNat := by
    refine ⟨by rw [p1]; exact jj_ii p3, fun i hi => ?_, by omega, fun i => ?_⟩
    · have := p5 i (by omega) (by omega)
      simp only
      rw [if_pos hi]
      have e := this.1
      rw [Int.toNat_natCast] at e
      rw [e]
      exact jj_ii this.2.2.1
    · simp only
      split
      · rename_i hi
        have := p5 i (by omega) (by omega)
        omega
      · decide
  have hBR : ∀ R : St, gI R 1004 0 0 = gI S 1004 0 0 → (∀ k, gI R 1003 0 k = gI S 1003 0 k) → BYR R (fun i => if i < nn.toNat then (bb i).toNat else 0) nn.toNat := by
    intro R r4 r3
    refine ⟨by rw [r4, p2]; exact jj_ii p3, fun i hi => ?_, hBY.2.2⟩
    have := p5 i (by omega) (by omega)
    simp only
    rw [if_pos hi, r3]
    have e := this.2.1
    rw [Int.toNat_natCast] at e
    rw [e]
    exact jj_ii this.2.2.1
  generalize (fun i => if i < nn.toNat then (bb i).toNat else 0 : Nat → Nat) = b at hBY hBR
  have n4 : ¬ jj (A 2) = (4 : Int32) := by rw [show (4 : Int32) = jj 4 from rfl, jj_eq (by omega) (by omega) (by decide) (by decide)]; exact full
  have l4 : jj (A 2) < (4 : Int32) := by rw [show (4 : Int32) = jj 4 from rfl, jj_lt (by omega) (by omega) (by decide) (by decide)]; omega
  have nL : (jj (A 2)).toNatClampNeg = (A 2).toNat := jj_nat (by omega) (by omega)
  have cA : jj (((A 2).toNat : Nat) : Int) = jj (A 2) := by rw [Int.toNat_of_nonneg a2]
  rcases t_tape (N := N) hN hBY x6 with ⟨S', x, CL, em, et, e, x0, x1, xz, T', X', y1, y2, y3, y4, ref⟩ | ⟨S', f, j, e, f0, f1, X', y1, y2, y3, y4, ref⟩
  · obtain ⟨q, fc, q1, q2, q3, q4, q5, q6, q7⟩ := id T'
    have c8 : gI S' 808 0 0 = jj (A 2) := (X'.1 808 0 0 (by unfold RTF; omega)).trans g8
    -- the class
    have F4 : FX (fun f j => (f = 807 ∧ j = 0) ∨ (f = 808 ∧ j = 0)) S' (sI (sR S' 807 0 (A 2).toNat x) 808 0 0 (jj (A 2 + 1))) := FX_sI (FX_sR (FX_refl _ _) (Or.inl ⟨rfl, rfl⟩)) (Or.inr ⟨rfl, rfl⟩)
    have ec : f_X9_text N S = some (jj (A 2), sI (sR S' 807 0 (A 2).toNat x) 808 0 0 (jj (A 2 + 1))) := by
      unfold f_X9_text
      rw [g8, if_pos l4, bnd_of e]
      simp only [lt]
      rw [if_neg x0, c8, chk_true (jj_inb a2 (by omega) (by omega)), bnd_of q1, nL, show gI (sR S' 807 0 (A 2).toNat x) 808 0 0 = jj (A 2) from c8, show jj (A 2) + (1 : Int32) = jj (A 2 + 1) from jj_add _ 1, show gI (sI (sR S' 807 0 (A 2).toNat x) 808 0 0 (jj (A 2 + 1))) 808 0 0 = jj (A 2 + 1) from by rw [gI_sI, if_pos ⟨rfl, rfl, rfl⟩], show jj (A 2 + 1) - (1 : Int32) = jj (A 2) from (jj_sub _ 1).trans (by congr 1; omega)]
    have h807 : gR (sI (sR S' 807 0 (A 2).toNat x) 808 0 0 (jj (A 2 + 1))) 807 0 (A 2).toNat = x := by
      show gR (sR S' 807 0 (A 2).toNat x) 807 0 (A 2).toNat = x
      rw [gR_sR, if_pos ⟨rfl, rfl, rfl⟩]
    have o807 : ∀ w t, ¬ (w = 0 ∧ t = (A 2).toNat) → gR (sI (sR S' 807 0 (A 2).toNat x) 808 0 0 (jj (A 2 + 1))) 807 w t = gR S 807 w t := fun w t hw => by
      show gR (sR S' 807 0 (A 2).toNat x) 807 w t = _
      rw [gR_sR, if_neg (by omega)]
      exact X'.2.2.1 807 w t (by unfold RTF; omega)
    have h808 : gI (sI (sR S' 807 0 (A 2).toNat x) 808 0 0 (jj (A 2 + 1))) 808 0 0 = jj (A 2 + 1) := by rw [gI_sI, if_pos ⟨rfl, rfl, rfl⟩]
    generalize sI (sR S' 807 0 (A 2).toNat x) 808 0 0 (jj (A 2 + 1)) = S4 at F4 ec h807 o807 h808
    have k4 : ∀ f, 1000 ≤ f → ∀ k, gI S4 f 0 k = gI S f 0 k := fun f hf k => (F4.1 f 0 k (by omega)).trans (X'.1 f 0 k (by unfold RTF; omega))
    obtain ⟨R, D, j, r1, r2, r3, r4, r5⟩ := ref S4 (A 2).toNat (hBR S4 (k4 1004 (by omega) 0) (fun k => k4 1003 (by omega) k)) (by rw [k4 1000 (by omega), e2, cA]) (by omega)
    -- the reference
    have A4 : AR 1000 R A := fun k a b => (r4.1 1000 0 _ (by omega)).trans ((k4 1000 (by omega) _).trans (i1 k a b))
    have F8 : FX (fun f _ => f = 1000 ∨ (1004 ≤ f ∧ f ≤ 1006)) R (sI (sI (sI (sI R 1005 0 0 0) 1006 0 0 (-1)) 1004 0 0 0) 1000 0 2 (jj (A 2 + 1))) := FX_sI (FX_sI (FX_sI (FX_sI (FX_refl _ _) (by omega)) (by omega)) (by omega)) (by omega)
    have er : f_X10_text N S4 = some (jj (A 2), sI (sI (sI (sI R 1005 0 0 0) 1006 0 0 (-1)) 1004 0 0 0) 1000 0 2 (jj (A 2 + 1))) := by
      have g2 : gI (sI (sI (sI R 1005 0 0 0) 1006 0 0 (-1)) 1004 0 0 0) 1000 0 2 = jj (A 2) := A4 2 (by decide) (by decide)
      unfold f_X10_text f_X10_text_b36
      rw [k4 1000 (by omega), e2, if_neg n4, bnd_of r1]
      simp only [lt]
      rw [if_pos (show gI (sI R 1005 0 0 0) 1005 0 0 = 0 by rw [gI_sI, if_pos ⟨rfl, rfl, rfl⟩]), if_pos (show gI (sI (sI (sI R 1005 0 0 0) 1006 0 0 (-1)) 1004 0 0 0) 1005 0 0 = 0 by rw [gI_sI, if_neg (by omega), gI_sI, if_neg (by omega), gI_sI, if_pos ⟨rfl, rfl, rfl⟩]), g2, show jj (A 2) + (1 : Int32) = jj (A 2 + 1) from jj_add _ 1, show gI (sI (sI (sI (sI R 1005 0 0 0) 1006 0 0 (-1)) 1004 0 0 0) 1000 0 2 (jj (A 2 + 1))) 1000 0 2 = jj (A 2 + 1) from by rw [gI_sI, if_pos ⟨rfl, rfl, rfl⟩], show jj (A 2 + 1) - (1 : Int32) = jj (A 2) from (jj_sub _ 1).trans (by congr 1; omega)]
    have A8 : AR 1000 (sI (sI (sI (sI R 1005 0 0 0) 1006 0 0 (-1)) 1004 0 0 0) 1000 0 2 (jj (A 2 + 1))) (UP A 2 (A 2 + 1)) := AR_set (k := 2) (v := A 2 + 1) (S := sI (sI (sI R 1005 0 0 0) 1006 0 0 (-1)) 1004 0 0 0) A4 (by decide)
    have v5 : gI (sI (sI (sI (sI R 1005 0 0 0) 1006 0 0 (-1)) 1004 0 0 0) 1000 0 2 (jj (A 2 + 1))) 1005 0 0 = 0 := by rw [gI_sI, if_neg (by omega), gI_sI, if_neg (by omega), gI_sI, if_neg (by omega), gI_sI, if_pos ⟨rfl, rfl, rfl⟩]
    have v6 : gI (sI (sI (sI (sI R 1005 0 0 0) 1006 0 0 (-1)) 1004 0 0 0) 1000 0 2 (jj (A 2 + 1))) 1006 0 0 = -1 := by rw [gI_sI, if_neg (by omega), gI_sI, if_neg (by omega), gI_sI, if_pos ⟨rfl, rfl, rfl⟩]
    have v4 : gI (sI (sI (sI (sI R 1005 0 0 0) 1006 0 0 (-1)) 1004 0 0 0) 1000 0 2 (jj (A 2 + 1))) 1004 0 0 = 0 := by rw [gI_sI, if_neg (by omega), gI_sI, if_pos ⟨rfl, rfl, rfl⟩]
    generalize sI (sI (sI (sI R 1005 0 0 0) 1006 0 0 (-1)) 1004 0 0 0) 1000 0 2 (jj (A 2 + 1)) = S2 at F8 er A8 v5 v6 v4
    have F42 : FX (fun f _ => f = 1000 ∨ f = 1002 ∨ (1004 ≤ f ∧ f ≤ 1019)) S4 S2 := FX_trans (FX_sub r4 (fun f _ z => by omega)) (FX_sub F8 (fun f _ z => by omega))
    have F92 : FX (fun f j => (f = 807 ∧ j = 0) ∨ (f = 808 ∧ j = 0) ∨ f = 1000 ∨ f = 1002 ∨ (1004 ≤ f ∧ f ≤ 1019)) S' S2 := FX_trans (FX_sub F4 (fun f j z => by omega)) (FX_sub F42 (fun f j z => by omega))
    have hJ : FXJ S S2 := FXJ_of X' F92 (fun f j z => by unfold PTX; omega)
    have s807 : gR S2 807 0 (A 2).toNat = x := (F42.2.2.1 807 0 _ (by omega)).trans h807
    have t807 : ∀ w t, ¬ (w = 0 ∧ t = (A 2).toNat) → gR S2 807 w t = gR S 807 w t := fun w t hw => (F42.2.2.1 807 w t (by omega)).trans (o807 w t hw)
    have s808 : gI S2 808 0 0 = jj (A 2 + 1) := (F42.1 808 0 0 (by omega)).trans h808
    have row : ∀ k, gI S2 1002 0 k = gI R 1002 0 k := fun k => F8.1 1002 0 k (by omega)
    have rowS : ∀ k : Nat, (k : Int) < 681 * A 2 → gI S2 1002 0 k = gI S 1002 0 k := fun k hk => by rw [row k, r5 k (by omega), k4 1002 (by omega) k]
    have dn' : DN S' := X'.2.2.2.2.2 x6
    have X92 : EXD S' S2 := EXD_FX F92
    have k2 : ∀ f, f < 800 → ∀ k, gI S2 f 0 k = gI S' f 0 k := fun f hf k => F92.1 f 0 k (by omega)
    refine ⟨jj (A 2), S4, S2, ec, er, INV_text hI t0 t1 hJ A8 (fun i hi => UP_ne hi) (by rw [UP_hit]; omega) (by rw [UP_hit]; omega) (by rw [UP_hit]; exact s808) ⟨0, fun _ => 0, by rw [k2 501 (by omega)]; exact y1, v4, by decide, by decide, fun i a b => by omega⟩ (Or.inr ⟨by rw [k2 101 (by omega)]; exact y2, by rw [v5, k2 102 (by omega)]; exact y3.symm, by rw [v6, k2 103 (by omega)]; exact y4.symm⟩) ?_⟩
    have cl : CL.length ≤ 24 := q3
    have gT2 : gT S2 x = some q := gT_ext dn' X92 q1
    have u2 : UP A 2 (A 2 + 1) 2 = A 2 + 1 := UP_hit
    refine ⟨⟨fun L => if L = A 2 then em else EM L, fun L => if L = A 2 then et else ET L, fun L a c => ?_⟩, fun L a c => ?_, by rw [u2]; omega, fun L a c => ?_, fun w t hw ht => ?_, hJ.2.2.2.2.2 x6⟩
    · rw [u2] at c
      by_cases z : L = A 2
      · simp only
        rw [if_pos z, if_pos z, z]
        have l0' : ¬ jj (A 2) < (0 : Int32) := by rw [show (0 : Int32) = jj 0 from rfl, jj_lt (by omega) (by omega) (by decide) (by decide)]; omega
        have l1' : jj (A 2) < jj (A 2 + 1) := by rw [jj_lt (by omega) (by omega) (by omega) (by omega)]; omega
        refine ⟨⟨⟨q.2.1, ?_, EVX_ext dn' X92 q6⟩, q.2.2, ?_, EVX_ext dn' X92 q7⟩, ?_⟩
        · unfold f_X8_movesOf
          rw [if_neg l0', s808, if_pos l1', chk_true (jj_inb a2 (by omega) (by omega)), nL, s807, if_neg x0, bnd_of gT2]
        · unfold f_X8_tearsOf
          rw [if_neg l0', s808, if_pos l1', chk_true (jj_inb a2 (by omega) (by omega)), nL, s807, if_neg x0, bnd_of gT2]
        · have lm := r2.2.2.2.2.2.2.2.2.1
          have lt' := r2.2.2.2.2.2.2.2.2.2.1
          have ev1 := EVM_slot (S2 := S2) (sort := 0) (m := 8) r2 cl (fun c hc => ⟨(q5 c hc).1, (q5 c hc).2.1⟩) r3 row (by decide) (by decide) (by decide) lm
          have ev2 := EVM_slot (S2 := S2) (sort := 1) (m := 4) r2 cl (fun c hc => ⟨(q5 c hc).1, (q5 c hc).2.1⟩) r3 row (by decide) (by decide) (by decide) lt'
          rw [Int.toNat_of_nonneg a2] at ev1 ev2
          exact ⟨ev1, ev2⟩
      · simp only
        rw [if_neg z, if_neg z]
        exact old_slot (B := B) (EM := EM) (ET := ET) x6 hJ.2.2.2 g8 s808 a2 a2' (by omega) (by omega) (fun t h1 h2 => t807 0 _ (by omega)) rowS a (by omega) (hE L a (by omega))
    · rw [u2] at c
      by_cases z : L = A 2
      · rw [z]
        refine ⟨⟨q, CL.length, fc, by rw [s807]; exact gT2, gA_ext dn' X92 q2, cl, ?_, fun k ka kb => ?_⟩, by rw [s807]; exact x0⟩
        · rw [row, show (681 * A 2).toNat = 681 * (A 2).toNat by omega]
          exact r2.2.2.2.2.2.1
        · have kl : k.toNat < CL.length := by omega
          have eg : CL[k.toNat]? = some CL[k.toNat] := List.getElem?_eq_getElem kl
          have cb := q5 _ (List.getElem_mem kl)
          obtain ⟨f1', f2', f3'⟩ := q4 k.toNat _ eg
          obtain ⟨h1, h2, h3⟩ := r2.2.2.2.2.2.2.1 k.toNat _ eg
          generalize CL[k.toNat] = c at *
          have c9 : c.2.1 ≤ 9999 := by have := cb.2.2.2.1; split at this <;> omega
          refine ⟨c.1, c.2.1, c.2.2, cb.1, cb.2.1, cb.2.2.1, c9, cb.2.2.2.2.1, cb.2.2.2.2.2, ?_, ?_, ⟨fun w1 w2 => ⟨?_, ?_⟩, fun w1 => ⟨?_, ?_⟩⟩, fun w1 => ?_⟩
          · rw [show (3 * k).toNat = 3 * k.toNat by omega]; exact f1'
          · rw [row, show (681 * A 2 + 1 + 3 * k).toNat = 681 * (A 2).toNat + 1 + 3 * k.toNat by omega]; exact h1
          · rw [show (3 * k + 1).toNat = 3 * k.toNat + 1 by omega]; exact f2'
          · rw [row, show (681 * A 2 + 1 + 3 * k + 1).toNat = 681 * (A 2).toNat + 1 + 3 * k.toNat + 1 by omega]; exact h2 w1 w2
          · rw [show (3 * k + 2).toNat = 3 * k.toNat + 2 by omega]; exact f3'
          · rw [row, show (681 * A 2 + 1 + 3 * k + 2).toNat = 681 * (A 2).toNat + 1 + 3 * k.toNat + 2 by omega]; exact h3 w1
          · have := cb.2.2.2.1
            rw [if_pos w1] at this
            exact this
      · exact old_cls x6 hJ.2.2.2 (fun t h1 h2 => t807 0 _ (by omega)) rowS a (by omega) (x2 L a (by omega))
    · rw [t807 1 _ (by omega), t807 0 _ (by omega)]
      exact x4 L a c
    · by_cases z : w = 0 ∧ t = (A 2).toNat
      · rw [z.1, z.2, s807]
        have zz := X92.1
        exact Or.inr ⟨⟨q, gT2⟩, by omega⟩
      · rw [t807 w t z]
        rcases x5 w t hw ht with y | ⟨⟨q', y⟩, y'⟩
        · exact Or.inl y
        · have zz := hJ.2.2.2.1
          exact Or.inr ⟨⟨q', gT_ext x6 hJ.2.2.2 y⟩, by omega⟩
  · -- a fault
    have ec : f_X9_text N S = some (-1, S') := by
      unfold f_X9_text
      rw [g8, if_pos l4, bnd_of e]
      rfl
    have k4 : ∀ f, 1000 ≤ f → ∀ k, gI S' f 0 k = gI S f 0 k := fun f hf k => X'.1 f 0 k (by unfold RTF; omega)
    obtain ⟨R, r1, r2, r4, r5⟩ := ref S' (A 2).toNat (hBR S' (k4 1004 (by omega) 0) (fun k => k4 1003 (by omega) k)) (by rw [k4 1000 (by omega), e2, cA]) (by omega)
    have fz : ¬ jj f = (0 : Int32) := by rw [show (0 : Int32) = jj 0 from rfl, jj_eq (by omega) (by omega) (by decide) (by decide)]; omega
    have F8 : FX (fun f _ => 1004 ≤ f ∧ f ≤ 1006) R (sI (sI (sI R 1005 0 0 (jj f)) 1006 0 0 (ii (plc b nn.toNat j))) 1004 0 0 0) := FX_sI (FX_sI (FX_sI (FX_refl _ _) (by omega)) (by omega)) (by omega)
    have v5 : gI (sI (sI (sI R 1005 0 0 (jj f)) 1006 0 0 (ii (plc b nn.toNat j))) 1004 0 0 0) 1005 0 0 = jj f := by rw [gI_sI, if_neg (by omega), gI_sI, if_neg (by omega), gI_sI, if_pos ⟨rfl, rfl, rfl⟩]
    have v6 : gI (sI (sI (sI R 1005 0 0 (jj f)) 1006 0 0 (ii (plc b nn.toNat j))) 1004 0 0 0) 1006 0 0 = ii (plc b nn.toNat j) := by rw [gI_sI, if_neg (by omega), gI_sI, if_pos ⟨rfl, rfl, rfl⟩]
    have v4 : gI (sI (sI (sI R 1005 0 0 (jj f)) 1006 0 0 (ii (plc b nn.toNat j))) 1004 0 0 0) 1004 0 0 = 0 := by rw [gI_sI, if_pos ⟨rfl, rfl, rfl⟩]
    have er : f_X10_text N S' = some (-1, sI (sI (sI R 1005 0 0 (jj f)) 1006 0 0 (ii (plc b nn.toNat j))) 1004 0 0 0) := by
      unfold f_X10_text f_X10_text_b36
      rw [k4 1000 (by omega), e2, if_neg n4, bnd_of r1]
      simp only [lt]
      rw [if_neg (show ¬ gI (sI R 1005 0 0 (jj f)) 1005 0 0 = 0 by rw [gI_sI, if_pos ⟨rfl, rfl, rfl⟩]; exact fz), show gI (sI R 1005 0 0 (jj f)) 1008 0 0 = ii (plc b nn.toNat j) from by rw [gI_sI, if_neg (by omega)]; exact r2, v5, if_neg fz]
    generalize sI (sI (sI R 1005 0 0 (jj f)) 1006 0 0 (ii (plc b nn.toNat j))) 1004 0 0 0 = S2 at F8 v5 v6 v4 er
    have F42 : FX (fun f _ => f = 1002 ∨ (1004 ≤ f ∧ f ≤ 1019)) S' S2 := FX_trans (FX_sub r4 (fun f _ z => by omega)) (FX_sub F8 (fun f _ z => by omega))
    have hJ : FXJ S S2 := FXJ_of X' F42 (fun f j z => by unfold PTX; omega)
    have t807 : ∀ w t, gR S2 807 w t = gR S 807 w t := fun w t => (F42.2.2.1 807 w t (by omega)).trans (X'.2.2.1 807 w t (by unfold RTF; omega))
    have s808 : gI S2 808 0 0 = jj (A 2) := (F42.1 808 0 0 (by omega)).trans ((X'.1 808 0 0 (by unfold RTF; omega)).trans g8)
    have rowS : ∀ k : Nat, (k : Int) < 681 * A 2 → gI S2 1002 0 k = gI S 1002 0 k := fun k hk => by rw [F8.1 1002 0 k (by omega), r5 k (by omega), k4 1002 (by omega) k]
    have k2 : ∀ f, f < 1000 → ∀ k, gI S2 f 0 k = gI S' f 0 k := fun f hf k => F42.1 f 0 k (by omega)
    have A8 : AR 1000 S2 A := fun k a b => (F42.1 1000 0 _ (by omega)).trans ((k4 1000 (by omega) _).trans (i1 k a b))
    refine ⟨-1, S', S2, ec, er, INV_text hI t0 t1 hJ A8 (fun _ _ => rfl) (Int.le_refl _) a2' s808 ⟨0, fun _ => 0, by rw [k2 501 (by omega)]; exact y1, v4, by decide, by decide, fun i a b => by omega⟩ (Or.inr ⟨by rw [k2 101 (by omega)]; exact y2, by rw [v5, k2 102 (by omega)]; exact y3.symm, by rw [v6, k2 103 (by omega)]; exact y4.symm⟩) ?_⟩
    refine ⟨⟨EM, ET, fun L a c => old_slot (B := B) (EM := EM) (ET := ET) x6 hJ.2.2.2 g8 s808 a2 a2' (Int.le_refl _) a2' (fun t h1 h2 => t807 0 _) rowS a c (hE L a c)⟩, fun L a c => old_cls x6 hJ.2.2.2 (fun t h1 h2 => t807 0 _) rowS a c (x2 L a c), x3, fun L a c => ?_, fun w t hw ht => ?_, hJ.2.2.2.2.2 x6⟩
    · rw [t807, t807]; exact x4 L a c
    · rw [t807]
      rcases x5 w t hw ht with y | ⟨⟨q', y⟩, y'⟩
      · exact Or.inl y
      · have zz := hJ.2.2.2.1
        exact Or.inr ⟨⟨q', gT_ext x6 hJ.2.2.2 y⟩, by omega⟩
