/-! TEXTS: deeds, read by both. -/
def CT0 (K : Ks) (S : St) (i : Nat) : Prop := CTK K S ∧ i < K.2.2.2.1 ∧ gI S 104 0 0 = jj (i : Int) ∧ gI S 105 0 0 = jj (K.1 i)
def DFX (f _j : Nat) : Prop := 102 ≤ f ∧ f ≤ 106
theorem CTK_of {K : Ks} {P : Nat → Nat → Prop} {S S' : St} (h : FX P S S') (p : ∀ f, 502 ≤ f → f ≤ 505 → ¬ P f 0) (hK : CTK K S) : CTK K S' := ⟨(h.1 505 0 0 (p _ (by omega) (by omega))).trans hK.1, fun j hj => by
  obtain ⟨a, b, c⟩ := hK.2 j hj
  exact ⟨(h.1 502 0 _ (p _ (by omega) (by omega))).trans a, (h.1 503 0 _ (p _ (by omega) (by omega))).trans b, (h.1 504 0 _ (p _ (by omega) (by omega))).trans c⟩⟩
theorem d_adv {K : Ks} {S : St} {i : Nat} (hT : TS K) (hC : CT0 K S i) (h : K.1 i ≠ 40) : ∃ S', f_X1_advance S = some S' ∧ CT0 K S' (i + 1) ∧ FX (fun f _ => f = 104 ∨ f = 105) S S' := by
  have hn := TS_next hT hC.2.1 h
  have nt := hT.2.1
  obtain ⟨hK, h1, h2, h3⟩ := hC
  have F : FX (fun f _ => f = 104 ∨ f = 105) S (sI (sI S 104 0 0 (jj ((i + 1 : Nat) : Int))) 105 0 0 (jj (K.1 (i + 1)))) := FX_sI (FX_sI (FX_refl _ _) (Or.inl rfl)) (Or.inr rfl)
  refine ⟨_, ?_, ⟨CTK_of F (fun f a b => by omega) hK, hn, ?_, ?_⟩, F⟩
  · unfold f_X1_advance f_X1_advance_b26
    simp only [lt]
    rw [h2, hK.1, show jj (i : Int) + (1 : Int32) = jj ((i + 1 : Nat) : Int) from jn_add i 1, if_neg (show ¬ jj (K.2.2.2.1 : Nat) ≤ jj ((i + 1 : Nat) : Int) by rw [jj_le (by omega) (by omega) (by omega) (by omega)]; omega), show gI (sI S 104 0 0 (jj ((i + 1 : Nat) : Int))) 104 0 0 = jj ((i + 1 : Nat) : Int) from by rw [gI_sI, if_pos ⟨rfl, rfl, rfl⟩], chk_true (jj_inb (by omega) (by omega) (by omega)), jj_nat (by omega) (by omega), Int.toNat_natCast, show gI (sI S 104 0 0 (jj ((i + 1 : Nat) : Int))) 502 0 (i + 1) = jj (K.1 (i + 1)) from by rw [gI_sI, if_neg (by omega)]; exact (hK.2 (i + 1) hn).1]
  · rw [gI_sI, if_neg (by omega), gI_sI, if_pos ⟨rfl, rfl, rfl⟩]
  · rw [gI_sI, if_pos ⟨rfl, rfl, rfl⟩]
def FLD (K : Ks) (S' : St) (f : Int) (j : Nat) : Prop := gI S' 102 0 0 = jj f ∧ gI S' 103 0 0 = jj (K.2.2.1 j) ∧ j < K.2.2.2.1 ∧ 1 ≤ f ∧ f ≤ 6
theorem d_faulty {K : Ks} {S : St} {i : Nat} {f : Int} {x : Int32} (hT : TS K) (hC : CT0 K S i) (e : x = jj f) (f0 : 1 ≤ f) (f1 : f ≤ 6) : ∃ S', (bnd (f_X1_faulty S x) fun q => chk (isz q.1) (some (q.1, q.2))) = some (0, S') ∧ FLD K S' f i ∧ FX (fun f _ => f = 102 ∨ f = 103) S S' := by
  have nt := hT.2.1
  obtain ⟨hK, h1, h2, h3⟩ := hC
  refine ⟨sI (sI S 102 0 0 (jj f)) 103 0 0 (jj (K.2.2.1 i)), ?_, ⟨?_, ?_, h1, f0, f1⟩, FX_sI (FX_sI (FX_refl _ _) (Or.inl rfl)) (Or.inr rfl)⟩
  · have e1 : f_X1_faulty S x = some (0, sI (sI S 102 0 0 (jj f)) 103 0 0 (jj (K.2.2.1 i))) := by
      unfold f_X1_faulty
      simp only [lt]
      rw [e, show gI (sI S 102 0 0 (jj f)) 104 0 0 = jj (i : Int) from by rw [gI_sI, if_neg (by omega)]; exact h2, chk_true (jj_inb (by omega) (by omega) (by omega)), jj_nat (by omega) (by omega), Int.toNat_natCast, show gI (sI S 102 0 0 (jj f)) 503 0 i = jj (K.2.2.1 i) from by rw [gI_sI, if_neg (by omega)]; exact (hK.2 i h1).2.1]
    rw [bnd_of e1]
    exact chk_true rfl
  · rw [gI_sI, if_neg (by omega), gI_sI, if_pos ⟨rfl, rfl, rfl⟩]
  · rw [gI_sI, if_pos ⟨rfl, rfl, rfl⟩]
theorem d_takes {K : Ks} {S : St} {i : Nat} {k : Int} (hT : TS K) (hC : CT0 K S i) (k0 : 0 ≤ k) (k1 : k ≤ 39) : (K.1 i = k ∧ ∃ S', f_X1_takes S (jj k) = some (1, S') ∧ CT0 K S' (i + 1) ∧ FX (fun f _ => f = 104 ∨ f = 105) S S') ∨ (K.1 i ≠ k ∧ ∃ S', f_X1_takes S (jj k) = some (0, S') ∧ FLD K S' 1 i ∧ FX (fun f _ => f = 102 ∨ f = 103) S S') := by
  have b := hT.2.2.2.2.1 i
  have e : (jj (K.1 i) = jj k) = (K.1 i = k) := jj_eq (by omega) (by omega) (by omega) (by omega)
  unfold f_X1_takes
  rw [hC.2.2.2]
  by_cases q : K.1 i = k
  · obtain ⟨S', e1, a, c⟩ := d_adv hT hC (by omega)
    refine Or.inl ⟨q, S', ?_, a, c⟩
    rw [if_pos (e.mpr q), bnd_of e1]
  · obtain ⟨S', e1, a, c⟩ := d_faulty (x := 1) (f := 1) hT hC rfl (by decide) (by decide)
    refine Or.inr ⟨q, S', ?_, a, c⟩
    rw [if_neg (fun z => q (e.mp z))]
    exact e1
/-- a number of a clause: where it stands in the class's row -/
theorem d_num0 {K : Ks} {S : St} {i nc : Nat} {p lo hi : Int} (hT : TS K) (hC : CT0 K S i) (h7 : gI S 107 0 0 = jj (nc : Int)) (hn : nc < 24) (p0 : 0 ≤ p) (p1 : p ≤ 2) (lo0 : 0 ≤ lo) (hi1 : hi ≤ 9999) (hi0 : 0 ≤ hi) (lo1 : lo ≤ 9999) : ((K.1 i = 39 ∧ lo ≤ K.2.1 i ∧ K.2.1 i ≤ hi) ∧ ∃ S', f_X1_readNumber S (jj p) (jj lo) (jj hi) = some (1, S') ∧ CT0 K S' (i + 1) ∧ gI S' 106 0 (3 * nc + p.toNat) = jj (K.2.1 i) ∧ (∀ k, k ≠ 3 * nc + p.toNat → gI S' 106 0 k = gI S 106 0 k) ∧ FX DFX S S' ∧ gI S' 102 0 0 = gI S 102 0 0 ∧ gI S' 103 0 0 = gI S 103 0 0) ∨ ((K.1 i ≠ 39 ∨ ¬ (lo ≤ K.2.1 i ∧ K.2.1 i ≤ hi)) ∧ ∃ S', f_X1_readNumber S (jj p) (jj lo) (jj hi) = some (0, S') ∧ FLD K S' (if K.1 i = 39 then 2 else 1) i ∧ FX (fun f _ => f = 102 ∨ f = 103) S S') := by
  have nt := hT.2.1
  have b := hT.2.2.2.2.1 i
  have nb := hT.2.2.2.2.2.1 i
  have e39 : (jj (K.1 i) = (39 : Int32)) = (K.1 i = 39) := jj_eq (b := 39) (by omega) (by omega) (by decide) (by decide)
  obtain ⟨hK, h1, h2, h3⟩ := id hC
  have nat : (jj (i : Int)).toNatClampNeg = i := by rw [jj_nat (by omega) (by omega), Int.toNat_natCast]
  have inn : inb (jj (i : Int)) 301 = true := jj_inb (by omega) (by omega) (by omega)
  unfold f_X1_readNumber
  rw [h3]
  by_cases q : K.1 i = 39
  · have l1 : (jj (K.2.1 i) < jj lo) = (K.2.1 i < lo) := jj_lt (by omega) (by omega) (by omega) (by omega)
    have l2 : (jj (K.2.1 i) ≤ jj hi) = (K.2.1 i ≤ hi) := jj_le (by omega) (by omega) (by omega) (by omega)
    rw [if_pos (e39.mpr q), h2, chk_true inn, nat, (hK.2 i h1).2.2]
    have bad : ∃ S', f_X1_readNumber_b47 S = some (0, S') ∧ FLD K S' (if K.1 i = 39 then 2 else 1) i ∧ FX (fun f _ => f = 102 ∨ f = 103) S S' := by
      obtain ⟨S', e1, a, c⟩ := d_faulty (x := 2) (f := 2) hT hC rfl (by decide) (by decide)
      refine ⟨S', e1, ?_, c⟩
      rw [if_pos q]
      exact a
    by_cases q1 : K.2.1 i < lo
    · rw [if_pos (l1.mpr q1)]
      exact Or.inr ⟨Or.inr (by omega), bad⟩
    · rw [if_neg (fun z => q1 (l1.mp z)), chk_true inn]
      by_cases q2 : K.2.1 i ≤ hi
      · have ix : (3 : Int32) * jj (nc : Int) + jj p = jj ((3 * nc + p.toNat : Nat) : Int) := by
          rw [show (3 : Int32) = jj 3 from rfl, jj_mul, jj_add]
          congr 1
          omega
        have F1 : FX (fun f _ => f = 106) S (sI S 106 0 (3 * nc + p.toNat) (jj (K.2.1 i))) := FX_sI (FX_refl _ _) rfl
        obtain ⟨S', e1, a, c⟩ := d_adv hT (S := sI S 106 0 (3 * nc + p.toNat) (jj (K.2.1 i))) ⟨CTK_of F1 (fun f a b => by omega) hK, h1, (F1.1 104 0 0 (by omega)).trans h2, (F1.1 105 0 0 (by omega)).trans h3⟩ (by omega)
        rw [if_pos (l2.mpr q2), chk_true inn, h7, ix, chk_true (jj_inb (by omega) (by omega) (by omega)), jj_nat (by omega) (by omega), Int.toNat_natCast]
        simp only [lt]
        rw [bnd_of e1]
        refine Or.inl ⟨⟨q, by omega, q2⟩, S', rfl, a, ?_, fun k hk => ?_, FX_trans (FX_sub F1 (fun f _ z => by unfold DFX; omega)) (FX_sub c (fun f _ z => by unfold DFX; omega)), ?_, ?_⟩
        · rw [c.1 106 0 _ (by omega), gI_sI, if_pos ⟨rfl, rfl, rfl⟩]
        · rw [c.1 106 0 _ (by omega), gI_sI, if_neg (by omega)]
        · rw [c.1 102 0 _ (by omega), gI_sI, if_neg (by omega)]
        · rw [c.1 103 0 _ (by omega), gI_sI, if_neg (by omega)]
      · rw [if_neg (fun z => q2 (l2.mp z))]
        exact Or.inr ⟨Or.inr (by omega), bad⟩
  · rw [if_neg (fun z => q (e39.mp z))]
    obtain ⟨S', e1, a, c⟩ := d_faulty (x := 1) (f := 1) hT hC rfl (by decide) (by decide)
    refine Or.inr ⟨Or.inl q, S', e1, ?_, c⟩
    rw [if_neg q]
    exact a
/-! the reference's figures -/
def GFX (f _j : Nat) : Prop := f = 1002 ∨ (1007 ≤ f ∧ f ≤ 1011)
theorem g_num {R : St} {N n i x : Nat} {b : Nat → Nat} {lo hi : Int} (hN : 4000 < N) (hT : TRR b n R i) (hx : x < 2724) (lo0 : 0 ≤ lo) (lo1 : lo ≤ 9999) (hi0 : 0 ≤ hi) (hi1 : hi ≤ 9999) : ((tkd b n (plc b n i) = 39 ∧ lo ≤ (tnm b n (plc b n i) : Nat) ∧ ((tnm b n (plc b n i) : Nat) : Int) ≤ hi) → ∃ R', f_X10_figure N R (jj (x : Int)) (jj lo) (jj hi) = some (0, R') ∧ TRR b n R' (i + 1) ∧ gI R' 1002 0 x = jj ((tnm b n (plc b n i) : Nat) : Int) ∧ (∀ k, k ≠ x → gI R' 1002 0 k = gI R 1002 0 k) ∧ FX GFX R R') ∧ ((tkd b n (plc b n i) ≠ 39 ∨ ¬ (lo ≤ (tnm b n (plc b n i) : Nat) ∧ ((tnm b n (plc b n i) : Nat) : Int) ≤ hi)) → f_X10_figure N R (jj (x : Int)) (jj lo) (jj hi) = some (if tkd b n (plc b n i) = 39 then 2 else 1, R)) := by
  have e1 := is_k hT 39 1 (by decide) (by decide) rfl
  unfold f_X10_figure
  by_cases q : tkd b n (plc b n i) = 39
  · obtain ⟨m, hm, m1, hr⟩ := o_num hT q
    have hm' : gI R 1010 0 0 = jj (m : Int) := by rw [hm, jj_iin]
    rw [if_pos (e1.mpr q), hm']
    have ei : f_X10_isIn R (jj (m : Int)) (jj lo) (jj hi) = some (if lo ≤ (m : Int) ∧ (m : Int) ≤ hi then jj 1 else jj 0) := q_isIn2 (by omega) (by omega) (by omega) (by omega) (by omega) (by omega)
    rw [bnd_of ei]
    refine ⟨fun h => ?_, fun h => ?_⟩
    · rw [if_pos (show lo ≤ (m : Int) ∧ (m : Int) ≤ hi by omega), if_neg (show ¬ jj 1 = 0 by decide), chk_true (jj_inb (by omega) (by omega) (by omega)), jj_nat (by omega) (by omega), Int.toNat_natCast]
      simp only [lt]
      have F1 : FX (fun f _ => f = 1002) R (sI R 1002 0 x (jj (m : Int))) := FX_sI (FX_refl _ _) rfl
      have T1 := TRR_FX F1 (by omega) (by omega) (fun f a c => by omega) hT
      obtain ⟨R', e2, T2, F2⟩ := x_next hN T1.1 T1.2.2.1
      rw [bnd_of e2]
      refine ⟨R', rfl, T2, ?_, fun k hk => ?_, FX_trans (FX_sub F1 (fun f _ z => by unfold GFX; omega)) (FX_sub F2 (fun f _ z => by unfold NXF at z; unfold GFX; omega))⟩
      · rw [F2.1 1002 0 _ (by unfold NXF; omega), gI_sI, if_pos ⟨rfl, rfl, rfl⟩, show ((tnm b n (plc b n i) : Nat) : Int) = (m : Int) by omega]
      · rw [F2.1 1002 0 _ (by unfold NXF; omega), gI_sI, if_neg (by omega)]
    · rw [if_neg (show ¬ (lo ≤ (m : Int) ∧ (m : Int) ≤ hi) by omega), if_pos (show jj 0 = 0 from rfl), if_pos q]
  · rw [if_neg (fun z => q (e1.mp z))]
    exact ⟨fun h => absurd h.1 q, fun _ => by rw [if_neg q]⟩
/-- both read the same -/
def DOK (K : Ks) (b : Nat → Nat) (n i nc : Nat) (S : St) (X : Option (Int32 × St)) (Y : Nat → St → Option (Int32 × St)) (n1 n2 : Prop) (top : Int) : Prop :=
  (∃ (S' : St) (j : Nat) (a c : Int), X = some (1, S') ∧ CT0 K S' j ∧ i ≤ j ∧ gI S' 106 0 (3 * nc + 1) = jj a ∧ gI S' 106 0 (3 * nc + 2) = jj c ∧ (∀ k, k ≠ 3 * nc + 1 → k ≠ 3 * nc + 2 → gI S' 106 0 k = gI S 106 0 k) ∧ FX DFX S S' ∧ gI S' 102 0 0 = gI S 102 0 0 ∧ gI S' 103 0 0 = gI S 103 0 0 ∧ 0 ≤ a ∧ a ≤ top ∧ 0 ≤ c ∧ c ≤ 9999 ∧ ∀ R x, x + 2 < 2724 → TRR b n R i → ∃ R', Y x R = some (0, R') ∧ TRR b n R' j ∧ (n1 → gI R' 1002 0 (x + 1) = jj a) ∧ (n2 → gI R' 1002 0 (x + 2) = jj c) ∧ (∀ k, k ≠ x + 1 → k ≠ x + 2 → gI R' 1002 0 k = gI R 1002 0 k) ∧ FX GFX R R') ∨
  (∃ (S' : St) (f : Int) (j : Nat), X = some (0, S') ∧ FLD K S' f j ∧ FX DFX S S' ∧ ∀ R x, x + 2 < 2724 → TRR b n R i → ∃ R', Y x R = some (jj f, R') ∧ TRR b n R' j ∧ (∀ k, k ≠ x + 1 → k ≠ x + 2 → gI R' 1002 0 k = gI R 1002 0 k) ∧ FX GFX R R')
theorem d_single {b : Nat → Nat} {n nt N i nc : Nat} {kd lo hi : Int} {S : St} (hN : 4000 < N) (hT : TS (Kst b n nt kd)) (hC : CT0 (Kst b n nt kd) S i) (h7 : gI S 107 0 0 = jj (nc : Int)) (hn : nc < 24) (z2 : gI S 106 0 (3 * nc + 2) = jj 0) (lo0 : 0 ≤ lo) (lo1 : lo ≤ 9999) (hi0 : 0 ≤ hi) (hi1 : hi ≤ 9999) : DOK (Kst b n nt kd) b n i nc S (bnd (f_X1_readNumber S (1 : Int32) (jj lo) (jj hi)) fun q1 => chk (isz q1.1) (some (q1.1, q1.2))) (fun x R => bnd (f_X10_figure N R (jj (x : Int) + (1 : Int32)) (jj lo) (jj hi)) fun q1 => some (q1.1, q1.2)) True False hi := by
  have K1 : (Kst b n nt kd).1 i = ((tkd b n (plc b n i) : Nat) : Int) := rfl
  have K2 : (Kst b n nt kd).2.1 i = ((tnm b n (plc b n i) : Nat) : Int) := rfl
  have ex : ∀ x : Nat, jj (x : Int) + (1 : Int32) = jj ((x + 1 : Nat) : Int) := fun x => jn_add x 1
  rcases d_num0 (p := 1) hT hC h7 hn (by decide) (by decide) lo0 hi1 hi0 lo1 with ⟨⟨q1, q2, q3⟩, S', e1, C1, v1, s1, F1, f2, f3⟩ | ⟨q, S', e1, fl, F1⟩
  · have e1 : f_X1_readNumber S 1 (jj lo) (jj hi) = some (1, S') := e1
    rw [K2] at q2 q3
    refine Or.inl ⟨S', i + 1, (Kst b n nt kd).2.1 i, 0, by rw [bnd_of e1]; rfl, C1, by omega, v1, (s1 _ (by show 3 * nc + 2 ≠ 3 * nc + 1; omega)).trans z2, fun k a c => s1 k a, F1, f2, f3, by rw [K2]; omega, by rw [K2]; omega, by decide, by decide, fun R x hx hR => ?_⟩
    obtain ⟨R', e2, T2, w2, s2, F2⟩ := (g_num (x := x + 1) hN hR (by omega) lo0 lo1 hi0 hi1).1 ⟨by rw [K1] at q1; omega, by omega, by omega⟩
    refine ⟨R', ?_, T2, fun _ => w2, fun z => z.elim, fun k a c => s2 k a, F2⟩
    simp only
    rw [ex, bnd_of e2]
  · have e1 : f_X1_readNumber S 1 (jj lo) (jj hi) = some (0, S') := e1
    refine Or.inr ⟨S', _, i, by rw [bnd_of e1]; rfl, fl, FX_sub F1 (fun f _ z => by unfold DFX; omega), fun R x hx hR => ?_⟩
    have e2 := (g_num (x := x + 1) (N := N) hN hR (by omega) lo0 lo1 hi0 hi1).2 (by rw [K1, K2] at q; omega)
    refine ⟨R, ?_, hR, fun _ _ _ => rfl, FX_refl _ _⟩
    simp only
    rw [ex, bnd_of e2, K1]
    by_cases z : tkd b n (plc b n i) = 39
    · rw [if_pos z, if_pos (by omega)]; rfl
    · rw [if_neg z, if_neg (by omega)]; rfl
theorem d_pair {b : Nat → Nat} {n nt N i nc w : Nat} {kd lo hi hi2 : Int} {S : St} (hN : 4000 < N) (hT : TS (Kst b n nt kd)) (hC : CT0 (Kst b n nt kd) S i) (h7 : gI S 107 0 0 = jj (nc : Int)) (hn : nc < 24) (hw : w < 26) (w18 : w ≠ 18) (lo0 : 0 ≤ lo) (lo1 : lo ≤ 9999) (hi0 : 0 ≤ hi) (hi1 : hi ≤ 9999) (h20 : 0 ≤ hi2) (h21 : hi2 ≤ 9999) : DOK (Kst b n nt kd) b n i nc S (bnd (f_X1_readNumber S (1 : Int32) (jj lo) (jj hi)) fun q2 => if q2.1 = (0 : Int32) then (some ((0 : Int32), q2.2)) else (bnd (f_X1_takes q2.2 (jj (w : Int))) fun q3 => if q3.1 = (0 : Int32) then (some ((0 : Int32), q3.2)) else (bnd (f_X1_readNumber q3.2 (2 : Int32) (0 : Int32) (jj hi2)) fun q4 => if q4.1 = (0 : Int32) then (some ((0 : Int32), q4.2)) else (some ((1 : Int32), q4.2))))) (fun x R => bnd (f_X10_pair N R (jj (x : Int)) (jj lo) (jj hi) (ll (wv w)) (jj hi2)) fun q => some (q.1, q.2)) True True hi := by
  have K1 : ∀ i, (Kst b n nt kd).1 i = ((tkd b n (plc b n i) : Nat) : Int) := fun _ => rfl
  have K2 : ∀ i, (Kst b n nt kd).2.1 i = ((tnm b n (plc b n i) : Nat) : Int) := fun _ => rfl
  have ex : ∀ x : Nat, jj (x : Int) + (1 : Int32) = jj ((x + 1 : Nat) : Int) := fun x => jn_add x 1
  have ex2 : ∀ x : Nat, jj (x : Int) + (2 : Int32) = jj ((x + 2 : Nat) : Int) := fun x => jn_add x 2
  rcases d_num0 (p := 1) hT hC h7 hn (by decide) (by decide) lo0 hi1 hi0 lo1 with ⟨⟨q1, q2, q3⟩, S1, e1, C1, v1, s1, F1, f2, f3⟩ | ⟨q, S1, e1, fl, F1⟩
  · have e1 : f_X1_readNumber S 1 (jj lo) (jj hi) = some (1, S1) := e1
    rw [K2] at q2 q3
    -- the reference's first half
    have ref1 : ∀ R (x : Nat), x + 2 < 2724 → TRR b n R i → ∃ R1, f_X10_figure N R (jj ((x + 1 : Nat) : Int)) (jj lo) (jj hi) = some (0, R1) ∧ TRR b n R1 (i + 1) ∧ gI R1 1002 0 (x + 1) = jj ((Kst b n nt kd).2.1 i) ∧ (∀ k, k ≠ x + 1 → gI R1 1002 0 k = gI R 1002 0 k) ∧ FX GFX R R1 := fun R x hx hR => (g_num (x := x + 1) hN hR (by omega) lo0 lo1 hi0 hi1).1 ⟨by rw [K1] at q1; omega, by omega, by omega⟩
    rw [bnd_of e1, if_neg (show ¬ (1 : Int32) = 0 by decide)]
    rcases d_takes (k := (w : Int)) hT C1 (by omega) (by omega) with ⟨t1, S2, e2, C2, F2⟩ | ⟨t1, S2, e2, fl, F2⟩
    · rw [bnd_of e2, if_neg (show ¬ (1 : Int32) = 0 by decide)]
      have ref2 : ∀ R (x : Nat), x + 2 < 2724 → TRR b n R i → ∃ R1 R2, f_X10_figure N R (jj ((x + 1 : Nat) : Int)) (jj lo) (jj hi) = some (0, R1) ∧ f_X10_isWord R1 (ll (wv w)) = some 1 ∧ f_X10_nextToken N R1 = some R2 ∧ TRR b n R2 (i + 2) ∧ gI R2 1002 0 (x + 1) = jj ((Kst b n nt kd).2.1 i) ∧ (∀ k, k ≠ x + 1 → gI R2 1002 0 k = gI R 1002 0 k) ∧ FX GFX R R2 := by
        intro R x hx hR
        obtain ⟨R1, g1, T1, w1, r1, G1⟩ := ref1 R x hx hR
        have iw := o_word T1 hw w18
        rw [if_pos (by rw [K1] at t1; omega)] at iw
        obtain ⟨R2, g2, T2, G2⟩ := x_next hN T1.1 T1.2.2.1
        exact ⟨R1, R2, g1, iw, g2, T2, (G2.1 1002 0 _ (by unfold NXF; omega)).trans w1, fun k hk => (G2.1 1002 0 _ (by unfold NXF; omega)).trans (r1 k hk), FX_trans G1 (FX_sub G2 (fun f _ z => by unfold NXF at z; unfold GFX; omega))⟩
      have h72 : gI S2 107 0 0 = jj (nc : Int) := (F2.1 107 0 0 (by omega)).trans ((F1.1 107 0 0 (by unfold DFX; omega)).trans h7)
      rcases d_num0 (p := 2) (lo := 0) (hi := hi2) hT C2 h72 hn (by decide) (by decide) (by decide) h21 h20 (by decide) with ⟨⟨u1, u2, u3⟩, S3, e3, C3, v3, s3, F3, f23, f33⟩ | ⟨u, S3, e3, fl, F3⟩
      · have e3 : f_X1_readNumber S2 2 0 (jj hi2) = some (1, S3) := e3
        rw [K2] at u2 u3
        have nb := hT.2.2.2.2.2.1 (i + 1 + 1)
        rw [K2] at nb
        rw [bnd_of e3, if_neg (show ¬ (1 : Int32) = 0 by decide)]
        refine Or.inl ⟨S3, i + 1 + 1 + 1, (Kst b n nt kd).2.1 i, (Kst b n nt kd).2.1 (i + 1 + 1), rfl, C3, by omega, ?_, v3, fun k a c => ?_, FX_trans F1 (FX_trans (FX_sub F2 (fun f _ z => by unfold DFX; omega)) F3), ?_, ?_, by rw [K2]; omega, by rw [K2]; omega, by rw [K2]; omega, by rw [K2]; omega, fun R x hx hR => ?_⟩
        · rw [s3 _ (by show 3 * nc + 1 ≠ 3 * nc + 2; omega), F2.1 106 0 _ (by omega)]; exact v1
        · rw [s3 _ c, F2.1 106 0 _ (by omega)]; exact s1 k a
        · rw [f23, F2.1 102 0 _ (by omega)]; exact f2
        · rw [f33, F2.1 103 0 _ (by omega)]; exact f3
        · obtain ⟨R1, R2, g1, iw, g2, T2, w2, r2, G2⟩ := ref2 R x hx hR
          obtain ⟨R3, g3, T3, w3, r3, G3⟩ := (g_num (x := x + 2) (lo := 0) (hi := hi2) hN T2 (by omega) (by decide) (by decide) h20 h21).1 ⟨by rw [K1] at u1; exact Int.ofNat.inj u1, u2, u3⟩
          have g3 : f_X10_figure N R2 (jj ((x + 2 : Nat) : Int)) 0 (jj hi2) = some (0, R3) := g3
          refine ⟨R3, ?_, T3, fun _ => ?_, fun _ => w3, fun k a c => ?_, FX_trans G2 G3⟩
          · simp only
            unfold f_X10_pair
            rw [ex, bnd_of g1, if_pos rfl, bnd_of iw, if_neg (show ¬ (1 : Int32) = 0 by decide), bnd_of g2, ex2, bnd_of g3]
            rfl
          · rw [r3 _ (by omega)]; exact w2
          · rw [r3 _ c]; exact r2 k a
      · have e3 : f_X1_readNumber S2 2 0 (jj hi2) = some (0, S3) := e3
        rw [bnd_of e3, if_pos rfl]
        refine Or.inr ⟨S3, _, i + 1 + 1, rfl, fl, FX_trans F1 (FX_trans (FX_sub F2 (fun f _ z => by unfold DFX; omega)) (FX_sub F3 (fun f _ z => by unfold DFX; omega))), fun R x hx hR => ?_⟩
        obtain ⟨R1, R2, g1, iw, g2, T2, w2, r2, G2⟩ := ref2 R x hx hR
        have T2 : TRR b n R2 (i + 1 + 1) := T2
        have g3 := (g_num (x := x + 2) (lo := 0) (hi := hi2) (N := N) hN T2 (by omega) (by decide) (by decide) h20 h21).2 (by rw [K1, K2] at u; omega)
        have g3 : f_X10_figure N R2 (jj ((x + 2 : Nat) : Int)) 0 (jj hi2) = some (if tkd b n (plc b n (i + 1 + 1)) = 39 then 2 else 1, R2) := g3
        refine ⟨R2, ?_, T2, fun k a c => r2 k a, G2⟩
        simp only
        unfold f_X10_pair
        rw [ex, bnd_of g1, if_pos rfl, bnd_of iw, if_neg (show ¬ (1 : Int32) = 0 by decide), bnd_of g2, ex2, bnd_of g3, K1]
        by_cases z : tkd b n (plc b n (i + 1 + 1)) = 39
        · rw [if_pos z, if_pos (show ((tkd b n (plc b n (i + 1 + 1)) : Nat) : Int) = 39 by omega)]; rfl
        · rw [if_neg z, if_neg (show ¬ ((tkd b n (plc b n (i + 1 + 1)) : Nat) : Int) = 39 by omega)]; rfl
    · rw [bnd_of e2, if_pos rfl]
      refine Or.inr ⟨S2, _, i + 1, rfl, fl, FX_trans F1 (FX_sub F2 (fun f _ z => by unfold DFX; omega)), fun R x hx hR => ?_⟩
      obtain ⟨R1, g1, T1, w1, r1, G1⟩ := ref1 R x hx hR
      have iw := o_word T1 hw w18
      rw [if_neg (by rw [K1] at t1; omega)] at iw
      refine ⟨R1, ?_, T1, fun k a c => r1 k a, G1⟩
      simp only
      unfold f_X10_pair
      rw [ex, bnd_of g1, if_pos rfl, bnd_of iw, if_pos rfl]
      rfl
  · have e1 : f_X1_readNumber S 1 (jj lo) (jj hi) = some (0, S1) := e1
    rw [bnd_of e1, if_pos rfl]
    refine Or.inr ⟨S1, _, i, rfl, fl, FX_sub F1 (fun f _ z => by unfold DFX; omega), fun R x hx hR => ?_⟩
    have e2 := (g_num (x := x + 1) (N := N) hN hR (by omega) lo0 lo1 hi0 hi1).2 (by rw [K1, K2] at q; omega)
    refine ⟨R, ?_, hR, fun _ _ _ => rfl, FX_refl _ _⟩
    simp only
    unfold f_X10_pair
    rw [ex, bnd_of e2, K1]
    by_cases z : tkd b n (plc b n i) = 39
    · rw [if_pos z, if_pos (show ((tkd b n (plc b n i) : Nat) : Int) = 39 by omega)]
      rw [if_neg (show ¬ (2 : Int32) = 0 by decide)]; rfl
    · rw [if_neg z, if_neg (show ¬ ((tkd b n (plc b n i) : Nat) : Int) = 39 by omega)]
      rw [if_neg (show ¬ (1 : Int32) = 0 by decide)]; rfl
theorem DOK_up {K : Ks} {b : Nat → Nat} {n i nc : Nat} {S : St} {X : Option (Int32 × St)} {Y : Nat → St → Option (Int32 × St)} {n1 n2 m1 m2 : Prop} {t t' : Int} (h : DOK K b n i nc S X Y n1 n2 t) (h1 : m1 → n1) (h2 : m2 → n2) (ht : t ≤ t') : DOK K b n i nc S X Y m1 m2 t' := by
  rcases h with ⟨S', j, a, c, g1, g2, g3, g4, g5, g6, g7, g8, g9, g10, g11, g12, g13, g14⟩ | h
  · refine Or.inl ⟨S', j, a, c, g1, g2, g3, g4, g5, g6, g7, g8, g9, g10, by omega, g12, g13, fun R x hx hR => ?_⟩
    obtain ⟨R', r1, r2, r3, r4, r5, r6⟩ := g14 R x hx hR
    exact ⟨R', r1, r2, fun z => r3 (h1 z), fun z => r4 (h2 z), r5, r6⟩
  · exact Or.inr h
/-- what a deed of each kind takes -/
theorem d_deed {b : Nat → Nat} {n nt N i nc : Nat} {kl kd : Int} {S : St} (hN : 4000 < N) (hT : TS (Kst b n nt kl)) (hC : CT0 (Kst b n nt kl) S i) (h7 : gI S 107 0 0 = jj (nc : Int)) (hn : nc < 24) (z1 : gI S 106 0 (3 * nc + 1) = jj 0) (z2 : gI S 106 0 (3 * nc + 2) = jj 0) (k0 : 2 ≤ kd) (k1 : kd ≤ 9) : DOK (Kst b n nt kl) b n i nc S (f_X1_readDeed S (jj kd)) (fun x R => f_X10_body N R (jj kd) (jj (x : Int))) (kd ≠ 7) (kd = 3 ∨ kd = 5 ∨ kd = 6 ∨ kd = 8) (if kd = 9 then 60 else 9999) := by
  have hk : kd = 2 ∨ kd = 3 ∨ kd = 4 ∨ kd = 5 ∨ kd = 6 ∨ kd = 7 ∨ kd = 8 ∨ kd = 9 := by omega
  clear k0 k1
  rcases hk with rfl | rfl | rfl | rfl | rfl | rfl | rfl | rfl
  · exact DOK_up (d_single (N := N) (lo := 1) (hi := 9) hN hT hC h7 hn z2 (by decide) (by decide) (by decide) (by decide)) (fun _ => trivial) (fun z => absurd z (by decide)) (by decide)
  · have := d_pair (N := N) (w := 10) (lo := 0) (hi := 999) (hi2 := 11) hN hT hC h7 hn (by decide) (by decide) (by decide) (by decide) (by decide) (by decide) (by decide) (by decide)
    refine DOK_up (t := 999) (n1 := True) (n2 := True) ?_ (fun _ => trivial) (fun _ => trivial) (by decide)
    have e : ∀ (x : Nat) R, f_X10_body N R (jj 3) (jj (x : Int)) = bnd (f_X10_pair N R (jj (x : Int)) (jj 0) (jj 999) (ll (wv 10)) (jj 11)) fun q => some (q.1, q.2) := fun x R => by
      unfold f_X10_body
      rw [if_neg (by decide), if_pos (by decide), bnd_of (cw_at R)]
      rfl
    simp only [e]
    exact this
  · exact DOK_up (d_single (N := N) (lo := 0) (hi := 11) hN hT hC h7 hn z2 (by decide) (by decide) (by decide) (by decide)) (fun _ => trivial) (fun z => absurd z (by decide)) (by decide)
  · have := d_pair (N := N) (w := 11) (lo := 0) (hi := 11) (hi2 := 3) hN hT hC h7 hn (by decide) (by decide) (by decide) (by decide) (by decide) (by decide) (by decide) (by decide)
    refine DOK_up (t := 11) (n1 := True) (n2 := True) ?_ (fun _ => trivial) (fun _ => trivial) (by decide)
    have e : ∀ (x : Nat) R, f_X10_body N R (jj 5) (jj (x : Int)) = bnd (f_X10_pair N R (jj (x : Int)) (jj 0) (jj 11) (ll (wv 11)) (jj 3)) fun q => some (q.1, q.2) := fun x R => by
      unfold f_X10_body
      rw [if_neg (by decide), if_neg (by decide), if_neg (by decide), if_pos (by decide), bnd_of (cw_by R)]
      rfl
    simp only [e]
    exact this
  · have := d_pair (N := N) (w := 11) (lo := 0) (hi := 11) (hi2 := 3) hN hT hC h7 hn (by decide) (by decide) (by decide) (by decide) (by decide) (by decide) (by decide) (by decide)
    refine DOK_up (t := 11) (n1 := True) (n2 := True) ?_ (fun _ => trivial) (fun _ => trivial) (by decide)
    have e : ∀ (x : Nat) R, f_X10_body N R (jj 6) (jj (x : Int)) = bnd (f_X10_pair N R (jj (x : Int)) (jj 0) (jj 11) (ll (wv 11)) (jj 3)) fun q => some (q.1, q.2) := fun x R => by
      unfold f_X10_body
      rw [if_neg (by decide), if_neg (by decide), if_neg (by decide), if_neg (by decide), if_pos (by decide), bnd_of (cw_by R)]
      rfl
    simp only [e]
    exact this
  · refine Or.inl ⟨S, i, 0, 0, rfl, hC, Nat.le_refl _, z1, z2, fun _ _ _ => rfl, FX_refl _ _, rfl, rfl, by decide, by decide, by decide, by decide, fun R x hx hR => ⟨R, rfl, hR, fun z => absurd rfl z, fun z => absurd z (by decide), fun _ _ _ => rfl, FX_refl _ _⟩⟩
  · have := d_pair (N := N) (w := 10) (lo := 1) (hi := 99) (hi2 := 11) hN hT hC h7 hn (by decide) (by decide) (by decide) (by decide) (by decide) (by decide) (by decide) (by decide)
    refine DOK_up (t := 99) (n1 := True) (n2 := True) ?_ (fun _ => trivial) (fun _ => trivial) (by decide)
    have e : ∀ (x : Nat) R, f_X10_body N R (jj 8) (jj (x : Int)) = bnd (f_X10_pair N R (jj (x : Int)) (jj 1) (jj 99) (ll (wv 10)) (jj 11)) fun q => some (q.1, q.2) := fun x R => by
      unfold f_X10_body
      rw [if_neg (by decide), if_neg (by decide), if_neg (by decide), if_neg (by decide), if_neg (by decide), if_neg (by decide), if_pos (by decide), bnd_of (cw_at R)]
      rfl
    simp only [e]
    exact this
  · exact DOK_up (d_single (N := N) (lo := 1) (hi := 60) hN hT hC h7 hn z2 (by decide) (by decide) (by decide) (by decide)) (fun _ => trivial) (fun z => absurd z (by decide)) (by decide)
