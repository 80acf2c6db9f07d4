/-! TEXTS: a clause, whole. -/
theorem EVX_gN {m : Int} {S : St} {lw : Nat} {em : Sem} (h : EVX m S lw em) : ∃ k : Nat, gN S lw = some k ∧ k ≤ 300 ∧ (0 < k ↔ on1 em = 1) := by
  cases em with
  | none => exact ⟨0, h, by decide, by decide⟩
  | some E =>
    obtain ⟨k, arr, h1, h2, h3, h4⟩ := h
    exact ⟨k, gA_gN h1, h3, ⟨fun _ => rfl, fun _ => h2⟩⟩
theorem c_way {N kn : Nat} {S : St} {em et : Sem} (h5 : gI S 105 0 0 = jj (kn : Int)) (k9 : kn ≤ 9) (hm : EVX 8 S (gR S 110 0 0) em) (ht : EVX 4 S (gR S 111 0 0) et) : ((kn = 0 ∧ on1 em = 1) ∨ (kn = 1 ∧ on1 et = 1) → f_X1_clause N S = f_X1_clause_b42 N S) ∧ (¬ ((kn = 0 ∧ on1 em = 1) ∨ (kn = 1 ∧ on1 et = 1)) → f_X1_clause N S = f_X1_clause_b48 N (jj (kn : Int)) S) := by
  obtain ⟨p, p1, p2, p3⟩ := EVX_gN hm
  obtain ⟨q, q1, q2, q3⟩ := EVX_gN ht
  have lp : ((0 : Int32) < Int32.ofNat p) = (0 < p) := by rw [show (0 : Int32) = ii 0 from rfl]; exact ii_lt (by omega) (by omega)
  have lq : (Int32.ofNat q ≤ (0 : Int32)) = (q ≤ 0) := by rw [show (0 : Int32) = ii 0 from rfl]; exact ii_le (by omega) (by omega)
  have e9 : jj (kn : Int) ≤ (9 : Int32) := by rw [show (9 : Int32) = jj 9 from rfl, jj_le (by omega) (by omega) (by decide) (by decide)]; omega
  have e0 : (jj (kn : Int) = (0 : Int32)) = (kn = 0) := by
    rw [show (0 : Int32) = jj 0 from rfl, jj_eq (by omega) (by omega) (by decide) (by decide)]
    exact propext ⟨fun z => by omega, fun z => by omega⟩
  have e1 : (jj (kn : Int) = (1 : Int32)) = (kn = 1) := by
    rw [show (1 : Int32) = jj 1 from rfl, jj_eq (by omega) (by omega) (by decide) (by decide)]
    exact propext ⟨fun z => by omega, fun z => by omega⟩
  unfold f_X1_clause f_X1_clause_b29
  simp only [lt]
  rw [h5, if_pos e9]
  by_cases k0 : kn = 0
  · rw [if_pos (e0.mpr k0), if_neg (fun z => by have := e1.mp z; omega), bnd_of p1]
    by_cases z : 0 < p
    · rw [if_pos (lp.mpr z)]
      exact ⟨fun _ => rfl, fun y => absurd (Or.inl ⟨k0, p3.1 z⟩) y⟩
    · rw [if_neg (fun y => z (lp.mp y))]
      refine ⟨fun y => ?_, fun _ => rfl⟩
      rcases y with y | y
      · exact absurd (p3.2 y.2) z
      · omega
  · rw [if_neg (fun z => k0 (e0.mp z))]
    by_cases k1 : kn = 1
    · rw [if_pos (e1.mpr k1), bnd_of q1]
      by_cases z : 0 < q
      · rw [if_neg (fun y => by have := lq.mp y; omega)]
        exact ⟨fun _ => rfl, fun y => absurd (Or.inr ⟨k1, q3.1 z⟩) y⟩
      · rw [if_pos (lq.mpr (by omega))]
        refine ⟨fun y => ?_, fun _ => rfl⟩
        rcases y with y | y
        · omega
        · exact absurd (q3.2 y.2) z
    · rw [if_neg (fun z => k1 (e1.mp z))]
      exact ⟨fun y => by omega, fun _ => rfl⟩
/-- a clause comes to the others: the class -/
theorem CBD_add {K : Ks} {S S' : St} {i j : Nat} {CL : List (Int × Int × Int)} {em et em' et' : Sem} {c : Int × Int × Int} (h : CBD K S i CL em et) (hl : CL.length < 24) (hC : CT0 K S' j) (h7 : gI S' 107 0 0 = jj ((CL.length + 1 : Nat) : Int)) (hs : ∀ k, k < 3 * CL.length → gI S' 106 0 k = gI S 106 0 k) (c0 : gI S' 106 0 (3 * CL.length) = jj c.1) (c1 : gI S' 106 0 (3 * CL.length + 1) = jj c.2.1) (c2 : gI S' 106 0 (3 * CL.length + 2) = jj c.2.2) (cb : 0 ≤ c.1 ∧ c.1 ≤ 9 ∧ 0 ≤ c.2.1 ∧ c.2.1 ≤ (if c.1 = 9 then 60 else 9999) ∧ 0 ≤ c.2.2 ∧ c.2.2 ≤ 9999) (hm : EVX 8 S' (gR S' 110 0 0) em') (ht : EVX 4 S' (gR S' 111 0 0) et') (h2 : gI S' 102 0 0 = gI S 102 0 0) (h3 : gI S' 103 0 0 = gI S 103 0 0) (hx : EXD S S') : CBD K S' j (CL ++ [c]) em' et' := by
  obtain ⟨g1, g2, g3, g4, g5, g6, g7, g8, g9, g10⟩ := h
  refine ⟨hC, by rw [List.length_append]; exact h7, by rw [List.length_append, List.length_singleton]; omega, fun k d hd => ?_, fun d hd => ?_, hm, ht, h2.trans g8, h3.trans g9, hx.2.2 g10⟩
  · by_cases z : k < CL.length
    · rw [List.getElem?_append_left z] at hd
      rw [hs _ (by omega), hs _ (by omega), hs _ (by omega)]
      exact g4 k d hd
    · rw [List.getElem?_append_right (by omega)] at hd
      by_cases y : k = CL.length
      · subst y
        rw [Nat.sub_self] at hd
        rw [← Option.some.inj hd]
        exact ⟨c0, c1, c2⟩
      · rw [List.getElem?_eq_none (by simp; omega)] at hd
        exact absurd hd (by simp)
  · rcases List.mem_append.mp hd with z | z
    · exact g5 d z
    · rw [List.mem_singleton.mp z]; exact cb
/-- a clause comes to the others: the reference -/
theorem RBD_add {b : Nat → Nat} {n L i j : Nat} {R R' : St} {CL : List (Int × Int × Int)} {D X : List (Int × Int)} {em et em' et' : Sem} {c : Int × Int × Int} (h : RBD b n L R i CL D em et) (hl : CL.length < 24) (hT : TRR b n R' j) (h12 : gI R' 1012 0 0 = gI R 1012 0 0) (h13 : gI R' 1013 0 0 = jj ((D ++ X).length : Int)) (hC : COD R' L (D ++ X)) (hD : (D ++ X).length ≤ j) (h0 : gI R' 1002 0 (681 * L) = jj ((CL.length + 1 : Nat) : Int)) (hr : ∀ k, 681 * L < k → k < 681 * L + 1 + 3 * CL.length → gI R' 1002 0 k = gI R 1002 0 k) (hc : RCL R' L CL.length c) (h19 : gI R' 1019 0 0 = jj (on1 em' + 2 * on1 et')) (hm : LWD R' L (CL ++ [c]) (D ++ X) 0 8 em') (ht : LWD R' L (CL ++ [c]) (D ++ X) 1 4 et') : RBD b n L R' j (CL ++ [c]) (D ++ X) em' et' := by
  obtain ⟨b1, b2, b3, b4, b5, b6, b7, b8, b9, b10, b11⟩ := h
  refine ⟨hT, h12.trans b2, h13, hC, hD, by rw [List.length_append]; exact h0, fun k d hd => ?_, h19, hm, ht, b11⟩
  by_cases z : k < CL.length
  · rw [List.getElem?_append_left z] at hd
    obtain ⟨r1, r2, r3⟩ := b7 k d hd
    exact ⟨by rw [hr _ (by omega) (by omega)]; exact r1, fun x y => by rw [hr _ (by omega) (by omega)]; exact r2 x y, fun x => by rw [hr _ (by omega) (by omega)]; exact r3 x⟩
  · rw [List.getElem?_append_right (by omega)] at hd
    by_cases y : k = CL.length
    · subst y
      rw [Nat.sub_self] at hd
      rw [← Option.some.inj hd]
      exact hc
    · rw [List.getElem?_eq_none (by simp; omega)] at hd
      exact absurd hd (by simp)
theorem app_get {CL : List (Int × Int × Int)} {c : Int × Int × Int} : (∀ (k : Nat) d, CL[k]? = some d → (CL ++ [c])[k]? = some d) ∧ (CL ++ [c])[CL.length]? = some c ∧ (CL ++ [c]).length = CL.length + 1 := by
  refine ⟨fun k d hd => ?_, ?_, by simp⟩
  · have : k < CL.length := by
      by_cases z : k < CL.length
      · exact z
      · rw [List.getElem?_eq_none (by omega)] at hd; exact absurd hd (by simp)
    rw [List.getElem?_append_left this]
    exact hd
  · rw [List.getElem?_append_right (Nat.le_refl _), Nat.sub_self]
    rfl
theorem COD_keep {R R' : St} {L : Nat} {D : List (Int × Int)} (h : COD R L D) (e : ∀ k, 681 * L + 73 ≤ k → gI R' 1002 0 k = gI R 1002 0 k) : COD R' L D := fun k c hc => by
  rw [e _ (by omega), e _ (by omega)]
  exact h k c hc
/-- what reading a clause comes to -/
def COUT (b : Nat → Nat) (n nt N : Nat) (S : St) (i : Nat) (CL : List (Int × Int × Int)) (em et : Sem) : Prop :=
  (∃ (S' : St) (j : Nat) (c : Int × Int × Int) (em' et' : Sem), f_X1_clause N S = some (1, S') ∧ CBD (Kst b n nt 0) S' j (CL ++ [c]) em' et' ∧ i < j ∧ CFR S S' ∧ ∀ R D L, RBD b n L R i CL D em et → ∃ R' D', f_X10_clause N R = some (0, R') ∧ RBD b n L R' j (CL ++ [c]) D' em' et' ∧ FX TFX R R' ∧ ∀ k, k < 681 * L → gI R' 1002 0 k = gI R 1002 0 k) ∨
  (∃ (S' : St) (f : Int) (j : Nat), f_X1_clause N S = some (0, S') ∧ FLD (Kst b n nt 0) S' f j ∧ CFR S S' ∧ ∀ R D L, RBD b n L R i CL D em et → ∃ R', f_X10_clause N R = some (jj f, R') ∧ TRR b n R' j ∧ FX TFX R R' ∧ ∀ k, k < 681 * L → gI R' 1002 0 k = gI R 1002 0 k)
theorem FLD_FX {K : Ks} {P : Nat → Nat → Prop} {S S' : St} {f : Int} {j : Nat} (h : FLD K S f j) (F : FX P S S') (p2 : ¬ P 102 0) (p3 : ¬ P 103 0) : FLD K S' f j := ⟨(F.1 102 0 0 p2).trans h.1, (F.1 103 0 0 p3).trans h.2.1, h.2.2⟩
theorem t_clause {b : Nat → Nat} {n nt N i : Nat} {S : St} {CL : List (Int × Int × Int)} {em et : Sem} (hN : 4000 < N) (hT : TS (Kst b n nt 0)) (hC : CBD (Kst b n nt 0) S i CL em et) (h40 : (Kst b n nt 0).1 i ≠ 40) : COUT b n nt N S i CL em et := by
  have K1 : ∀ i, (Kst b n nt 0).1 i = ((tkd b n (plc b n i) : Nat) : Int) := fun _ => rfl
  obtain ⟨g1, g2, g3, g4, g5, g6, g7, g8, g9, g10⟩ := id hC
  have h5 : gI S 105 0 0 = jj ((tkd b n (plc b n i) : Nat) : Int) := g1.2.2.2
  have kb := hT.2.2.2.2.1 i
  rw [K1] at kb
  generalize hk : tkd b n (plc b n i) = kn at *
  -- a fault at the first word
  have flt : ∀ (x : Int32) (f : Int), x = jj f → 1 ≤ f → f ≤ 6 → f_X1_clause N S = (bnd (f_X1_faulty S x) fun q => chk (isz q.1) (some (q.1, q.2))) → (∀ R D L, RBD b n L R i CL D em et → f_X10_clause N R = some (jj f, R)) → COUT b n nt N S i CL em et := by
    intro x f ex f0 f1 hc hr
    obtain ⟨S', e1, fl, F1⟩ := d_faulty hT g1 ex f0 f1
    exact Or.inr ⟨S', f, i, hc.trans e1, fl, CFR_FX F1 (fun f j z => by omega), fun R D L hB => ⟨R, hr R D L hB, hB.1, FX_refl _ _, fun _ _ => rfl⟩⟩
  have so : ∀ R D L, RBD b n L R i CL D em et → f_X10_sortOf R = some (jj (srt kn)) := fun R D L hB => by
    have := l_sort hB.1
    rw [hk] at this
    exact this
  by_cases k9 : kn ≤ 9
  · have cw := c_way (N := N) h5 k9 g6 g7
    by_cases dup : (kn = 0 ∧ on1 em = 1) ∨ (kn = 1 ∧ on1 et = 1)
    · refine flt 4 4 rfl (by decide) (by decide) (cw.1 dup) (fun R D L hB => ?_)
      have s0 := so R D L hB
      rw [show srt kn = (kn : Int) from if_pos k9] at s0
      have hs := q_has R (on1_b em) (on1_b et)
      have b8 := hB.2.2.2.2.2.2.2.1
      unfold f_X10_clause
      rw [bnd_of s0]
      rcases dup with ⟨z, y⟩ | ⟨z, y⟩
      · rw [z, if_pos (show (0 : Int32) ≤ jj ((0 : Nat) : Int) by decide), if_neg (show ¬ (1 : Int32) < jj ((0 : Nat) : Int) by decide), b8]
        have hs1 : f_X10_has R (jj (on1 em + 2 * on1 et)) (jj ((0 : Nat) : Int)) = some (jj (on1 em)) := hs.1
        rw [bnd_of hs1, y, if_neg (show ¬ jj 1 = 0 by decide)]
        rfl
      · rw [z, if_pos (show (0 : Int32) ≤ jj ((1 : Nat) : Int) by decide), if_neg (show ¬ (1 : Int32) < jj ((1 : Nat) : Int) by decide), b8]
        have hs1 : f_X10_has R (jj (on1 em + 2 * on1 et)) (jj ((1 : Nat) : Int)) = some (jj (on1 et)) := hs.2
        rw [bnd_of hs1, y, if_neg (show ¬ jj 1 = 0 by decide)]
        rfl
    · have n0 : kn = 0 → em = none := fun z => by
        cases em with
        | none => rfl
        | some E => exact absurd (Or.inl ⟨z, rfl⟩) dup
      have n1 : kn = 1 → et = none := fun z => by
        cases et with
        | none => rfl
        | some E => exact absurd (Or.inr ⟨z, rfl⟩) dup
      by_cases full : CL.length = 24
      · refine flt 6 6 rfl (by decide) (by decide) ?_ (fun R D L hB => ?_)
        · rw [cw.2 dup]
          unfold f_X1_clause_b48
          rw [g2, full, if_neg (show ¬ jj ((24 : Nat) : Int) < (24 : Int32) by decide)]
        · have s0 := so R D L hB
          rw [show srt kn = (kn : Int) from if_pos k9] at s0
          have hs := q_has R (on1_b em) (on1_b et)
          obtain ⟨b1, b2, b3, b4, b5, b6, b7, b8, b9, b10, b11⟩ := hB
          have b29 : f_X10_clause_b29 N (jj (kn : Int)) R = some (jj 6, R) := by
            unfold f_X10_clause_b29
            simp only [lt]
            rw [b2, chk_true (jj_inb (by omega) (by omega) (by omega)), jj_nat (by omega) (by omega), Int.toNat_natCast, b6, full, if_pos (show jj ((24 : Nat) : Int) = 24 from rfl)]
            rfl
          have l1 : ((1 : Int32) < jj (kn : Int)) = (1 < kn) := by
            rw [show (1 : Int32) = jj 1 from rfl, jj_lt (by decide) (by decide) (by omega) (by omega)]
            exact propext ⟨fun z => by omega, fun z => by omega⟩
          unfold f_X10_clause
          rw [bnd_of s0, if_pos (show (0 : Int32) ≤ jj (kn : Int) by rw [show (0 : Int32) = jj 0 from rfl, jj_le (by decide) (by decide) (by omega) (by omega)]; omega), b29, b8]
          by_cases q1 : 1 < kn
          · rw [if_pos (l1.mpr q1)]
          · rw [if_neg (fun z => q1 (l1.mp z))]
            have kc : kn = 0 ∨ kn = 1 := by omega
            rcases kc with z | z
            · have y : on1 em = 0 := by rw [n0 z]; rfl
              have hs1 : f_X10_has R (jj (on1 em + 2 * on1 et)) (jj ((0 : Nat) : Int)) = some (jj (on1 em)) := hs.1
              rw [z, bnd_of hs1, y, if_pos (show jj 0 = 0 from rfl)]
            · have y : on1 et = 0 := by rw [n1 z]; rfl
              have hs1 : f_X10_has R (jj (on1 em + 2 * on1 et)) (jj ((1 : Nat) : Int)) = some (jj (on1 et)) := hs.2
              rw [z, bnd_of hs1, y, if_pos (show jj 0 = 0 from rfl)]
      · have hl : CL.length < 24 := by omega
        obtain ⟨S8, e8, C8, v0, v1, v2, s8, F8⟩ := c_pre (N := N) (kn := kn) hT g1 g2 hl (by show ((tkd b n (plc b n i) : Nat) : Int) = (kn : Int); rw [hk]) k9
        have h78 : gI S8 107 0 0 = jj (CL.length : Int) := (F8.1 107 0 0 (by omega)).trans g2
        have X8 : CFR S S8 := CFR_FX F8 (fun f j z => by omega)
        have ag := @app_get CL
        unfold COUT
        rw [cw.2 dup, e8]
        have l1 : ((1 : Int32) < jj (kn : Int)) = (1 < kn) := by
          rw [show (1 : Int32) = jj 1 from rfl, jj_lt (by decide) (by decide) (by omega) (by omega)]
          exact propext ⟨fun z => by omega, fun z => by omega⟩
        by_cases q1 : 1 < kn
        · rw [if_pos (l1.mpr q1)]
          rcases d_deed (N := N) (kd := (kn : Int)) hN hT C8 h78 hl v1 v2 (by omega) (by omega) with ⟨S9, j, a, c2, x1, x2, x3, x4, x5, x6, x7, x8, x9, x10, x11, x12, x13, y14⟩ | ⟨S9, f, j, x1, x2, x3, y4⟩
          · have h79 : gI S9 107 0 0 = jj (CL.length : Int) := (x7.1 107 0 0 (by unfold DFX; omega)).trans h78
            have ref : ∀ R D L, RBD b n L R i CL D em et → ∃ (R8 : St) (R9 : St), f_X10_clause N R = bnd (some ((0 : Int32), R9)) (tlC N) ∧ TRR b n R9 j ∧ gI R9 1012 0 0 = gI R 1012 0 0 ∧ gI R9 1013 0 0 = gI R 1013 0 0 ∧ gI R9 1019 0 0 = gI R 1019 0 0 ∧ gI R9 1002 0 (681 * L + 1 + 3 * CL.length) = jj (kn : Int) ∧ ((kn : Int) ≠ 7 → gI R9 1002 0 (681 * L + 1 + 3 * CL.length + 1) = jj a) ∧ (((kn : Int) = 3 ∨ (kn : Int) = 5 ∨ (kn : Int) = 6 ∨ (kn : Int) = 8) → gI R9 1002 0 (681 * L + 1 + 3 * CL.length + 2) = jj c2) ∧ (∀ k, k < 681 * L + 1 + 3 * CL.length ∨ 681 * L + 73 ≤ k → gI R9 1002 0 k = gI R 1002 0 k) ∧ FX TFX R R9 ∧ R8 = R8 := by
              intro R D L hB
              have b11 := hB.2.2.2.2.2.2.2.2.2.2
              obtain ⟨R8, r1, r2, r3, r4, r5, r6, r7⟩ := g_pre hN hB hk k9 hl n0 n1
              rw [if_neg (by omega), if_neg (by omega), ← hB.2.2.2.2.2.2.2.1] at r4
              obtain ⟨R9, z1, z2, z3, z4, z5, z6⟩ := y14 R8 (681 * L + 1 + 3 * CL.length) (by omega) r2
              simp only at z1
              refine ⟨R8, R9, by rw [r1, z1], z2, ?_, ?_, ?_, ?_, z3, z4, fun k hk => ?_, FX_trans (FX_sub r7 (fun f _ z => by unfold TFX; omega)) (FX_sub z6 (fun f _ z => by unfold GFX at z; unfold TFX; omega)), rfl⟩
              · rw [z6.1 1012 0 0 (by unfold GFX; omega), r7.1 1012 0 0 (by omega)]
              · rw [z6.1 1013 0 0 (by unfold GFX; omega), r7.1 1013 0 0 (by omega)]
              · rw [z6.1 1019 0 0 (by unfold GFX; omega)]; exact r4
              · rw [z5 _ (by omega) (by omega)]; exact r5
              · rw [z5 _ (by omega) (by omega), r6 _ (by omega)]
            rw [bnd_of x1]
            rcases c_post (N := N) hT x2 h79 with ⟨t1, S10, e10, C10, h710, F10⟩ | ⟨t1, S10, e10, fl, F10⟩
            · left
              have t38 : tkd b n (plc b n j) = 38 := by rw [K1] at t1; omega
              have F910 : FX (fun f _ => (102 ≤ f ∧ f ≤ 107)) S8 S10 := FX_trans (FX_sub x7 (fun f _ z => by unfold DFX at z; omega)) (FX_sub F10 (fun f _ z => by omega))
              have F810 : FX (fun f _ => (102 ≤ f ∧ f ≤ 107)) S S10 := FX_trans (FX_sub F8 (fun f _ z => by omega)) F910
              have i106 : ∀ k, gI S10 106 0 k = gI S9 106 0 k := fun k => F10.1 106 0 k (by omega)
              refine ⟨S10, j + 1, ((kn : Int), a, c2), em, et, e10, CBD_add hC hl C10 h710 (fun k hk => ?_) ?_ ?_ ?_ ⟨by omega, by omega, x10, x11, x12, x13⟩ ?_ ?_ ?_ ?_ (EXD_FX F810), by omega, CFR_FX F810 (fun f j z => by omega), fun R D L hB => ?_⟩
              · rw [i106, x6 k (by omega) (by omega), s8 k hk]
              · rw [i106, x6 _ (by omega) (by omega)]; exact v0
              · rw [i106]; exact x4
              · rw [i106]; exact x5
              · rw [F810.2.2.1 110 0 0 (by omega)]; exact FX_EVX F810 g6
              · rw [F810.2.2.1 111 0 0 (by omega)]; exact FX_EVX F810 g7
              · rw [F10.1 102 0 0 (by omega), x8, F8.1 102 0 0 (by omega)]
              · rw [F10.1 103 0 0 (by omega), x9, F8.1 103 0 0 (by omega)]
              · obtain ⟨-, R9, r1, r2, r3, r4, r5, r6, r7, r8, r9, r10, -⟩ := ref R D L hB
                have b11 := hB.2.2.2.2.2.2.2.2.2.2
                obtain ⟨R', p1, p2, p3, p4, p5⟩ := (g_post (N := N) hN b11 r2 (r3.trans hB.2.1) ((r9 _ (Or.inl (by omega))).trans hB.2.2.2.2.2.1)).1 t38
                have rr : ∀ k, 681 * L < k → k < 681 * L + 1 + 3 * CL.length → gI R' 1002 0 k = gI R 1002 0 k := fun k k1 k2 => by rw [p4 k (by omega), r9 k (Or.inl k2)]
                refine ⟨R', D, by rw [r1]; exact p1, ?_, FX_trans r10 (FX_sub p5 (fun f _ z => by unfold GFX at z; unfold TFX; omega)), fun k hk => by rw [p4 k (by omega), r9 k (Or.inl (by omega))]⟩
                have lk : ∀ {sort m : Int} {e : Sem}, LWD R L CL D sort m e → (kn : Int) ≠ sort → LWD R' L (CL ++ [((kn : Int), a, c2)]) (D ++ []) sort m e := fun h ne => LWD_keep h rfl (ag.1) (Or.inr ⟨ag.2.2, fun c hc => by rw [ag.2.1] at hc; rw [← Option.some.inj hc]; exact ne⟩) rr
                have := RBD_add (X := []) (c := ((kn : Int), a, c2)) (em' := em) (et' := et) hB hl p2 ((p5.1 1012 0 0 (by unfold GFX; omega)).trans r3) (by rw [List.append_nil, p5.1 1013 0 0 (by unfold GFX; omega), r4]; exact hB.2.2.1) (by rw [List.append_nil]; exact COD_keep hB.2.2.2.1 (fun k hk => by rw [p4 k (by omega), r9 k (Or.inr hk)])) (by rw [List.append_nil]; have := hB.2.2.2.2.1; omega) p3 rr ⟨by rw [p4 _ (by omega)]; exact r6, fun _ y => by rw [p4 _ (by omega)]; exact r7 y, fun y => by rw [p4 _ (by omega)]; exact r8 y⟩ (by rw [p5.1 1019 0 0 (by unfold GFX; omega), r5]; exact hB.2.2.2.2.2.2.2.1) (lk hB.2.2.2.2.2.2.2.2.1 (by omega)) (lk hB.2.2.2.2.2.2.2.2.2.1 (by omega))
                rw [List.append_nil] at this
                exact this
            · right
              have t38 : tkd b n (plc b n j) ≠ 38 := by rw [K1] at t1; omega
              refine ⟨S10, 1, j, e10, fl, CFR_trans X8 (CFR_trans (CFR_FX x7 (fun f j z => by unfold DFX at z; omega)) (CFR_FX F10 (fun f j z => by omega))), fun R D L hB => ?_⟩
              obtain ⟨-, R9, r1, r2, r3, r4, r5, r6, r7, r8, r9, r10, -⟩ := ref R D L hB
              have b11 := hB.2.2.2.2.2.2.2.2.2.2
              obtain ⟨R', p1, p2, p4, p5⟩ := (g_post (N := N) hN b11 r2 (r3.trans hB.2.1) ((r9 _ (Or.inl (by omega))).trans hB.2.2.2.2.2.1)).2 t38
              exact ⟨R', by rw [r1]; exact p1, p2, FX_trans r10 (FX_sub p5 (fun f _ z => by unfold GFX at z; unfold TFX; omega)), fun k hk => by rw [p4 k (by omega), r9 k (Or.inl (by omega))]⟩
          · right
            have h79 : gI S9 107 0 0 = jj (CL.length : Int) := (x3.1 107 0 0 (by unfold DFX; omega)).trans h78
            rw [bnd_of x1]
            have e10 : f_X1_clause_b126 N 0 S9 = some (0, sI S9 107 0 0 (jj ((CL.length + 1 : Nat) : Int))) := by
              unfold f_X1_clause_b126
              simp only [lt]
              rw [h79, up9, if_pos trivial]
            have F10 : FX (fun f _ => f = 107) S9 (sI S9 107 0 0 (jj ((CL.length + 1 : Nat) : Int))) := FX_sI (FX_refl _ _) rfl
            refine ⟨_, f, j, e10, FLD_FX x2 F10 (by omega) (by omega), CFR_trans X8 (CFR_trans (CFR_FX x3 (fun f j z => by unfold DFX at z; omega)) (CFR_FX F10 (fun f j z => by omega))), fun R D L hB => ?_⟩
            have b11 := hB.2.2.2.2.2.2.2.2.2.2
            obtain ⟨R8, r1, r2, r3, r4, r5, r6, r7⟩ := g_pre hN hB hk k9 hl n0 n1
            obtain ⟨R9, z1, z2, z5, z6⟩ := y4 R8 (681 * L + 1 + 3 * CL.length) (by omega) r2
            simp only at z1
            have fb := x2.2.2.2
            refine ⟨R9, ?_, z2, FX_trans (FX_sub r7 (fun f _ z => by unfold TFX; omega)) (FX_sub z6 (fun f _ z => by unfold GFX at z; unfold TFX; omega)), fun k hk => by rw [z5 k (by omega) (by omega), r6 k (by omega)]⟩
            rw [r1, z1]
            show tlC N (jj f, R9) = _
            unfold tlC
            rw [if_neg (show ¬ jj f = (0 : Int32) by rw [show (0 : Int32) = jj 0 from rfl, jj_eq (by omega) (by omega) (by decide) (by decide)]; omega)]
        · rw [if_neg (fun z => q1 (l1.mp z))]
          have kc : kn = 0 ∨ kn = 1 := by omega
          have kz : (kn : Int) = 0 ∨ (kn : Int) = 1 := by omega
          have hT' : TS (Kst b n nt (kn : Int)) := TS_kd hT kz
          have bd : ∀ (R8 : St) (L x : Nat), f_X10_body N R8 (jj (kn : Int)) (jj ((x : Nat) : Int)) = bnd (f_X10_lawClause N R8 (jj ((x : Nat) : Int))) fun q12 => some (q12.1, q12.2) := by
            intro R8 L x
            unfold f_X10_body
            rcases kc with z | z
            · rw [z, if_neg (by decide), if_neg (by decide), if_neg (by decide), if_neg (by decide), if_neg (by decide), if_neg (by decide), if_neg (by decide), if_neg (by decide)]
            · rw [z, if_neg (by decide), if_neg (by decide), if_neg (by decide), if_neg (by decide), if_neg (by decide), if_neg (by decide), if_neg (by decide), if_neg (by decide)]
          have pre : ∀ R D L, RBD b n L R i CL D em et → ∃ R8, f_X10_clause N R = bnd (f_X10_body N R8 (jj (kn : Int)) (jj ((681 * L + 1 + 3 * CL.length : Nat) : Int))) (tlC N) ∧ RLB b n L (i + 1) (681 * L + 1 + 3 * CL.length) (kn : Int) R8 D ∧ gI R8 1019 0 0 = jj ((if kn = 0 then 1 else on1 em) + 2 * (if kn = 1 then 1 else on1 et)) ∧ gI R8 1002 0 (681 * L + 1 + 3 * CL.length) = jj (kn : Int) ∧ (∀ k, k ≠ 681 * L + 1 + 3 * CL.length → gI R8 1002 0 k = gI R 1002 0 k) ∧ FX TFX R R8 ∧ gI R8 1012 0 0 = gI R 1012 0 0 := by
            intro R D L hB
            obtain ⟨R8, r1, r2, r3, r4, r5, r6, r7⟩ := g_pre hN hB hk k9 hl n0 n1
            obtain ⟨b1, b2, b3, b4, b5, b6, b7, b8, b9, b10, b11⟩ := hB
            have e12 : gI R8 1012 0 0 = gI R 1012 0 0 := r7.1 1012 0 0 (by omega)
            exact ⟨R8, r1, ⟨r2, e12.trans b2, (r7.1 1013 0 0 (by omega)).trans b3, COD_keep b4 (fun k hk => r6 k (by omega)), r3, by omega, by omega, by omega, b11⟩, r4, r5, r6, FX_sub r7 (fun f _ z => by unfold TFX; omega), e12⟩
          rcases l_law (N := N) (kd := (kn : Int)) hN kz hT' C8 (by omega) with ⟨S9, j, E, x1, x2, x3, x4, x5, x6, x7, x8⟩ | ⟨S9, f, j, x1, x2, x3, x4⟩
          · have h79 : gI S9 107 0 0 = jj (CL.length : Int) := (x5 107 0 (by omega)).trans h78
            have x2 : CT0 (Kst b n nt 0) S9 j := x2
            rw [bnd_of x1]
            have post : ∀ R D L, RBD b n L R i CL D em et → ∃ R9 D1, f_X10_clause N R = tlC N (0, R9) ∧ TRR b n R9 j ∧ gI R9 1012 0 0 = gI R 1012 0 0 ∧ gI R9 1019 0 0 = jj ((if kn = 0 then 1 else on1 em) + 2 * (if kn = 1 then 1 else on1 et)) ∧ gI R9 1002 0 (681 * L + 1 + 3 * CL.length) = jj (kn : Int) ∧ gI R9 1002 0 (681 * L + 1 + 3 * CL.length + 1) = jj (D.length : Int) ∧ gI R9 1002 0 (681 * L + 1 + 3 * CL.length + 2) = jj ((D ++ D1).length : Int) ∧ (∀ k, k < 681 * L + 1 + 3 * CL.length → gI R9 1002 0 k = gI R 1002 0 k) ∧ FX TFX R R9 ∧ gI R9 1013 0 0 = jj ((D ++ D1).length : Int) ∧ COD R9 L (D ++ D1) ∧ (D ++ D1).length ≤ j ∧ SM D1 E ∧ (∀ c ∈ D1, CV (if (kn : Int) = 0 then 8 else 4) c) ∧ BV (if (kn : Int) = 0 then 8 else 4) E := by
              intro R D L hB
              obtain ⟨R8, r1, r2, r4, r5, r6, r7, r8⟩ := pre R D L hB
              obtain ⟨R9, D1, z1, z2, z3, z4, z5, z6, z7, z8, z9, z10, z11⟩ := x8 R8 D L (681 * L + 1 + 3 * CL.length) r2
              refine ⟨R9, D1, ?_, z2, ?_, ?_, ?_, z8, z9, fun k hk => ?_, FX_trans r7 (FX_sub z3 (fun f _ z => by unfold PFX at z; unfold TFX; omega)), z5, z6, z7, z10, z11⟩
              · rw [r1, bd R8 L, bnd_of z1]
                rfl
              · rw [z3.1 1012 0 0 (by unfold PFX; omega)]; exact r8
              · rw [z3.1 1019 0 0 (by unfold PFX; omega)]; exact r4
              · rw [z4 _ (by omega) (by omega) (by omega)]; exact r5
              · rw [z4 k (by omega) (by omega) (by omega), r6 k (by omega)]
            rcases c_post (N := N) hT x2 h79 with ⟨t1, S10, e10, C10, h710, F10⟩ | ⟨t1, S10, e10, fl, F10⟩
            · left
              have t38 : tkd b n (plc b n j) = 38 := by rw [K1] at t1; omega
              have X10 : CFR S S10 := CFR_trans X8 (CFR_trans x4 (CFR_FX F10 (fun f j z => by omega)))
              have i106 : ∀ k, gI S10 106 0 k = gI S8 106 0 k := fun k => (F10.1 106 0 k (by omega)).trans (x5 106 k (by omega))
              have r110 : gR S10 110 0 0 = gR S9 110 0 0 := F10.2.2.1 110 0 0 (by omega)
              have r111 : gR S10 111 0 0 = gR S9 111 0 0 := F10.2.2.1 111 0 0 (by omega)
              have o110 : gR S8 110 0 0 = gR S 110 0 0 := F8.2.2.1 110 0 0 (by omega)
              have o111 : gR S8 111 0 0 = gR S 111 0 0 := F8.2.2.1 111 0 0 (by omega)
              have dn8 : DN S8 := X8.2.2.2.2.2 g10
              have E9 : EXD S8 S9 := x4.2.2.2
              refine ⟨S10, j + 1, ((kn : Int), 0, 0), (if kn = 0 then some E else em), (if kn = 1 then some E else et), e10, CBD_add hC hl C10 h710 (fun k hk => ?_) ?_ ?_ ?_ ⟨by omega, by omega, by show (0 : Int) ≤ 0; decide, by show (0 : Int) ≤ (if (kn : Int) = 9 then 60 else 9999); split <;> decide, by show (0 : Int) ≤ 0; decide, by show (0 : Int) ≤ 9999; decide⟩ ?_ ?_ ?_ ?_ X10.2.2.2, by omega, X10, fun R D L hB => ?_⟩
              · rw [i106, s8 k hk]
              · rw [i106]; exact v0
              · rw [i106]; exact v1
              · rw [i106]; exact v2
              · rw [r110]
                rcases kc with z | z
                · rw [if_pos z]
                  exact FX_EVX F10 (x6 (by omega)).2
                · rw [if_neg (by omega), (x7 (by omega)).1, o110]
                  exact FX_EVX F10 (EVX_ext dn8 E9 (FX_EVX F8 g6))
              · rw [r111]
                rcases kc with z | z
                · rw [if_neg (by omega), (x6 (by omega)).1, o111]
                  exact FX_EVX F10 (EVX_ext dn8 E9 (FX_EVX F8 g7))
                · rw [if_pos z]
                  exact FX_EVX F10 (x7 (by omega)).2
              · rw [F10.1 102 0 0 (by omega), x5 102 0 (by omega), F8.1 102 0 0 (by omega)]
              · rw [F10.1 103 0 0 (by omega), x5 103 0 (by omega), F8.1 103 0 0 (by omega)]
              · obtain ⟨R9, D1, r1, r2, r3, r4, r5, r6, r7, r8, r9, r10, r11, r12, r13, r14⟩ := post R D L hB
                have b11 := hB.2.2.2.2.2.2.2.2.2.2
                obtain ⟨R', p1, p2, p3, p4, p5⟩ := (g_post (N := N) hN b11 r2 (r3.trans hB.2.1) ((r8 _ (by omega)).trans hB.2.2.2.2.2.1)).1 t38
                have rr : ∀ k, 681 * L < k → k < 681 * L + 1 + 3 * CL.length → gI R' 1002 0 k = gI R 1002 0 k := fun k k1 k2 => by rw [p4 k (by omega), r8 k k2]
                refine ⟨R', D ++ D1, by rw [r1]; exact p1, ?_, FX_trans r9 (FX_sub p5 (fun f _ z => by unfold GFX at z; unfold TFX; omega)), fun k hk => by rw [p4 k (by omega), r8 k (by omega)]⟩
                have lk : ∀ {sort m : Int} {e : Sem}, LWD R L CL D sort m e → (kn : Int) ≠ sort → LWD R' L (CL ++ [((kn : Int), (0 : Int), (0 : Int))]) (D ++ D1) sort m e := fun h ne => LWD_keep h rfl (ag.1) (Or.inr ⟨ag.2.2, fun c hc => by rw [ag.2.1] at hc; rw [← Option.some.inj hc]; exact ne⟩) rr
                have nw : ∀ (m : Int), m = (if (kn : Int) = 0 then 8 else 4) → (∀ c ∈ CL, c.1 ≠ (kn : Int)) → LWD R' L (CL ++ [((kn : Int), (0 : Int), (0 : Int))]) (D ++ D1) (kn : Int) m (some E) := by
                  intro m hm hno
                  refine ⟨CL.length, D, D1, [], _, by rw [List.append_nil], ag.2.1, rfl, fun k' c' a e => ?_, by rw [p4 _ (by omega)]; exact r6, by rw [p4 _ (by omega), r7, List.length_append], by rw [hm]; exact r14.1, r13, by rw [hm]; exact r14.2⟩
                  rw [List.getElem?_append_left a] at e
                  exact hno c' (List.mem_iff_getElem?.mpr ⟨k', e⟩)
                refine RBD_add (X := D1) (c := ((kn : Int), 0, 0)) hB hl p2 ((p5.1 1012 0 0 (by unfold GFX; omega)).trans r3) ((p5.1 1013 0 0 (by unfold GFX; omega)).trans r10) (COD_keep r11 (fun k hk => p4 k (by omega))) (by omega) p3 rr ⟨by rw [p4 _ (by omega)]; exact r5, fun y => by omega, fun y => by omega⟩ ?_ ?_ ?_
                · rw [p5.1 1019 0 0 (by unfold GFX; omega), r4]
                  rcases kc with z | z
                  · rw [if_pos z, if_pos z, if_neg (by omega), if_neg (by omega)]; rfl
                  · rw [if_pos z, if_pos z, if_neg (by omega), if_neg (by omega)]; rfl
                · rcases kc with z | z
                  · rw [if_pos z]
                    have hno := hB.2.2.2.2.2.2.2.2.1
                    rw [n0 z] at hno
                    have := nw 8 (by rw [if_pos (by omega)]) (by rw [z]; exact hno)
                    rw [z] at this ⊢
                    exact this
                  · rw [if_neg (by omega)]
                    exact lk hB.2.2.2.2.2.2.2.2.1 (by omega)
                · rcases kc with z | z
                  · rw [if_neg (by omega)]
                    exact lk hB.2.2.2.2.2.2.2.2.2.1 (by omega)
                  · rw [if_pos z]
                    have hno := hB.2.2.2.2.2.2.2.2.2.1
                    rw [n1 z] at hno
                    have := nw 4 (by rw [if_neg (by omega)]) (by rw [z]; exact hno)
                    rw [z] at this ⊢
                    exact this
            · right
              have t38 : tkd b n (plc b n j) ≠ 38 := by rw [K1] at t1; omega
              refine ⟨S10, 1, j, e10, fl, CFR_trans X8 (CFR_trans x4 (CFR_FX F10 (fun f j z => by omega))), fun R D L hB => ?_⟩
              obtain ⟨R9, D1, r1, r2, r3, r4, r5, r6, r7, r8, r9, r10, r11, r12, r13, r14⟩ := post R D L hB
              have b11 := hB.2.2.2.2.2.2.2.2.2.2
              obtain ⟨R', p1, p2, p4, p5⟩ := (g_post (N := N) hN b11 r2 (r3.trans hB.2.1) ((r8 _ (by omega)).trans hB.2.2.2.2.2.1)).2 t38
              exact ⟨R', by rw [r1]; exact p1, p2, FX_trans r9 (FX_sub p5 (fun f _ z => by unfold GFX at z; unfold TFX; omega)), fun k hk => by rw [p4 k (by omega), r8 k (by omega)]⟩
          · right
            rw [bnd_of x1]
            have x2 : FLD (Kst b n nt 0) S9 f j := x2
            have F10 : FX (fun f _ => f = 107) S9 (sI S9 107 0 0 (gI S9 107 0 0 + 1)) := FX_sI (FX_refl _ _) rfl
            have e10 : f_X1_clause_b126 N 0 S9 = some (0, sI S9 107 0 0 (gI S9 107 0 0 + 1)) := by
              unfold f_X1_clause_b126
              simp only [lt]
              rw [if_pos trivial]
            have fb := x2.2.2.2
            refine ⟨_, f, j, e10, FLD_FX x2 F10 (by omega) (by omega), CFR_trans X8 (CFR_trans x3 (CFR_FX F10 (fun f j z => by omega))), fun R D L hB => ?_⟩
            obtain ⟨R8, r1, r2, r4, r5, r6, r7, r8⟩ := pre R D L hB
            obtain ⟨R9, z1, z2, z3, z4⟩ := x4 R8 D L (681 * L + 1 + 3 * CL.length) r2
            refine ⟨R9, ?_, z2, FX_trans r7 (FX_sub z3 (fun f _ z => by unfold PFX at z; unfold TFX; omega)), fun k hk => by rw [z4 k (by omega) (by omega) (by omega), r6 k (by omega)]⟩
            rw [r1, bd R8 L, bnd_of z1]
            show tlC N (jj f, R9) = _
            unfold tlC
            rw [if_neg (show ¬ jj f = (0 : Int32) by rw [show (0 : Int32) = jj 0 from rfl, jj_eq (by omega) (by omega) (by decide) (by decide)]; omega)]
  · refine flt 1 1 rfl (by decide) (by decide) ?_ (fun R D L hB => ?_)
    · unfold f_X1_clause
      simp only [lt]
      rw [h5, if_neg (show ¬ jj (kn : Int) ≤ (9 : Int32) by rw [show (9 : Int32) = jj 9 from rfl, jj_le (by omega) (by omega) (by decide) (by decide)]; omega)]
    · have s0 := so R D L hB
      rw [show srt kn = -1 from if_neg k9] at s0
      unfold f_X10_clause
      rw [bnd_of s0, if_neg (show ¬ (0 : Int32) ≤ jj (-1) by decide)]
      rfl
