/-! CALLS: best, likely. -/
theorem MX_b12 {B : Int → Int} {M : Int} (hO : OKS B M) : 0 ≤ mxf (fun i => B (11 + i)) ∧ mxf (fun i => B (11 + i)) ≤ 100000000 := MX_b (OKR_CB hO.1 hO.2.2.2) (by decide) (by decide) mxf_MX
/-- the best so far: the stroke (-1: none), the most then -/
def bst (em et : Sem) (A : Int → Int) (h w : Int) (s : Int × Int) : Int × Int := if 0 < A (11 + w / 2) then (if s.1 = -1 ∨ mxf (fun i => ST0 em et A h w (11 + i)) < s.2 then (w, mxf (fun i => ST0 em et A h w (11 + i))) else s) else s
theorem c_best {S : St} {N : Nat} {A : Int → Int} {M W h : Int} {em et : Sem} (hN : 4000 < N) (hC : XC S A M W em et) (hW : W + 30 < 100000000) (h0 : 0 ≤ h ∧ h < A 0) : ∃ S', f_X7_flattest N S (jj h) = some (jj (itr (bst em et A h) 0 24 (-1, 0)).1, S') ∧ FX TRP S S' ∧ WRT S' (W + 30) := by
  have hO := hC.2.1.1
  have h04 := hO.2.2.1.2.1
  obtain ⟨S0, e0, L0, F0⟩ := laysAs_LAY (j := 62) (k := 0) (by decide) hC.1.2.1.1
  unfold f_X7_flattest
  rw [bnd_of e0]
  have := wp_up (F := fun n (s : (Int × Int) × St) k => f_X7_flattest_b23 N n (jj h) (jj s.1.1) (jj s.1.2) (jj k) s.2) (P := fun k s => 0 ≤ k ∧ s.1 = itr (bst em et A h) 0 k.toNat (-1, 0) ∧ -1 ≤ s.1.1 ∧ s.1.1 < 24 ∧ 0 ≤ s.1.2 ∧ s.1.2 ≤ 100000000 ∧ FX TRP S s.2 ∧ LAY s.2 62 A ∧ WRT s.2 (W + k)) (Q := fun r => r.1 = jj (itr (bst em et A h) 0 24 (-1, 0)).1 ∧ FX TRP S r.2 ∧ WRT r.2 (W + 30)) (E := 24) (by
    intro n ⟨⟨a, b⟩, S1⟩ ⟨k0, h1, h2, h3, h4, h5, F1, L1, w1⟩
    simp only at h1 h2 h3 h4 h5 F1 L1 w1
    simp only [f_X7_flattest_b23]
    rw [if_pos (show (24 : Int32) ≤ jj 24 by rw [jj_of]; exact Int32.le_refl _)]
    refine wp_some ⟨?_, F1, WRT_mono w1 (by omega)⟩
    rw [show (24 : Int).toNat = 24 from rfl] at h1
    rw [← h1]) (by
    intro n ⟨⟨a, b⟩, S1⟩ k hk ⟨k0, h1, h2, h3, h4, h5, F1, L1, w1⟩ ih
    simp only at h1 h2 h3 h4 h5 F1 L1 w1
    have st : itr (bst em et A h) 0 (k + 1).toNat (-1, 0) = bst em et A h k (a, b) := by
      rw [show (k + 1).toNat = k.toNat + 1 by omega, itr_add, ← h1, show (0 : Int) + (k.toNat : Int) = k by omega]
      rfl
    simp only [f_X7_flattest_b23]
    rw [if_neg (show ¬ (24 : Int32) ≤ jj k by rw [jj_of, jj_le (by decide) (by decide) (by omega) (by omega)]; omega)]
    by_cases q : 0 < A (11 + k / 2)
    · obtain ⟨S2, e2, L2, F2, w2⟩ := c_tried1 (at_ := 0) (h := h) (w := k) hN hC F1 (by decide) hO (fun _ _ => rfl) L1 w1 (by omega) h0 k0 hk q
      have O2 := ST0_OKS (em := em) (et := et) (h := h) hO ⟨h0.1, by omega⟩ k0 hk
      obtain ⟨i, e3, i0, i1, g3⟩ := x_most (N := N) (LAY_CC L2) (OKR_CB O2.1 O2.2.2.2) hN
      have mb := MX_b12 O2
      have e2' : f_X7_tried N S1 (0 : Int32) (jj h) (jj k) = some (jj 1, S2) := e2
      rw [bnd_of e2', if_neg (show ¬ jj 1 = (0 : Int32) by decide), bnd_of e3, chk_true (jj_inb i0 (by omega) (by omega)), jj_nat (by omega) (by omega), g3]
      have bs : bst em et A h k (a, b) = if a = -1 ∨ mxf (fun i => ST0 em et A h k (11 + i)) < b then (k, mxf (fun i => ST0 em et A h k (11 + i))) else (a, b) := by unfold bst; rw [if_pos q]
      have L2' : LAY S2 62 A := FX_LAY F2 (fun f a b => by unfold PUP; omega) L1
      have FF := FX_trans F1 (FX_sub F2 (Q := TRP) (fun f j q => by unfold PUP at q; unfold TRP; omega))
      generalize hm : mxf (fun i => ST0 em et A h k (11 + i)) = m at *
      simp (disch := omega) only [jj_of, jj_add, jj_sub, jj_mul, jj_neg, jj_le, jj_lt, jj_eq, jj_nat, chk_true (jj_inb _ _ _), chk_true (jj_nz _ _ _), lt]
      have t1 : ∀ p, p = (k, m) → bst em et A h k (a, b) = p → wp (f_X7_flattest_b23 N n (jj h) (jj k) (jj m) (jj (k + 1)) S2) (fun r => r.1 = jj (itr (bst em et A h) 0 24 (-1, 0)).1 ∧ FX TRP S r.2 ∧ WRT r.2 (W + 30)) := fun p hp hb => ih ((k, m), S2) ⟨by omega, by rw [st, hb, hp], by show -1 ≤ k; omega, hk, mb.1, mb.2, FF, L2', by show WRT S2 (W + (k + 1)); rw [show W + (k + 1) = W + k + 1 by omega]; exact w2⟩
      by_cases q1 : a = -1
      · rw [if_pos q1]
        exact t1 _ rfl (by rw [bs, if_pos (Or.inl q1)])
      · rw [if_neg q1]
        by_cases q2 : b ≤ m
        · rw [if_pos q2]
          exact ih ((a, b), S2) ⟨by omega, by rw [st, bs, if_neg (by omega)], h2, h3, h4, h5, FF, L2', by show WRT S2 (W + (k + 1)); rw [show W + (k + 1) = W + k + 1 by omega]; exact w2⟩
        · rw [if_neg q2]
          exact t1 _ rfl (by rw [bs, if_pos (Or.inr (by omega))])
    · have e2' : f_X7_tried N S1 (0 : Int32) (jj h) (jj k) = some (jj 0, S1) := c_tried0 (at_ := 0) (by decide) hO L1 k0 hk q
      rw [bnd_of e2', if_pos (show jj 0 = (0 : Int32) from rfl)]
      simp only [lt, jj_of, jj_add]
      refine ih ((a, b), S1) ⟨by omega, ?_, h2, h3, h4, h5, F1, L1, WRT_mono w1 (by omega)⟩
      rw [st]
      unfold bst
      rw [if_neg q]) 24 N 0 (((-1, 0) : Int × Int), S0) (by decide) (by omega) ⟨by decide, rfl, show (-1 : Int) ≤ -1 by decide, show (-1 : Int) < 24 by decide, show (0 : Int) ≤ 0 by decide, show (0 : Int) ≤ 100000000 by decide, FX_sub F0 (fun f j q => by unfold TRP; omega), L0, WRT_mono (WRT_FX F0 (fun j => by omega) hC.2.2.1) (by omega)⟩
  obtain ⟨⟨v, S'⟩, e, h1, h2, h3⟩ := this
  simp only at h1
  rw [h1] at e
  exact ⟨S', e, h2, h3⟩
def bfar (s : Int × Int) : Int := if s.1 = -1 then 2147483647 else s.2
theorem r_best {S : St} {N : Nat} {A : Int → Int} {M h : Int} {em et : Sem} (hN : 4000 < N) (hO : OKS A M) (hC : RC S A em et) (h0 : 0 ≤ h ∧ h < A 0) : ∃ S', f_X10_best_b19 N N (jj h) (jj (-1)) (jj 2147483647) (jj 0) S = some (jj (itr (bst em et A h) 0 24 (-1, 0)).1, S') ∧ RC S' A em et ∧ FX (fun f _ => f = 1000 ∨ (1020 ≤ f ∧ f ≤ 1025)) S S' := by
  have h04 := hO.2.2.1.2.1
  have := wp_up (F := fun n (s : (Int × Int) × St) k => f_X10_best_b19 N n (jj h) (jj s.1.1) (jj (bfar s.1)) (jj k) s.2) (P := fun k s => 0 ≤ k ∧ s.1 = itr (bst em et A h) 0 k.toNat (-1, 0) ∧ -1 ≤ s.1.1 ∧ s.1.1 < 24 ∧ 0 ≤ s.1.2 ∧ s.1.2 ≤ 100000000 ∧ RC s.2 A em et ∧ FX (fun f _ => f = 1000 ∨ (1020 ≤ f ∧ f ≤ 1025)) S s.2) (Q := fun r => r.1 = jj (itr (bst em et A h) 0 24 (-1, 0)).1 ∧ RC r.2 A em et ∧ FX (fun f _ => f = 1000 ∨ (1020 ≤ f ∧ f ≤ 1025)) S r.2) (E := 24) (by
    intro n ⟨⟨a, b⟩, S1⟩ ⟨k0, h1, h2, h3, h4, h5, R1, F1⟩
    simp only at h1 h2 h3 h4 h5 R1 F1
    simp only [f_X10_best_b19]
    rw [if_pos (show (24 : Int32) ≤ jj 24 by rw [jj_of]; exact Int32.le_refl _)]
    refine wp_some ⟨?_, R1, F1⟩
    rw [show (24 : Int).toNat = 24 from rfl] at h1
    rw [← h1]) (by
    intro n ⟨⟨a, b⟩, S1⟩ k hk ⟨k0, h1, h2, h3, h4, h5, R1, F1⟩ ih
    simp only at h1 h2 h3 h4 h5 R1 F1
    have st : itr (bst em et A h) 0 (k + 1).toNat (-1, 0) = bst em et A h k (a, b) := by
      rw [show (k + 1).toNat = k.toNat + 1 by omega, itr_add, ← h1, show (0 : Int) + (k.toNat : Int) = k by omega]
      rfl
    obtain ⟨S2, S3, S4, e2, e3, A3, O3, e4, R4, F4⟩ := r_one (h := h) (w := k) hN hO R1 h0 k0 hk
    have em3 := r_most O3 A3 hN
    have mb := MX_b12 O3
    have FF := FX_trans F1 F4
    simp only [f_X10_best_b19]
    rw [if_neg (show ¬ (24 : Int32) ≤ jj k by rw [jj_of, jj_le (by decide) (by decide) (by omega) (by omega)]; omega), bnd_of e2, bnd_of e3]
    simp only [jj_of]
    rw [bnd_of em3, bnd_of e4]
    simp only [lt, jj_add]
    have bf : 0 ≤ bfar (a, b) ∧ bfar (a, b) ≤ 2147483647 := by unfold bfar; simp only; split <;> omega
    by_cases q : 0 < A (11 + k / 2)
    · have tr : TR1 em et A h k = ST0 em et A h k := if_pos q
      rw [tr] at mb ⊢
      rw [if_pos q, if_neg (show ¬ jj 1 = jj 0 by decide)]
      have bs : bst em et A h k (a, b) = if a = -1 ∨ mxf (fun i => ST0 em et A h k (11 + i)) < b then (k, mxf (fun i => ST0 em et A h k (11 + i))) else (a, b) := by unfold bst; rw [if_pos q]
      generalize hm : mxf (fun i => ST0 em et A h k (11 + i)) = m at *
      simp (disch := omega) only [jj_lt]
      have bk : bfar (k, m) = m := by unfold bfar; exact if_neg (by show ¬ k = -1; omega)
      by_cases q1 : m < bfar (a, b)
      · rw [if_pos q1]
        have cond : a = -1 ∨ m < b := by
          unfold bfar at q1
          simp only at q1
          by_cases z : a = -1
          · exact Or.inl z
          · rw [if_neg z] at q1; exact Or.inr q1
        have := ih ((k, m), S4) ⟨by omega, by rw [st, bs, if_pos cond], by show -1 ≤ k; omega, hk, mb.1, mb.2, R4, FF⟩
        simp only [bk] at this
        exact this
      · rw [if_neg q1]
        refine ih ((a, b), S4) ⟨by omega, ?_, h2, h3, h4, h5, R4, FF⟩
        rw [st, bs, if_neg (fun z => q1 (by
          unfold bfar
          simp only
          rcases z with z | z
          · rw [if_pos z]; omega
          · by_cases y : a = -1
            · rw [if_pos y]; omega
            · rw [if_neg y]; exact z))]
    · rw [if_neg q, if_pos rfl]
      refine ih ((a, b), S4) ⟨by omega, ?_, h2, h3, h4, h5, R4, FF⟩
      rw [st]
      unfold bst
      rw [if_neg q]) 24 N 0 (((-1, 0) : Int × Int), S) (by decide) (by omega) ⟨by decide, rfl, show (-1 : Int) ≤ -1 by decide, show (-1 : Int) < 24 by decide, show (0 : Int) ≤ 0 by decide, show (0 : Int) ≤ 100000000 by decide, hC, FX_refl _ _⟩
  obtain ⟨⟨v, S'⟩, e, h1, h2⟩ := this
  simp only at h1
  rw [h1] at e
  exact ⟨S', e, h2⟩
theorem k_best {S : St} {N : Nat} {T : Int} (hN : 4000 < N) (t0 : 0 ≤ T) (t1 : T < 512) (hI : INV T S) (x : Int32) : TWO (fun S => f_X9_best N S x) (fun S => f_X10_best N S x) T S := by
  obtain ⟨A, B, hI⟩ := hI
  obtain ⟨em, et, hX, hR⟩ := INVA_get hI
  obtain ⟨z, rfl, b1, b2⟩ := jj_ex x
  have a0 := hX.2.1.1.2.2.1.1
  have a4 := hX.2.1.1.2.2.1.2.1
  show ∃ v S1 S2, f_X9_best N S (jj z) = some (v, S1) ∧ f_X10_best N S1 (jj z) = some (v, S2) ∧ INV (T + 1) S2
  by_cases q : 0 ≤ z ∧ z < A 0
  · obtain ⟨S1, e1, F1, w1⟩ := c_best hN hX (by unfold WT; omega) q
    have R1 : RC S1 A em et := RC_step hR F1 (by unfold TRP; omega) (by unfold TRP; omega) (FX_AR F1 (by unfold TRP; omega) hR.1) rfl
    obtain ⟨S2, e2, R2, F2⟩ := r_best hN hX.2.1.1 R1 q
    refine ⟨jj (itr (bst em et A z) 0 24 (-1, 0)).1, S1, S2, ?_, ?_, INV_try hI t0 t1 F1 w1 (by unfold WT; omega) R2 F2⟩
    · unfold f_X9_best
      rw [bnd_of (x_isHand hX.1.1.1 a0 a4 b1 b2), if_pos q, if_neg (by decide), bnd_of e1]
    · unfold f_X10_best
      rw [bnd_of (r_isHand R1.1 a0 a4 b1 b2), if_pos q, if_neg (by decide)]
      exact e2
  · refine ⟨jj (-1), S, S, ?_, ?_, INV_same hI t0 t1⟩
    · unfold f_X9_best
      rw [bnd_of (x_isHand hX.1.1.1 a0 a4 b1 b2), if_neg q, if_pos (by decide)]
      rfl
    · unfold f_X10_best
      rw [bnd_of (r_isHand hR.1 a0 a4 b1 b2), if_neg q, if_pos (by decide)]
      rfl
