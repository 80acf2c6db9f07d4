/-! CALL: plan. -/
def NON (em et : Sem) (h lim : Int) (L : Nat) (A : Int → Int) : Prop := ∀ c : Int, 0 ≤ c → c < 24 ^ L → ¬ PTH em et h lim L A c
theorem wb_3 {r : Nat} (h : r ≤ 3) : wb r ≤ 14424 := by
  match r, h with
  | 0, _ => decide
  | 1, _ => decide
  | 2, _ => decide
  | 3, _ => decide
theorem p24_3 {r : Nat} (h : r ≤ 3) : (24 : Int) ^ r ≤ 13824 := by
  match r, h with
  | 0, _ => decide
  | 1, _ => decide
  | 2, _ => decide
  | 3, _ => decide
theorem c_few {S : St} {N : Nat} {A : Int → Int} {M W h lim : Int} {em et : Sem} (hN : 4000 < N) (hC : XC S A M W em et) (hW : W + 60000 < 100000000) (h0 : 0 ≤ h ∧ h < A 0) (l0 : 0 ≤ lim) (l1 : lim ≤ 9999) : wp (f_X7_fewest N S (jj h) (jj lim)) (fun q => FX TRP S q.2 ∧ WRT q.2 (W + 60000) ∧ ((q.1 = jj (-2) ∧ ∀ L : Nat, L ≤ 3 → NON em et h lim L A) ∨ (∃ (L : Nat) (c : Int), L ≤ 3 ∧ q.1 = jj (L : Int) ∧ (∀ L' : Nat, L' < L → NON em et h lim L' A) ∧ LOW em et h lim L A c ∧ ∀ k : Nat, k < L → gI q.2 704 0 k = jj ((c / 24 ^ (L - 1 - k)) % 24)))) := by
  obtain ⟨S0, e0, L0, F0⟩ := laysAs_LAY (j := 62) (k := 0) (by decide) hC.1.2.1.1
  unfold f_X7_fewest
  rw [bnd_of e0]
  refine wp_up (F := fun n (S1 : St) k => f_X7_fewest_b18 N n (jj h) (jj lim) (jj k) S1) (P := fun k S1 => 0 ≤ k ∧ FX TRP S S1 ∧ LAY S1 62 A ∧ WRT S1 (W + 15000 * k) ∧ ∀ L : Nat, (L : Int) < k → NON em et h lim L A) (E := 4) ?_ ?_ 4 N 0 S0 (by decide) (by omega) ⟨by decide, FX_sub F0 (fun f j q => by unfold TRP; omega), L0, WRT_mono (WRT_FX F0 (fun j => by omega) hC.2.2.1) (by omega), fun L a => by omega⟩
  · intro n S1 ⟨k0, F1, L1, w1, no⟩
    simp only [f_X7_fewest_b18]
    rw [if_pos (show (3 : Int32) < jj 4 by decide)]
    exact wp_some ⟨F1, WRT_mono w1 (by omega), Or.inl ⟨rfl, fun L a => no L (by omega)⟩⟩
  · intro n S1 k hk ⟨k0, F1, L1, w1, no⟩ ih
    have wb3 := wb_3 (show k.toNat ≤ 3 by omega)
    have wb0 := wb_0 k.toNat
    have H := c_pl (N := N) hN hC h0 l0 l1 k.toNat 8 0 A S1 (W + 15000 * k) (by omega) (by omega) F1 hC.2.1.1 (fun _ _ => rfl) L1 w1 (by omega)
    rw [Nat.zero_add, show ((k.toNat : Nat) : Int) = k by omega] at H
    obtain ⟨⟨v, S2⟩, e, P2, w2, fnd⟩ := H
    simp only at P2 w2 fnd
    have F2 : FX TRP S S2 := FX_trans F1 (FX_sub P2.1 (fun f j q => by unfold PLP at q; unfold TRP; omega))
    have e : f_X7_isPlan N S1 0 (jj k) (jj h) (jj lim) = some (v, S2) := e
    simp only [f_X7_fewest_b18, lt]
    rw [if_neg (show ¬ (3 : Int32) < jj k by rw [show (3 : Int32) = jj 3 from rfl, jj_lt (by omega) (by omega) (by omega) (by omega)]; omega), bnd_of e]
    rcases fnd with ⟨v0, nn⟩ | ⟨v1, c, lo, dg⟩
    · rw [v0, if_pos rfl, show jj k + (1 : Int32) = jj (k + 1) from jj_add k 1]
      refine ih S2 ⟨by omega, F2, FX_LAY P2.1 (fun f a b => by unfold PLP; omega) L1, WRT_mono w2 (by omega), fun L a => ?_⟩
      by_cases z : L = k.toNat
      · rw [z]; exact nn
      · exact no L (by omega)
    · rw [v1, if_neg (show ¬ (1 : Int32) = 0 by decide)]
      refine wp_some ⟨F2, WRT_mono w2 (by omega), Or.inr ⟨k.toNat, c, by omega, by rw [show ((k.toNat : Nat) : Int) = k by omega], fun L' a => no L' (by omega), lo, fun i a => ?_⟩⟩
      have := dg i a
      rw [Nat.zero_add] at this
      exact this
theorem r_46 {S S1 : St} {N : Nat} {A : Int → Int} {M h lim c : Int} {x3 : Int32} {em et : Sem} {L : Nat} {rec : Int32 → Int32 → Int32 → Int32 → Int32 → St → Option (Int32 × St)} {Q : Int32 × St → Prop} (hN : 200000000 < N) (hO : OKS A M) (hC : RC S1 A em et) (F1 : FX (fun f _ => f = 1000 ∨ (1020 ≤ f ∧ f ≤ 1025)) S S1) (h0 : 0 ≤ h ∧ h < A 0) (l0 : 0 ≤ lim) (l1 : lim ≤ 9999) (hL : L ≤ 3) (cs : (c = 24 ^ L ∧ NON em et h lim L A ∧ ∀ S2, RC S2 A em et → FX (fun f _ => f = 1000 ∨ (1020 ≤ f ∧ f ≤ 1025)) S S2 → wp (rec (jj h) (jj lim) x3 (jj (24 ^ (L + 1))) (jj ((L + 1 : Nat) : Int)) S2) Q) ∨ (LOW em et h lim L A c ∧ ∀ S2, RC S2 A em et → FX (fun f _ => f = 1000 ∨ (1020 ≤ f ∧ f ≤ 1025)) S S2 → wp (if x3 = -1 then some (jj (L : Int), S2) else f_X10_plan_b87 N N x3 (jj (L : Int)) (jj c) (jj (L : Int) - 1) S2) Q)) : wp (f_X10_plan_b46 rec N N (jj h) (jj lim) x3 (jj (24 ^ L)) (jj (L : Int)) 0 S1) Q := by
  have p0 := pow24 L
  have p1 := p24_3 hL
  have cb : 0 ≤ c ∧ c ≤ 24 ^ L := by
    rcases cs with ⟨e, _⟩ | ⟨lo, _⟩
    · omega
    · have := lo.1; have := lo.2.1; omega
  have nob : ∀ d : Int, 0 ≤ d → d < c → ¬ PTH em et h lim L A d := by
    intro d d0 d1
    rcases cs with ⟨e, no, _⟩ | ⟨lo, _⟩
    · exact no d d0 (by omega)
    · exact lo.2.2.2 d d0 d1
  refine wp_up (F := fun n (S2 : St) k => f_X10_plan_b46 rec N n (jj h) (jj lim) x3 (jj (24 ^ L)) (jj (L : Int)) (jj k) S2) (P := fun k S2 => 0 ≤ k ∧ RC S2 A em et ∧ FX (fun f _ => f = 1000 ∨ (1020 ≤ f ∧ f ≤ 1025)) S S2) (E := c) ?_ ?_ c.toNat N 0 S1 (by omega) (by omega) ⟨by decide, hC, F1⟩
  · intro n S2 ⟨k0, R2, F2⟩
    simp only [f_X10_plan_b46, lt]
    rcases cs with ⟨e, no, fin⟩ | ⟨lo, fin⟩
    · rw [if_pos (show jj (24 ^ L) ≤ jj c by rw [e]; exact Int32.le_refl _), show jj (24 ^ L) * (24 : Int32) = jj (24 ^ (L + 1)) from by rw [show (24 : Int32) = jj 24 from rfl, jj_mul, Int.pow_succ], show jj (L : Int) + (1 : Int32) = jj ((L + 1 : Nat) : Int) from by rw [show (1 : Int32) = jj 1 from rfl, jj_add]; rfl]
      exact fin S2 R2 F2
    · have lc := lo.2.1
      obtain ⟨v, S3, e3, R3, F3, q⟩ := r_isPlan (L := L) (code := c) (lim := lim) (show 4000 < N by omega) hO R2 h0 l0 l1 lo.1 lc (by omega) hL
      have v1 : v = 1 := by
        rcases q with ⟨_, q⟩ | ⟨q, _⟩
        · exact absurd lo.2.2.1 q
        · exact q
      rw [if_neg (show ¬ jj (24 ^ L) ≤ jj c by rw [jj_le (by omega) (by omega) (by omega) (by omega)]; omega), bnd_of e3, v1, if_neg (show ¬ (1 : Int32) = 0 by decide)]
      exact fin S3 R3 (FX_trans F2 F3)
  · intro n S2 k hk ⟨k0, R2, F2⟩ ih
    obtain ⟨v, S3, e3, R3, F3, q⟩ := r_isPlan (L := L) (code := k) (lim := lim) (show 4000 < N by omega) hO R2 h0 l0 l1 k0 (by omega) (by omega) hL
    have v0 : v = 0 := by
      rcases q with ⟨q, _⟩ | ⟨_, q⟩
      · exact q
      · exact absurd q (nob k k0 hk)
    simp only [f_X10_plan_b46, lt]
    rw [if_neg (show ¬ jj (24 ^ L) ≤ jj k by rw [jj_le (by omega) (by omega) (by omega) (by omega)]; omega), bnd_of e3, v0, if_pos rfl, show jj k + (1 : Int32) = jj (k + 1) from jj_add k 1]
    exact ih S3 ⟨by omega, R3, FX_trans F2 F3⟩
theorem r_plan {S : St} {N : Nat} {A : Int → Int} {M h lim y : Int} {em et : Sem} (hN : 200000000 < N) (hO : OKS A M) (hC : RC S A em et) (h0 : 0 ≤ h ∧ h < A 0) (l0 : 0 ≤ lim) (l1 : lim ≤ 9999) (y0 : -1 ≤ y) (y1 : y ≤ 2) {Q : Int32 → Prop} (E : Nat) (cs : (E = 4 ∧ (∀ L : Nat, L ≤ 3 → NON em et h lim L A) ∧ Q (jj (-2))) ∨ (E ≤ 3 ∧ ∃ c, (∀ L' : Nat, L' < E → NON em et h lim L' A) ∧ LOW em et h lim E A c ∧ (y = -1 → Q (jj (E : Int))) ∧ (0 ≤ y → (E : Int) ≤ y → Q (jj (-2))) ∧ (0 ≤ y → y < E → Q (jj (c / 24 ^ (E - 1 - y.toNat) % 24))))) : wp (f_X10_plan_b37 N N (jj h) (jj lim) (jj y) 1 0 S) (fun q => Q q.1 ∧ RC q.2 A em et ∧ FX (fun f _ => f = 1000 ∨ (1020 ≤ f ∧ f ≤ 1025)) S q.2) := by
  have H := wp_up (F := fun n (S1 : St) k => f_X10_plan_b37 N n (jj h) (jj lim) (jj y) (jj (24 ^ k.toNat)) (jj k) S1) (P := fun k S1 => 0 ≤ k ∧ RC S1 A em et ∧ FX (fun f _ => f = 1000 ∨ (1020 ≤ f ∧ f ≤ 1025)) S S1) (Q := fun q => Q q.1 ∧ RC q.2 A em et ∧ FX (fun f _ => f = 1000 ∨ (1020 ≤ f ∧ f ≤ 1025)) S q.2) (E := (E : Int)) (by
    intro n S1 ⟨k0, R1, F1⟩
    simp only [f_X10_plan_b37]
    rcases cs with ⟨e, no, q⟩ | ⟨e, c, no, lo, q1, q2, q3⟩
    · rw [e, if_pos (show (4 : Int32) ≤ jj ((4 : Nat) : Int) from Int32.le_refl _)]
      exact wp_some ⟨q, R1, F1⟩
    · have lc := lo.2.1
      have lc0 := lo.1
      have p1 := p24_3 e
      rw [if_neg (show ¬ (4 : Int32) ≤ jj (E : Int) by rw [show (4 : Int32) = jj 4 from rfl, jj_le (by omega) (by omega) (by omega) (by omega)]; omega), show ((E : Int)).toNat = E by omega]
      refine r_46 hN hO R1 F1 h0 l0 l1 e (Or.inr ⟨lo, fun S2 R2 F2 => ?_⟩)
      by_cases z : y = -1
      · rw [if_pos (show jj y = -1 by rw [z]; rfl)]
        exact wp_some ⟨q1 z, R2, F2⟩
      · rw [if_neg (show ¬ jj y = -1 by rw [show (-1 : Int32) = jj (-1) from rfl, jj_eq (by omega) (by omega) (by decide) (by decide)]; exact z), show jj (E : Int) - (1 : Int32) = jj ((E : Int) - 1) from jj_sub _ 1]
        by_cases w : (E : Int) ≤ y
        · obtain ⟨N', hN'⟩ : ∃ n', N = n' + 1 := ⟨N - 1, by omega⟩
          have : ∀ m, f_X10_plan_b87 N (m + 1) (jj y) (jj (E : Int)) (jj c) (jj ((E : Int) - 1)) S2 = some (-2, S2) := by
            intro m
            simp only [f_X10_plan_b87]
            rw [if_pos (show jj ((E : Int) - 1) ≤ jj y by rw [jj_le (by omega) (by omega) (by omega) (by omega)]; omega), if_pos (show jj (E : Int) ≤ jj y by rw [jj_le (by omega) (by omega) (by omega) (by omega)]; exact w)]
          have t := this N'
          rw [← hN'] at t
          exact wp_eq t ⟨q2 (by omega) w, R2, F2⟩
        · have t := r_87 (S := S2) (N := N) (y := y) (L := (E : Int)) (by omega) y1 (by omega) (by omega) (E - 1 - y.toNat) N c (by omega) (by omega) lc0 (by omega)
          rw [show y + ((E - 1 - y.toNat : Nat) : Int) = (E : Int) - 1 by omega] at t
          exact wp_eq t ⟨q3 (by omega) (by omega), R2, F2⟩) (by
    intro n S1 k hk ⟨k0, R1, F1⟩ ih
    have E4 : E ≤ 4 := by
      rcases cs with ⟨e, _⟩ | ⟨e, _⟩ <;> omega
    have no : NON em et h lim k.toNat A := by
      rcases cs with ⟨e, no, q⟩ | ⟨e, c, no, _⟩
      · exact no _ (by omega)
      · exact no _ (by omega)
    simp only [f_X10_plan_b37]
    rw [if_neg (show ¬ (4 : Int32) ≤ jj k by rw [show (4 : Int32) = jj 4 from rfl, jj_le (by omega) (by omega) (by omega) (by omega)]; omega)]
    have := r_46 (S := S) (S1 := S1) (N := N) (x3 := jj y) (rec := f_X10_plan_b37 N n) (c := 24 ^ k.toNat) (L := k.toNat) (Q := fun q => Q q.1 ∧ RC q.2 A em et ∧ FX (fun f _ => f = 1000 ∨ (1020 ≤ f ∧ f ≤ 1025)) S q.2) hN hO R1 F1 h0 l0 l1 (by omega) (Or.inl ⟨rfl, no, fun S2 R2 F2 => by
      have := ih S2 ⟨by omega, R2, F2⟩
      rw [show (k + 1).toNat = k.toNat + 1 by omega] at this
      rw [show ((k.toNat + 1 : Nat) : Int) = k + 1 by omega]
      exact this⟩)
    rw [show ((k.toNat : Nat) : Int) = k by omega] at this
    exact this) E N 0 S (by omega) (by rcases cs with ⟨e, _⟩ | ⟨e, _⟩ <;> omega) ⟨by decide, hC, FX_refl _ _⟩
  exact H
