/-! The class's search. -/
theorem x_above {S : St} {N j : Nat} {A : Int → Int} {lim M : Int} (hO : OKS A M) (hL : LAY S j A) (hN : 4000 < N) (l0 : 0 ≤ lim) (l1 : lim ≤ 9999) : f_X3_cellsAbove N j S (jj lim) = some (jj (cntA A lim)) ∧ 0 ≤ cntA A lim ∧ cntA A lim ≤ 12 := by
  have hB := OKR_CB hO.1 hO.2.2.2
  have hb := pre_le (f := abv A lim) (fun i => by unfold abv; split <;> omega) 12
  refine ⟨?_, hb.1, hb.2⟩
  have := wp_up (F := fun n (_ : Unit) k => f_X3_cellsAbove_b4 N j n (jj lim) (jj (pre (abv A lim) k.toNat)) (jj k) S) (P := fun k _ => 0 ≤ k) (Q := fun r => r = jj (cntA A lim)) (E := 12) (by
    intro n a k0
    simp only [f_X3_cellsAbove_b4]
    rw [if_pos (show (12 : Int32) ≤ jj 12 by rw [jj_of]; exact Int32.le_refl _)]
    exact wp_some rfl) (by
    intro n a k hk k0 ih
    have cb := hB k k0 hk
    simp only at cb
    have up := pre_up (f := abv A lim) k0
    simp only [f_X3_cellsAbove_b4, lt]
    rw [if_neg (show ¬ (12 : Int32) ≤ jj k by rw [show (12 : Int32) = jj 12 from rfl, jj_le (by omega) (by omega) (by omega) (by omega)]; omega), chk_true (jj_inb k0 (by omega) (by omega)), jj_nat (a := k) (by omega) (by omega), hL.1 k k0 hk, show jj k + (1 : Int32) = jj (k + 1) from jj_add k 1]
    have ee : abv A lim k = if A (11 + k) ≤ lim then 0 else 1 := rfl
    by_cases q : A (11 + k) ≤ lim
    · rw [if_pos q] at ee
      rw [if_pos (show jj (A (11 + k)) ≤ jj lim by rw [jj_le (by omega) (by omega) (by omega) (by omega)]; exact q)]
      have := ih () (by omega)
      rw [up, ee, Int.add_zero] at this
      exact this
    · rw [if_neg q] at ee
      rw [if_neg (show ¬ jj (A (11 + k)) ≤ jj lim by rw [jj_le (by omega) (by omega) (by omega) (by omega)]; exact q)]
      have := ih () (by omega)
      rw [up, ee] at this
      rw [show jj (pre (abv A lim) k.toNat) + (1 : Int32) = jj (pre (abv A lim) k.toNat + 1) from jj_add _ 1]
      exact this) 12 N 0 () (by decide) (by omega) (by decide)
  obtain ⟨r, e, rfl⟩ := this
  exact e
def PLP (d f j : Nat) : Prop := (200 ≤ f ∧ f ≤ 205) ∨ (400 ≤ f ∧ f ≤ 408 ∧ 62 + d < j) ∨ f = 704
def PLF (d : Nat) (S S2 : St) : Prop := FX (PLP d) S S2 ∧ ∀ k : Nat, k < d → gI S2 704 0 k = gI S 704 0 k
theorem PLF_trans {d : Nat} {S S1 S2 : St} (h : PLF d S S1) (h2 : PLF d S1 S2) : PLF d S S2 := ⟨FX_trans h.1 h2.1, fun k a => (h2.2 k a).trans (h.2 k a)⟩
def wb : Nat → Int
  | 0 => 0
  | r + 1 => 24 * (1 + wb r)
theorem wb_0 (r : Nat) : 0 ≤ wb r := by
  induction r with
  | zero => exact Int.le_refl _
  | succ r ih => show 0 ≤ 24 * (1 + wb r); omega
theorem dig_low {r k : Nat} {w c : Int} (hr : r ≤ 2) (hk : k < r) (c0 : 0 ≤ c) : (w * 24 ^ r + c) / 24 ^ (r - (k + 1)) % 24 = c / 24 ^ (r - 1 - k) % 24 := by
  match r, k, hr, hk with
  | 1, 0, _, _ => show (w * 24 + c) / 1 % 24 = c / 1 % 24; omega
  | 2, 0, _, _ => show (w * 576 + c) / 24 % 24 = c / 24 % 24; omega
  | 2, 1, _, _ => show (w * 576 + c) / 1 % 24 = c / 1 % 24; omega
def FND (em et : Sem) (h lim : Int) (r d : Nat) (A1 : Int → Int) (S2 : St) (v : Int32) : Prop := (v = 0 ∧ ∀ c : Int, 0 ≤ c → c < 24 ^ r → ¬ PTH em et h lim r A1 c) ∨ (v = 1 ∧ ∃ c, LOW em et h lim r A1 c ∧ ∀ k : Nat, k < r → gI S2 704 0 (d + k) = jj ((c / 24 ^ (r - 1 - k)) % 24))
theorem c_pl {S : St} {N : Nat} {A : Int → Int} {M W0 h lim : Int} {em et : Sem} (hN : 4000 < N) (hC : XC S A M W0 em et) (h0 : 0 ≤ h ∧ h < A 0) (l0 : 0 ≤ lim) (l1 : lim ≤ 9999) : ∀ (r n d : Nat) (A1 : Int → Int) (S1 : St) (W : Int), r + d ≤ 3 → r < n → FX TRP S S1 → OKS A1 M → AG0 A A1 → LAY S1 (62 + d) A1 → WRT S1 W → W + wb r < 100000000 → wp (F_pl N n 0 (jj (d : Nat)) (jj ((d + r : Nat) : Int)) (jj h) (jj lim) S1) (fun q => PLF d S1 q.2 ∧ WRT q.2 (W + wb r) ∧ FND em et h lim r d A1 q.2 q.1) := by
  have h04 := hC.2.1.1.2.2.1.2.1
  intro r
  induction r with
  | zero =>
    intro n d A1 S1 W rd hn F1 O1 g1 L1 w1 hW
    obtain ⟨n, rfl⟩ : ∃ n', n = n' + 1 := ⟨n - 1, by omega⟩
    obtain ⟨ea, ea0, ea1⟩ := x_above (N := N) O1 L1 hN l0 l1
    simp only [F_pl, fg_X7_isPlan]
    rw [chk_true (jj_inb (by omega) (by omega) (by omega)), jj_nat (a := (d : Int)) (by omega) (by omega), show ((d : Int)).toNat = d by omega, bnd_of ea, if_pos (show jj ((d + 0 : Nat) : Int) ≤ jj (d : Int) from Int32.le_refl _)]
    unfold f_X7_isPlan_b29
    by_cases q : cntA A1 lim = 0
    · rw [if_pos (show jj (cntA A1 lim) = 0 by rw [q]; rfl)]
      exact wp_some ⟨⟨FX_refl _ _, fun _ _ => rfl⟩, WRT_mono w1 (by show W ≤ W + 0; omega), Or.inr ⟨rfl, 0, ⟨by decide, by decide, q, fun e a b => by omega⟩, fun k a => by omega⟩⟩
    · rw [if_neg (show ¬ jj (cntA A1 lim) = 0 by rw [show (0 : Int32) = jj 0 from rfl, jj_eq (by omega) (by omega) (by decide) (by decide)]; exact q)]
      exact wp_some ⟨⟨FX_refl _ _, fun _ _ => rfl⟩, WRT_mono w1 (by show W ≤ W + 0; omega), Or.inl ⟨rfl, fun c _ _ p => q p⟩⟩
  | succ r ih =>
    intro n d A1 S1 W rd hn F1 O1 g1 L1 w1 hW
    obtain ⟨n, rfl⟩ : ∃ n', n = n' + 1 := ⟨n - 1, by omega⟩
    obtain ⟨ea, ea0, ea1⟩ := x_above (N := N) O1 L1 hN l0 l1
    have wr0 := wb_0 r
    have wbe : wb (r + 1) = 24 * (1 + wb r) := rfl
    simp only [F_pl, fg_X7_isPlan]
    rw [chk_true (jj_inb (by omega) (by omega) (by omega)), jj_nat (a := (d : Int)) (by omega) (by omega), show ((d : Int)).toNat = d by omega, bnd_of ea, if_neg (show ¬ jj ((d + (r + 1) : Nat) : Int) ≤ jj (d : Int) by rw [jj_le (by omega) (by omega) (by omega) (by omega)]; omega), show jj ((d + (r + 1) : Nat) : Int) - jj (d : Int) = jj ((r + 1 : Nat) : Int) from by rw [jj_sub]; refine congrArg jj ?_; omega]
    by_cases qa : cntA A1 lim ≤ ((r + 1 : Nat) : Int)
    · rw [if_pos (show jj (cntA A1 lim) ≤ jj ((r + 1 : Nat) : Int) by rw [jj_le (by omega) (by omega) (by omega) (by omega)]; exact qa)]
      have loop : ∀ fl : Int32, (fl ≠ 0 → cntA A1 lim = ((r + 1 : Nat) : Int)) → wp (f_X7_isPlan_b58 (F_pl N n) N N (jj (d : Int)) (jj ((d + (r + 1) : Nat) : Int)) (jj h) (jj lim) fl 0 S1) (fun q => PLF d S1 q.2 ∧ WRT q.2 (W + wb (r + 1)) ∧ FND em et h lim (r + 1) d A1 q.2 q.1) := by
        intro fl hfl
        refine wp_up (F := fun n' (S2 : St) w => f_X7_isPlan_b58 (F_pl N n) N n' (jj (d : Int)) (jj ((d + (r + 1) : Nat) : Int)) (jj h) (jj lim) fl (jj w) S2) (P := fun w S2 => 0 ≤ w ∧ PLF d S1 S2 ∧ WRT S2 (W + w * (1 + wb r)) ∧ ∀ c : Int, 0 ≤ c → c < 24 ^ (r + 1) → c / 24 ^ r < w → ¬ PTH em et h lim (r + 1) A1 c) (E := 24) ?_ ?_ 24 N 0 S1 (by decide) (by omega) ⟨by decide, ⟨FX_refl _ _, fun _ _ => rfl⟩, WRT_mono w1 (by omega), fun c c0 c1 c2 => by have := (dig_b c0 c1).1; omega⟩
        · intro n' S2 ⟨k0, P2, w2, no⟩
          simp only [f_X7_isPlan_b58]
          rw [if_pos (show (24 : Int32) ≤ jj 24 by rw [jj_of]; exact Int32.le_refl _)]
          exact wp_some ⟨P2, by rw [wbe]; exact w2, Or.inl ⟨rfl, fun c c0 c1 => no c c0 c1 (dig_b c0 c1).2.1⟩⟩
        · intro n' S2 w hw ⟨k0, P2, w2, no⟩ ih2
          have L2 : LAY S2 (62 + d) A1 := FX_LAY P2.1 (fun f a b => by unfold PLP; omega) L1
          have F2 : FX TRP S S2 := FX_trans F1 (FX_sub P2.1 (fun f j q => by unfold PLP at q; unfold TRP; omega))
          have wle : w * (1 + wb r) ≤ 23 * (1 + wb r) := Int.mul_le_mul_of_nonneg_right (by omega) (by omega)
          have wex : (w + 1) * (1 + wb r) = w * (1 + wb r) + (1 + wb r) := by rw [Int.add_mul, Int.one_mul]
          have cb := OKR_CB O1.1 O1.2.2.2 (w / 2) (by omega) (by omega)
          simp only at cb
          have next : ∀ S3, PLF d S1 S3 → WRT S3 (W + (w + 1) * (1 + wb r)) → (∀ c : Int, 0 ≤ c → c < 24 ^ (r + 1) → c / 24 ^ r = w → ¬ PTH em et h lim (r + 1) A1 c) → wp (f_X7_isPlan_b58 (F_pl N n) N n' (jj (d : Int)) (jj ((d + (r + 1) : Nat) : Int)) (jj h) (jj lim) fl (jj (w + 1)) S3) (fun q => PLF d S1 q.2 ∧ WRT q.2 (W + wb (r + 1)) ∧ FND em et h lim (r + 1) d A1 q.2 q.1) := fun S3 P3 w3 nw => ih2 S3 ⟨by omega, P3, w3, fun c c0 c1 c2 => by
            by_cases z : c / 24 ^ r = w
            · exact nw c c0 c1 z
            · exact no c c0 c1 (by omega)⟩
          have go : wp (f_X7_isPlan_b89 (f_X7_isPlan_b58 (F_pl N n) N n') (F_pl N n) N (jj (d : Int)) (jj ((d + (r + 1) : Nat) : Int)) (jj h) (jj lim) fl (jj w) S2) (fun q => PLF d S1 q.2 ∧ WRT q.2 (W + wb (r + 1)) ∧ FND em et h lim (r + 1) d A1 q.2 q.1) := by
            simp only [f_X7_isPlan_b89, f_X7_isPlan_b94, lt]
            rw [if_neg (show ¬ (1 : Int32) = 0 by decide), show jj w + (1 : Int32) = jj (w + 1) from jj_add w 1, show jj (d : Int) + (1 : Int32) = jj ((d + 1 : Nat) : Int) from by rw [show (1 : Int32) = jj 1 from rfl, jj_add]; rfl]
            by_cases q : 0 < A1 (11 + w / 2)
            · obtain ⟨S3, e3, L3, F3, w3⟩ := c_tried1 (at_ := d) (h := h) (w := w) hN hC F2 (by omega) O1 g1 L2 w2 (by omega) h0 k0 hw q
              have P3 : PLF d S1 S3 := PLF_trans P2 ⟨FX_sub F3 (fun f j q => by unfold PUP at q; unfold PLP; omega), fun k a => F3.1 704 0 k (by unfold PUP; omega)⟩
              have L3' : LAY S3 (62 + d) A1 := FX_LAY P3.1 (fun f a b => by unfold PLP; omega) L1
              have tb := tb_one L3.2.1 L3'.2.1
              have O3 := ST0_OKS (em := em) (et := et) (h := h) O1 ⟨h0.1, by omega⟩ k0 hw
              rw [bnd_of e3, if_neg (show ¬ jj 1 = (0 : Int32) by decide), chk_true (jj_inb (by omega) (by omega) (by omega)), chk_true (jj_inb (by omega) (by omega) (by omega)), jj_nat (a := (d : Int)) (by omega) (by omega), jj_nat (a := ((d + 1 : Nat) : Int)) (by omega) (by omega), show ((d : Int)).toNat = d by omega, show (((d + 1 : Nat) : Int)).toNat = d + 1 by omega, show 62 + (d + 1) = 62 + d + 1 by omega]
              by_cases y : gI S3 404 (62 + d + 1) 0 = gI S3 404 (62 + d) 0
              · have hw2 : wth A1 (ST0 em et A1 h w) := fun i a b => tb.1 y i a b
                rw [if_pos y, chk_true (jj_inb (by omega) (by omega) (by omega))]
                have F4 : FX (PLP d) S3 (sI S3 704 0 d (jj w)) := FX_sI (FX_refl _ _) (by unfold PLP; omega)
                have P4 : PLF d S1 (sI S3 704 0 d (jj w)) := PLF_trans P3 ⟨F4, fun k a => by rw [gI_sI, if_neg (by omega)]⟩
                have e4 : gI (sI S3 704 0 d (jj w)) 704 0 d = jj w := by rw [gI_sI, if_pos ⟨rfl, rfl, rfl⟩]
                have L4 : LAY (sI S3 704 0 d (jj w)) (62 + (d + 1)) (ST0 em et A1 h w) := FX_LAY (FX_sI (P := fun f _ => f = 704) (FX_refl _ _) rfl) (fun f a b => by omega) L3
                have w4 : WRT (sI S3 704 0 d (jj w)) (W + w * (1 + wb r) + 1) := WRT_FX (FX_sI (P := fun f _ => f = 704) (FX_refl _ _) rfl) (fun j => by decide) w3
                generalize sI S3 704 0 d (jj w) = S4 at P4 e4 L4 w4
                have F5 : FX TRP S S4 := FX_trans F1 (FX_sub P4.1 (fun f j q => by unfold PLP at q; unfold TRP; omega))
                have := ih n (d + 1) (ST0 em et A1 h w) S4 (W + w * (1 + wb r) + 1) (by omega) (by omega) F5 O3 (AG0_trans g1 (ST0_AG0 k0 hw)) L4 w4 (by omega)
                obtain ⟨⟨v, S5⟩, e5, P5, w5, fnd⟩ := this
                simp only at P5 w5 fnd
                rw [show d + 1 + r = d + (r + 1) by omega] at e5
                have P6 : PLF d S1 S5 := PLF_trans P4 ⟨FX_sub P5.1 (fun f j q => by unfold PLP at *; omega), fun k a => P5.2 k (by omega)⟩
                have w6 : WRT S5 (W + (w + 1) * (1 + wb r)) := WRT_mono w5 (by omega)
                rw [bnd_of e5]
                rcases fnd with ⟨v0, nn⟩ | ⟨v1, c, lo, dg⟩
                · rw [v0, if_pos rfl]
                  refine next S5 P6 w6 (fun c c0 c1 c2 p => ?_)
                  have db := dig_b c0 c1
                  have p3 : PTH em et h lim r (ST0 em et A1 h (c / 24 ^ r)) (c % 24 ^ r) := p.2.2
                  rw [c2] at p3
                  exact nn _ db.2.2.1 db.2.2.2 p3
                · rw [v1, if_neg (show ¬ (1 : Int32) = 0 by decide)]
                  refine wp_some ⟨P6, WRT_mono w6 (by rw [wbe, wex]; omega), Or.inr ⟨rfl, w * 24 ^ r + c, low_step k0 hw q hw2 lo no, fun k a => ?_⟩⟩
                  cases k with
                  | zero =>
                    rw [show r + 1 - 1 - 0 = r by omega, (dig_of (w := w) lo.1 lo.2.1).1]
                    refine ((P5.2 d (by omega)).trans e4).trans ?_
                    refine congrArg jj ?_
                    omega
                  | succ k =>
                    have := dg k (by omega)
                    rw [show d + 1 + k = d + (k + 1) by omega] at this
                    rw [show r + 1 - 1 - (k + 1) = r - (k + 1) by omega, dig_low (by omega) (by omega) lo.1]
                    exact this
              · rw [if_neg y]
                refine next S3 P3 (WRT_mono w3 (by omega)) (fun c c0 c1 c2 p => y (tb.2 (fun i a b => ?_)))
                have p2 : wth A1 (ST0 em et A1 h (c / 24 ^ r)) := p.2.1
                rw [c2] at p2
                exact p2 i a b
            · have e3 : f_X7_tried N S2 (jj (d : Int)) (jj h) (jj w) = some (jj 0, S2) := c_tried0 (at_ := d) (by omega) O1 L2 k0 hw q
              rw [bnd_of e3, if_pos (show jj 0 = (0 : Int32) from rfl)]
              refine next S2 P2 (WRT_mono w2 (by omega)) (fun c c0 c1 c2 p => q ?_)
              have p1 : 0 < A1 (11 + (c / 24 ^ r) / 2) := p.1
              rw [c2] at p1
              exact p1
          simp only [f_X7_isPlan_b58]
          rw [if_neg (show ¬ (24 : Int32) ≤ jj w by rw [jj_of, jj_le (by decide) (by decide) (by omega) (by omega)]; omega)]
          by_cases f0 : fl = 0
          · rw [if_pos f0]
            exact go
          · rw [if_neg f0, chk_true (jj_inb (by omega) (by omega) (by omega)), show jj w / (2 : Int32) = jj (w / 2) from jj_div (b := 2) (by omega) (by omega) (by decide) (by decide), chk_true (jj_inb (by omega) (by omega) (by omega)), jj_nat (a := (d : Int)) (by omega) (by omega), jj_nat (a := w / 2) (by omega) (by omega), show ((d : Int)).toNat = d by omega, L2.1 (w / 2) (by omega) (by omega)]
            by_cases q : A1 (11 + w / 2) ≤ lim
            · rw [if_pos (show jj (A1 (11 + w / 2)) ≤ jj lim by rw [jj_le (by omega) (by omega) (by omega) (by omega)]; exact q)]
              simp only [f_X7_isPlan_b94, lt]
              rw [if_pos trivial, show jj w + (1 : Int32) = jj (w + 1) from jj_add w 1]
              refine next S2 P2 (WRT_mono w2 (by omega)) (fun c c0 c1 c2 p => ?_)
              have db := dig_b c0 c1
              have p3 : PTH em et h lim r (ST0 em et A1 h (c / 24 ^ r)) (c % 24 ^ r) := p.2.2
              rw [c2] at p3
              have := pth_cnt ⟨h0.1, by omega⟩ r _ _ (ST0_OKS (em := em) (et := et) (h := h) O1 ⟨h0.1, by omega⟩ k0 hw) db.2.2.1 db.2.2.2 p3
              have := (cnt_drop (em := em) (et := et) (h := h) (lim := lim) O1 k0 hw).2 q
              have := hfl f0
              omega
            · rw [if_neg (show ¬ jj (A1 (11 + w / 2)) ≤ jj lim by rw [jj_le (by omega) (by omega) (by omega) (by omega)]; exact q)]
              exact go
      by_cases qb : cntA A1 lim = ((r + 1 : Nat) : Int)
      · rw [if_pos (show jj (cntA A1 lim) = jj ((r + 1 : Nat) : Int) by rw [qb])]
        exact loop 1 (fun _ => qb)
      · rw [if_neg (show ¬ jj (cntA A1 lim) = jj ((r + 1 : Nat) : Int) by rw [jj_eq (by omega) (by omega) (by omega) (by omega)]; exact qb)]
        exact loop 0 (fun z => absurd rfl z)
    · rw [if_neg (show ¬ jj (cntA A1 lim) ≤ jj ((r + 1 : Nat) : Int) by rw [jj_le (by omega) (by omega) (by omega) (by omega)]; exact qa)]
      unfold f_X7_isPlan_b29
      rw [if_neg (show ¬ jj (cntA A1 lim) = 0 by rw [show (0 : Int32) = jj 0 from rfl, jj_eq (by omega) (by omega) (by decide) (by decide)]; omega)]
      refine wp_some ⟨⟨FX_refl _ _, fun _ _ => rfl⟩, WRT_mono w1 (by rw [wbe]; omega), Or.inl ⟨rfl, fun c c0 c1 p => ?_⟩⟩
      have := pth_cnt ⟨h0.1, by omega⟩ (r + 1) _ _ O1 c0 c1 p
      omega
