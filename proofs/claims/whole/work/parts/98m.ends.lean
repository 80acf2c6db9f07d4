/-! CALLS: ends, endsFirst. -/
/-- the lead of who takes first from m + 1 cells from i on -/
def gm (c : Int → Int) : Nat → Int → Int32
  | 0, i => jj (c i)
  | m + 1, i => if jj (c i) - gm c m (i + 1) < jj (c (i + m + 1)) - gm c m i then jj (c (i + m + 1)) - gm c m i else jj (c i) - gm c m (i + 1)
theorem gm_up (c : Int → Int) {m : Int} (h : 1 ≤ m) (i : Int) : gm c m.toNat i = if jj (c i) - gm c (m - 1).toNat (i + 1) < jj (c (i + m)) - gm c (m - 1).toNat i then jj (c (i + m)) - gm c (m - 1).toNat i else jj (c i) - gm c (m - 1).toNat (i + 1) := by
  rw [show m.toNat = (m - 1).toNat + 1 by omega]
  show (if jj (c i) - gm c (m - 1).toNat (i + 1) < jj (c (i + ((m - 1).toNat : Int) + 1)) - gm c (m - 1).toNat i then jj (c (i + ((m - 1).toNat : Int) + 1)) - gm c (m - 1).toNat i else jj (c i) - gm c (m - 1).toNat (i + 1)) = _
  rw [show i + ((m - 1).toNat : Int) + 1 = i + m by omega]
def LD (c : Int → Int) (a b m : Int) (S S1 : St) : Prop := FX (fun f _ => f = 300) S S1 ∧ ∀ i : Int, a ≤ i → i + m ≤ b → gI S1 300 0 i.toNat = gm c m.toNat i
theorem x_lead40 {S : St} {N : Nat} {c : Int → Int} {a b m : Int} {rec : Int32 → Int32 → Int32 → St → Option (Int32 × St)} {Q : Int32 × St → Prop} (hC : CC S 0 c) (a0 : 0 ≤ a) (b0 : b < 12) (m0 : 1 ≤ m) (mb : m ≤ b - a) (hN : 20 < N) (hr : ∀ S1, LD c a b m S S1 → wp (rec (jj a) (jj b) (jj (m + 1)) S1) Q) {S1 : St} (h : LD c a b (m - 1) S S1) : wp (f_X3_lead_b40 rec N 0 N (jj a) (jj b) (jj m) (jj a) S1) Q := by
  refine wp_up (F := fun n (S1 : St) k => f_X3_lead_b40 rec N 0 n (jj a) (jj b) (jj m) (jj k) S1) (P := fun k S1 => a ≤ k ∧ FX (fun f _ => f = 300) S S1 ∧ (∀ i : Int, a ≤ i → i < k → gI S1 300 0 i.toNat = gm c m.toNat i) ∧ (∀ i : Int, k ≤ i → i + (m - 1) ≤ b → gI S1 300 0 i.toNat = gm c (m - 1).toNat i)) (Q := Q) (E := b - m + 1) ?_ ?_ (b - m + 1 - a).toNat N a S1 (by omega) (by omega) ⟨by omega, h.1, fun i x y => by omega, fun i x y => h.2 i x y⟩
  · intro n S1 ⟨k0, F, h1, h2⟩
    simp only [f_X3_lead_b40]
    rw [jj_add, if_pos (show jj b < jj (b - m + 1 + m) by rw [jj_lt (by omega) (by omega) (by omega) (by omega)]; omega), show jj m + (1 : Int32) = jj (m + 1) from jj_add m 1]
    exact hr S1 ⟨F, fun i x y => h1 i x (by omega)⟩
  · intro n S1 k hk ⟨k0, F, h1, h2⟩ ih
    have x1 := (F.1 400 0 k.toNat (by decide)).trans (hC k (by omega) (by omega))
    have x2 := (F.1 400 0 (k + m).toNat (by decide)).trans (hC (k + m) (by omega) (by omega))
    have x3 := h2 k (by omega) (by omega)
    have x4 := h2 (k + 1) (by omega) (by omega)
    simp only [f_X3_lead_b40]
    rw [jj_add, show jj k + (1 : Int32) = jj (k + 1) from jj_add k 1, if_neg (show ¬ jj b < jj (k + m) by rw [jj_lt (by omega) (by omega) (by omega) (by omega)]; omega), chk_true (jj_inb (by omega) (by omega) (by omega)), chk_true (jj_inb (by omega) (by omega) (by omega)), chk_true (jj_inb (by omega) (by omega) (by omega)), chk_true (jj_inb (by omega) (by omega) (by omega)), jj_nat (a := k) (by omega) (by omega), jj_nat (a := k + 1) (by omega) (by omega), jj_nat (a := k + m) (by omega) (by omega), x1, x2, x3, x4]
    simp only [lt]
    rw [chk_true (jj_inb (by omega) (by omega) (by omega)), ← gm_up c m0 k]
    refine ih _ ⟨by omega, FX_sI F rfl, fun i x y => ?_, fun i x y => ?_⟩
    · rw [gI_sI]
      by_cases w : i = k
      · rw [if_pos ⟨rfl, rfl, by rw [w]⟩, w]
      · rw [if_neg (fun z => w (by have := z.2.2; omega))]
        exact h1 i x (by omega)
    · rw [gI_sI, if_neg (fun z => by have := z.2.2; omega)]
      exact h2 i (by omega) y
theorem x_lead {S : St} {N : Nat} {c : Int → Int} {a b : Int} (hC : CC S 0 c) (a0 : 0 ≤ a) (ab : a ≤ b) (b0 : b < 12) (hN : 20 < N) : ∃ S1, f_X3_lead N 0 S (jj a) (jj b) = some (gm c (b - a).toNat a, S1) ∧ FX (fun f _ => f = 300) S S1 := by
  have H : wp (f_X3_lead N 0 S (jj a) (jj b)) (fun r => r.1 = gm c (b - a).toNat a ∧ FX (fun f _ => f = 300) S r.2) := by
    refine wp_up (F := fun n (S1 : St) k => f_X3_lead_b3 N 0 n (jj a) (jj b) (jj k) S1) (P := fun k S1 => a ≤ k ∧ FX (fun f _ => f = 300) S S1 ∧ (∀ i : Int, a ≤ i → i < k → gI S1 300 0 i.toNat = jj (c i))) (E := b + 1) ?_ ?_ (b + 1 - a).toNat N a S (by omega) (by omega) ⟨by omega, FX_refl _ _, fun i x y => by omega⟩
    · intro n S1 ⟨k0, F, h1⟩
      simp only [f_X3_lead_b3]
      rw [if_pos (show jj b < jj (b + 1) by rw [jj_lt (by omega) (by omega) (by omega) (by omega)]; omega)]
      refine wp_up (F := fun n (S1 : St) m => f_X3_lead_b29 N 0 n (jj a) (jj b) (jj m) S1) (P := fun m S1 => 1 ≤ m ∧ LD c a b (m - 1) S S1) (E := b - a + 1) ?_ ?_ (b - a).toNat N 1 S1 (by omega) (by omega) ⟨by decide, F, fun i x y => h1 i x (by omega)⟩
      · intro n S1 ⟨m0, h2⟩
        simp only [f_X3_lead_b29]
        rw [jj_sub, if_pos (show jj (b - a) < jj (b - a + 1) by rw [jj_lt (by omega) (by omega) (by omega) (by omega)]; omega), chk_true (jj_inb (by omega) (by omega) (by omega)), jj_nat (a := a) (by omega) (by omega)]
        refine wp_some ⟨?_, h2.1⟩
        have := h2.2 a (by omega) (by omega)
        rw [show b - a + 1 - 1 = b - a by omega] at this
        exact this
      · intro n S1 m hm ⟨m0, h2⟩ ih
        simp only [f_X3_lead_b29]
        rw [jj_sub, if_neg (show ¬ jj (b - a) < jj m by rw [jj_lt (by omega) (by omega) (by omega) (by omega)]; omega)]
        refine x_lead40 hC a0 b0 m0 (by omega) hN (fun S2 h3 => ih S2 ⟨by omega, ?_⟩) h2
        rw [show m + 1 - 1 = m by omega]
        exact h3
    · intro n S1 k hk ⟨k0, F, h1⟩ ih
      have x1 := (F.1 400 0 k.toNat (by decide)).trans (hC k (by omega) (by omega))
      simp only [f_X3_lead_b3]
      rw [if_neg (show ¬ jj b < jj k by rw [jj_lt (by omega) (by omega) (by omega) (by omega)]; omega), chk_true (jj_inb (by omega) (by omega) (by omega)), chk_true (jj_inb (by omega) (by omega) (by omega)), jj_nat (a := k) (by omega) (by omega), x1]
      simp only [lt]
      rw [show jj k + (1 : Int32) = jj (k + 1) from jj_add k 1]
      refine ih _ ⟨by omega, FX_sI F rfl, fun i x y => ?_⟩
      rw [gI_sI]
      by_cases w : i = k
      · rw [if_pos ⟨rfl, rfl, by rw [w]⟩, w]
      · rw [if_neg (fun z => w (by have := z.2.2; omega))]
        exact h1 i x (by omega)
  obtain ⟨⟨v, S1⟩, e, e1, e2⟩ := H
  have e1 : v = _ := e1
  subst e1
  exact ⟨S1, e, e2⟩
def GMS (c : Int → Int) (S1 : St) (L k : Int) : Prop := ∀ l i : Int, 1 ≤ l → (l < L ∨ l = L ∧ i < k) → 0 ≤ i → i + l ≤ 12 → gI S1 1027 0 (12 * i + (i + l - 1)).toNat = gm c (l - 1).toNat i
theorem r_games {S : St} {N : Nat} {c : Int → Int} (hC : CA S c) (hN : 20 < N) : ∃ S1, f_X10_layGames N S = some S1 ∧ FX (fun f _ => f = 1027) S S1 ∧ GMS c S1 13 0 := by
  have H : wp (f_X10_layGames N S) (fun S1 => FX (fun f _ => f = 1027) S S1 ∧ GMS c S1 13 0) := by
    refine wp_up (F := fun n (S1 : St) L => f_X10_layGames_b2 N n (jj L) S1) (P := fun L S1 => 1 ≤ L ∧ FX (fun f _ => f = 1027) S S1 ∧ GMS c S1 L 0) (E := 13) ?_ ?_ 12 N 1 S (by decide) (by omega) ⟨by decide, FX_refl _ _, fun l i a b d e => by omega⟩
    · intro n S1 ⟨k0, F, h1⟩
      simp only [f_X10_layGames_b2]
      rw [if_pos (show (12 : Int32) < jj 13 by decide)]
      exact wp_some ⟨F, h1⟩
    · intro n S1 L hL ⟨L0, F, h1⟩ ih
      simp only [f_X10_layGames_b2]
      rw [if_neg (show ¬ (12 : Int32) < jj L by rw [show (12 : Int32) = jj 12 from rfl, jj_lt (by omega) (by omega) (by omega) (by omega)]; omega)]
      refine wp_up (F := fun n' (S1 : St) k => f_X10_layGames_b10 (f_X10_layGames_b2 N n) N n' (jj L) (jj k) S1) (P := fun k S1 => 0 ≤ k ∧ FX (fun f _ => f = 1027) S S1 ∧ GMS c S1 L k) (E := 13 - L) ?_ ?_ (13 - L).toNat N 0 S1 (by omega) (by omega) ⟨by decide, F, h1⟩
      · intro n' S2 ⟨k0, F2, h2⟩
        simp only [f_X10_layGames_b10]
        rw [jj_add, if_pos (show (12 : Int32) < jj (13 - L + L) by rw [show (12 : Int32) = jj 12 from rfl, jj_lt (by omega) (by omega) (by omega) (by omega)]; omega)]
        simp only [lt]
        rw [show jj L + (1 : Int32) = jj (L + 1) from jj_add L 1]
        exact ih S2 ⟨by omega, F2, fun l i a b d e => h2 l i a (by omega) d e⟩
      · intro n' S2 k hk ⟨k0, F2, h2⟩ ih2
        have y1 := (F2.1 1000 0 (11 + k).toNat (by decide)).trans (hC k (by omega) (by omega))
        have y2 := (F2.1 1000 0 (11 + (k + L - 1)).toNat (by decide)).trans (hC (k + L - 1) (by omega) (by omega))
        have fin : ∀ v, v = gm c (L - 1).toNat k → wp (f_X10_layGames_b10 (f_X10_layGames_b2 N n) N n' (jj L) (jj (k + 1)) (sI S2 1027 0 (12 * k + (k + L - 1)).toNat v)) (fun S1 => FX (fun f _ => f = 1027) S S1 ∧ GMS c S1 13 0) := by
          intro v hv
          refine ih2 _ ⟨by omega, FX_sI F2 rfl, fun l i a b d e => ?_⟩
          rw [gI_sI]
          by_cases w : l = L ∧ i = k
          · rw [if_pos ⟨rfl, rfl, by rw [w.1, w.2]⟩, hv, w.1, w.2]
          · rw [if_neg (fun z => w (by have := z.2.2; omega))]
            exact h2 l i a (by omega) d e
        simp only [f_X10_layGames_b10]
        rw [jj_add, if_neg (show ¬ (12 : Int32) < jj (k + L) by rw [show (12 : Int32) = jj 12 from rfl, jj_lt (by omega) (by omega) (by omega) (by omega)]; omega)]
        simp only [lt]
        rw [show jj (k + L) - (1 : Int32) = jj (k + L - 1) from jj_sub _ 1, show (11 : Int32) + jj k = jj (11 + k) from jj_add 11 k, chk_true (jj_inb (by omega) (by omega) (by omega)), jj_nat (a := 11 + k) (by omega) (by omega), y1]
        by_cases w : L = 1
        · rw [if_pos (show jj L = 1 by rw [w]; rfl)]
          simp only [f_X10_layGames_b55, lt]
          rw [show (11 : Int32) + jj (k + L - 1) = jj (11 + (k + L - 1)) from jj_add 11 _, chk_true (jj_inb (by omega) (by omega) (by omega)), jj_nat (a := 11 + (k + L - 1)) (by omega) (by omega), y2, if_pos (show jj L = 1 by rw [w]; rfl)]
          simp only [f_X10_layGames_b89, lt]
          rw [show (12 : Int32) * jj k + jj (k + L - 1) = jj (12 * k + (k + L - 1)) from by rw [show (12 : Int32) = jj 12 from rfl, jj_mul, jj_add], chk_true (jj_inb (by omega) (by omega) (by omega)), jj_nat (a := 12 * k + (k + L - 1)) (by omega) (by omega), show jj k + (1 : Int32) = jj (k + 1) from jj_add k 1, show k + L - 1 = k by omega, Int32.sub_zero, chk_true (jj_inb (by omega) (by omega) (by omega)), ite_self]
          have := fin (jj (c k)) (by rw [w]; rfl)
          rw [show k + L - 1 = k by omega] at this
          exact this
        · have w2 : ¬ jj L = 1 := by
            rw [show (1 : Int32) = jj 1 from rfl, jj_eq (by omega) (by omega) (by omega) (by omega)]
            exact w
          have g1 := h2 (L - 1) (k + 1) (by omega) (by omega) (by omega) (by omega)
          have g2 := h2 (L - 1) k (by omega) (by omega) (by omega) (by omega)
          rw [if_neg w2, show (12 : Int32) * (jj k + (1 : Int32)) + jj (k + L - 1) = jj (12 * (k + 1) + (k + 1 + (L - 1) - 1)) from by rw [show (12 : Int32) = jj 12 from rfl, show (1 : Int32) = jj 1 from rfl, jj_add, jj_mul, jj_add, show k + 1 + (L - 1) - 1 = k + L - 1 by omega], chk_true (jj_inb (by omega) (by omega) (by omega)), jj_nat (a := 12 * (k + 1) + (k + 1 + (L - 1) - 1)) (by omega) (by omega), g1]
          simp only [f_X10_layGames_b55, lt]
          rw [show (11 : Int32) + jj (k + L - 1) = jj (11 + (k + L - 1)) from jj_add 11 _, chk_true (jj_inb (by omega) (by omega) (by omega)), jj_nat (a := 11 + (k + L - 1)) (by omega) (by omega), y2, if_neg w2, show (12 : Int32) * jj k + jj (k + L - 1) - (1 : Int32) = jj (12 * k + (k + (L - 1) - 1)) from by rw [show (12 : Int32) = jj 12 from rfl, show (1 : Int32) = jj 1 from rfl, jj_mul, jj_add, jj_sub, show 12 * k + (k + L - 1) - 1 = 12 * k + (k + (L - 1) - 1) by omega], chk_true (jj_inb (by omega) (by omega) (by omega)), jj_nat (a := 12 * k + (k + (L - 1) - 1)) (by omega) (by omega), g2]
          simp only [f_X10_layGames_b89, lt]
          rw [show (12 : Int32) * jj k + jj (k + L - 1) = jj (12 * k + (k + L - 1)) from by rw [show (12 : Int32) = jj 12 from rfl, jj_mul, jj_add], chk_true (jj_inb (by omega) (by omega) (by omega)), chk_true (jj_inb (by omega) (by omega) (by omega)), jj_nat (a := 12 * k + (k + L - 1)) (by omega) (by omega), show jj k + (1 : Int32) = jj (k + 1) from jj_add k 1]
          have gu := gm_up c (show 1 ≤ L - 1 by omega) k
          rw [show k + (L - 1) = k + L - 1 by omega] at gu
          by_cases z : jj (c k) - gm c (L - 1 - 1).toNat (k + 1) < jj (c (k + L - 1)) - gm c (L - 1 - 1).toNat k
          · rw [if_pos z]
            exact fin _ (by rw [gu, if_pos z])
          · rw [if_neg z]
            exact fin _ (by rw [gu, if_neg z])
  obtain ⟨S1, e, e1, e2⟩ := H
  exact ⟨S1, e, e1, e2⟩
