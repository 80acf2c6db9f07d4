def P2W (em et : Sem) (h : Int) (X A : Int → Int) (w : Int) : Prop := 0 < X (11 + w / 2) ∧ LKE (ST0 em et X h w) A
def SPS (f j : Nat) : Prop := (200 ≤ f ∧ f ≤ 205) ∨ (400 ≤ f ∧ f ≤ 408 ∧ 64 ≤ j) ∨ f = 705 ∨ f = 707
theorem c_second {S S1 : St} {N : Nat} {A X : Int → Int} {M W0 W h w a b : Int} {em et : Sem} (hN : 4000 < N) (hC : XC S A M W0 em et) (F1 : FX TRP S S1) (hX : OKS X M) (gX : AG0 A X) (L1 : LAY S1 63 X) (hw : WRT S1 W) (hW : W + 24 < 100000000) (h0 : 0 ≤ h ∧ h < A 0) (w0 : 0 ≤ w) (w1 : w < 24) (a0 : 0 ≤ a) (a1 : a ≤ 1000) (b0 : -1 ≤ b) (b1 : b < 24) (e5 : gI S1 705 0 0 = jj a) (e7 : gI S1 707 0 0 = jj b) : wp (f_X7_seekSecond N S1 (jj h) (jj w)) (fun S' => FX SPS S1 S' ∧ WRT S' (W + 24) ∧ gI S' 705 0 0 = jj (itr (fsw (P2W em et h X A) (fun _ => w)) 0 24 (a, b)).1 ∧ gI S' 707 0 0 = jj (itr (fsw (P2W em et h X A) (fun _ => w)) 0 24 (a, b)).2) := by
  have hO := hC.2.1.1
  have h04 := hO.2.2.1.2.1
  have L0 : LAY S1 0 A := FX_LAY F1 (fun f a b => by unfold TRP; omega) hC.1.2.1.1
  obtain ⟨x, ex, -⟩ := skip_ok (N := N) (em := em) (et := et) (h := h) (w := 0) hN hX hO L1 L0 (by decide) (by decide)
  unfold f_X7_seekSecond
  rw [bnd_of ex]
  refine wp_up (F := fun n (s : (Int × Int) × St) k => f_X7_seekSecond_b20 N n (jj h) (jj w) x (jj k) s.2) (P := fun k s => 0 ≤ k ∧ s.1 = itr (fsw (P2W em et h X A) (fun _ => w)) 0 k.toNat (a, b) ∧ 0 ≤ s.1.1 ∧ s.1.1 ≤ 1000 + k ∧ -1 ≤ s.1.2 ∧ s.1.2 < 24 ∧ FX SPS S1 s.2 ∧ WRT s.2 (W + k) ∧ gI s.2 705 0 0 = jj s.1.1 ∧ gI s.2 707 0 0 = jj s.1.2) (E := 24) ?_ ?_ 24 N 0 ((a, b), S1) (by decide) (by omega) ⟨by decide, rfl, a0, by show a ≤ 1000 + 0; omega, b0, b1, FX_refl _ _, WRT_mono hw (by omega), e5, e7⟩
  · intro n ⟨⟨p, q⟩, S2⟩ ⟨k0, h1, h2, h3, h4, h5, F2, w2, g5, g7⟩
    simp only at h1 h2 h3 h4 h5 F2 w2 g5 g7
    have h1 : (p, q) = itr (fsw (P2W em et h X A) (fun _ => w)) 0 24 (a, b) := h1
    simp only [f_X7_seekSecond_b20]
    rw [if_pos (show (24 : Int32) ≤ jj 24 by rw [jj_of]; exact Int32.le_refl _), ← h1]
    exact wp_some ⟨F2, w2, g5, g7⟩
  · intro n ⟨⟨p, q⟩, S2⟩ k hk ⟨k0, h1, h2, h3, h4, h5, F2, w2, g5, g7⟩ ih
    simp only at h1 h2 h3 h4 h5 F2 w2 g5 g7
    have st : itr (fsw (P2W em et h X A) (fun _ => w)) 0 (k + 1).toNat (a, b) = fsw (P2W em et h X A) (fun _ => w) k (p, q) := by
      rw [show (k + 1).toNat = k.toNat + 1 by omega, itr_add, ← h1, show (0 : Int) + (k.toNat : Int) = k by omega]
      rfl
    have FT : FX TRP S S2 := FX_trans F1 (FX_sub F2 (fun f j q => by unfold SPS at q; unfold TRP; omega))
    have L2 : LAY S2 63 X := FX_LAY F2 (fun f a b => by unfold SPS; omega) L1
    obtain ⟨x', ex', sk⟩ := skip_ok (N := N) (em := em) (et := et) (h := h) (w := k) hN hX hO L1 L0 k0 hk
    have : x = x' := Option.some.inj (ex.symm.trans ex')
    subst this
    have nx : ∀ S3, FX SPS S1 S3 → WRT S3 (W + (k + 1)) → gI S3 705 0 0 = jj p → gI S3 707 0 0 = jj q → ¬ P2W em et h X A k → wp (f_X7_seekSecond_b20 N n (jj h) (jj w) x (jj (k + 1)) S3) (fun S' => FX SPS S1 S' ∧ WRT S' (W + 24) ∧ gI S' 705 0 0 = jj (itr (fsw (P2W em et h X A) (fun _ => w)) 0 24 (a, b)).1 ∧ gI S' 707 0 0 = jj (itr (fsw (P2W em et h X A) (fun _ => w)) 0 24 (a, b)).2) := fun S3 F3 w3 y5 y7 no => ih ((p, q), S3) ⟨by omega, by rw [st, fsw_no no], h2, by show p ≤ 1000 + (k + 1); omega, h4, h5, F3, w3, y5, y7⟩
    simp only [f_X7_seekSecond_b20, lt]
    rw [if_neg (show ¬ (24 : Int32) ≤ jj k by rw [show (24 : Int32) = jj 24 from rfl, jj_le (by omega) (by omega) (by omega) (by omega)]; omega), bnd_of (x_touched (S := S2) k0 hk).1, show jj k + (1 : Int32) = jj (k + 1) from jj_add k 1]
    by_cases z : (x &&& ((((1 : Int32) <<< (jj (k / 2) &&& 31)) ||| ((1 : Int32) <<< (jj (tgb k) &&& 31))) ^^^ (-1))) = 0
    · rw [if_pos z]
      by_cases y : 0 < X (11 + k / 2)
      · obtain ⟨S3, e3, L3, F3, w3⟩ := c_tried1 (at_ := 1) (h := h) (w := k) hN hC FT (by decide) hX gX L2 w2 (by omega) h0 k0 hk y
        have e3 : f_X7_tried N S2 1 (jj h) (jj k) = some (jj 1, S3) := e3
        have F3' : FX SPS S1 S3 := FX_trans F2 (FX_sub F3 (fun f j q => by unfold PUP at q; unfold SPS; omega))
        have w3' : WRT S3 (W + (k + 1)) := WRT_mono w3 (by omega)
        have y5 := (F3.1 705 0 0 (by unfold PUP; omega)).trans g5
        have y7 := (F3.1 707 0 0 (by unfold PUP; omega)).trans g7
        obtain ⟨v, ev, lk⟩ := x_like (j := 64) (k := 0) (N := N) hN (ST0_OKS hX ⟨h0.1, by omega⟩ k0 hk) hO L3 (FX_LAY F3' (fun f a b => by unfold SPS; omega) L0)
        rw [bnd_of e3, if_neg (show ¬ jj 1 = (0 : Int32) by decide), bnd_of ev]
        rcases lk with ⟨v0, no⟩ | ⟨v1, yes⟩
        · rw [v0, if_pos rfl]
          exact nx S3 F3' w3' y5 y7 (fun t => no t.2)
        · rw [v1, if_neg (show ¬ (1 : Int32) = 0 by decide), y5, show jj p + (1 : Int32) = jj (p + 1) from jj_add p 1, show gI (sI S3 705 0 0 (jj (p + 1))) 707 0 0 = jj q from (gI_sI _ _ _ _ _ _ _ _).trans (by rw [if_neg (by decide)]; exact y7)]
          have F4 : ∀ u, FX SPS S1 (sI (sI S3 705 0 0 (jj (p + 1))) 707 0 0 u) := fun u => FX_sI (FX_sI F3' (by unfold SPS; omega)) (by unfold SPS; omega)
          have w4 : ∀ u, WRT (sI (sI S3 705 0 0 (jj (p + 1))) 707 0 0 u) (W + (k + 1)) := fun u => WRT_FX (P := fun f _ => f = 705 ∨ f = 707) (FX_sI (FX_sI (FX_refl _ _) (Or.inl rfl)) (Or.inr rfl)) (fun j => by omega) w3'
          have yes2 : P2W em et h X A k := ⟨y, yes⟩
          by_cases t : q = -1
          · rw [if_pos (show jj q = -1 by rw [t]; rfl)]
            exact ih ((p + 1, w), _) ⟨by omega, by rw [st, fsw_yes yes2]; simp only [if_pos t], by show 0 ≤ p + 1; omega, by show p + 1 ≤ 1000 + (k + 1); omega, by show -1 ≤ w; omega, w1, F4 _, w4 _, rfl, rfl⟩
          · rw [if_neg (show ¬ jj q = -1 by rw [show (-1 : Int32) = jj (-1) from rfl, jj_eq (by omega) (by omega) (by decide) (by decide)]; exact t)]
            exact ih ((p + 1, q), _) ⟨by omega, by rw [st, fsw_yes yes2]; simp only [if_neg t], by show 0 ≤ p + 1; omega, by show p + 1 ≤ 1000 + (k + 1); omega, h4, h5, F4 _, w4 _, rfl, rfl⟩
      · have e3 : f_X7_tried N S2 1 (jj h) (jj k) = some (jj 0, S2) := c_tried0 (at_ := 1) (by decide) hX L2 k0 hk y
        rw [bnd_of e3, if_pos (show jj 0 = (0 : Int32) from rfl)]
        exact nx S2 F2 (WRT_mono w2 (by omega)) g5 g7 (fun t => y t.1)
    · rw [if_neg z]
      exact nx S2 F2 (WRT_mono w2 (by omega)) g5 g7 (fun t => sk z t.2)
