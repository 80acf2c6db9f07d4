/-! CALLS: feed. -/
def cby (x : Int32) (s : Int) : Int32 := ((x.toUInt32 >>> ((jj s).toUInt32 &&& Int32.toUInt32 31)).toInt32) &&& (255 : Int32)
def rby (x : Int32) (s : Int) : Int32 := (x >>> (jj s &&& 31)) &&& (255 : Int32)
theorem by_eq {x : Int32} {s : Int} (hs : s = 24 ∨ s = 16 ∨ s = 8 ∨ s = 0) : cby x s = rby x s := by
  apply Int32.toBitVec_inj.mp
  unfold cby rby
  rw [Int32.toBitVec_and, Int32.toBitVec_and]
  have key : ∀ k : Nat, k ≤ 24 → (x.toBitVec >>> k) &&& (255 : Int32).toBitVec = (x.toBitVec.sshiftRight k) &&& (255 : Int32).toBitVec := by
    intro k hk
    apply BitVec.eq_of_getLsbD_eq
    intro i hi
    rw [BitVec.getLsbD_and, BitVec.getLsbD_and, BitVec.getLsbD_ushiftRight, BitVec.getLsbD_sshiftRight]
    have e : (255 : Int32).toBitVec.getLsbD i = decide (i < 8) := by
      have : ∀ j : Fin 32, (255 : Int32).toBitVec.getLsbD j.val = decide (j.val < 8) := by decide
      exact this ⟨i, hi⟩
    rw [e]
    by_cases h : i < 8
    · have h1 : ¬ 32 ≤ i := by omega
      have h2 : k + i < 32 := by omega
      simp [h, h2, hi]
    · simp [h]
  have l : ∀ t : Int, (x.toUInt32 >>> ((jj t).toUInt32 &&& Int32.toUInt32 31)).toInt32.toBitVec = x.toBitVec >>> (((jj t).toUInt32 &&& Int32.toUInt32 31).toBitVec % 32#32) := fun t => rfl
  have r : ∀ t : Int, (x >>> (jj t &&& 31)).toBitVec = x.toBitVec.sshiftRight' ((jj t &&& 31).toBitVec.smod 32) := fun t => rfl
  rw [l, r]
  rcases hs with rfl | rfl | rfl | rfl
  · rw [show (((jj 24).toUInt32 &&& Int32.toUInt32 31).toBitVec % 32#32) = 24#32 from by decide, show ((jj 24 &&& 31).toBitVec.smod 32) = 24#32 from by decide]
    exact key 24 (by decide)
  · rw [show (((jj 16).toUInt32 &&& Int32.toUInt32 31).toBitVec % 32#32) = 16#32 from by decide, show ((jj 16 &&& 31).toBitVec.smod 32) = 16#32 from by decide]
    exact key 16 (by decide)
  · rw [show (((jj 8).toUInt32 &&& Int32.toUInt32 31).toBitVec % 32#32) = 8#32 from by decide, show ((jj 8 &&& 31).toBitVec.smod 32) = 8#32 from by decide]
    exact key 8 (by decide)
  · rw [show (((jj 0).toUInt32 &&& Int32.toUInt32 31).toBitVec % 32#32) = 0#32 from by decide, show ((jj 0 &&& 31).toBitVec.smod 32) = 0#32 from by decide]
    exact key 0 (by decide)
theorem and255 (y : Int32) : ∃ b : Int, y &&& (255 : Int32) = jj b ∧ 0 ≤ b ∧ b < 256 := by
  have e : y &&& (255 : Int32) = ii ((y &&& (255 : Int32)).toBitVec.toNat) := by
    apply Int32.toBitVec_inj.mp
    show _ = BitVec.ofNat 32 _
    rw [BitVec.ofNat_toNat, BitVec.setWidth_eq]
  have h : (y &&& (255 : Int32)).toBitVec.toNat < 256 := by
    rw [Int32.toBitVec_and, BitVec.toNat_and]
    exact Nat.lt_of_le_of_lt Nat.and_le_right (by decide)
  refine ⟨((y &&& (255 : Int32)).toBitVec.toNat : Int), ?_, by omega, by omega⟩
  rw [← jj_iin]
  exact e
/-- bytes that come behind others -/
def APP (fb fl : Nat) (S S' : St) (L m : Int) (g : Int → Int32) : Prop := gI S' fl 0 0 = jj (L + m) ∧ (∀ i : Int, 0 ≤ i → i < L → gI S' fb 0 i.toNat = gI S fb 0 i.toNat) ∧ (∀ i : Int, L ≤ i → i < L + m → gI S' fb 0 i.toNat = g (i - L)) ∧ FX (fun f _ => f = fb ∨ f = fl) S S'
theorem APP_trans {fb fl : Nat} {S S1 S2 : St} {L m k : Int} {g h : Int → Int32} (l0 : 0 ≤ L) (m0 : 0 ≤ m) (a : APP fb fl S S1 L m g) (b : APP fb fl S1 S2 (L + m) k h) : APP fb fl S S2 L (m + k) (fun i => if i < m then g i else h (i - m)) := by
  obtain ⟨a1, a2, a3, a4⟩ := a
  obtain ⟨b1, b2, b3, b4⟩ := b
  refine ⟨by rw [b1, show L + m + k = L + (m + k) by omega], fun i p q => (b2 i p (by omega)).trans (a2 i p q), fun i p q => ?_, FX_trans a4 b4⟩
  by_cases w : i < L + m
  · dsimp only
    rw [if_pos (show i - L < m by omega)]
    exact (b2 i (by omega) w).trans (a3 i p w)
  · dsimp only
    rw [if_neg (show ¬ i - L < m by omega), show i - L - m = i - (L + m) by omega]
    exact b3 i (by omega) (by omega)
theorem x_four1 {S : St} {N n : Nat} {x : Int32} {s L : Int} (hL : gI S 501 0 0 = jj L) (l0 : 0 ≤ L) (l1 : L < 300) (s0 : 0 ≤ s) (s1 : s ≤ 24) : ∃ S', f_X5_takeFour_b3 N (n + 1) x (jj s) S = f_X5_takeFour_b3 N n x (jj (s - 8)) S' ∧ APP 500 501 S S' L 1 (fun _ => cby x s) := by
  have e1 : gI (sI S 500 0 L.toNat (cby x s)) 501 0 0 = jj L := by rw [gI_sI, if_neg (by omega)]; exact hL
  refine ⟨sI (sI S 500 0 L.toNat (cby x s)) 501 0 0 (jj (L + 1)), ?_, ?_, fun i a b => ?_, fun i a b => ?_, FX_sI (FX_sI (FX_refl _ _) (Or.inl rfl)) (Or.inr rfl)⟩
  · rw [f_X5_takeFour_b3]
    rw [if_neg (show ¬ jj s < (0 : Int32) by rw [jj_of, jj_lt (by omega) (by omega) (by decide) (by decide)]; omega), hL, if_neg (show ¬ (300 : Int32) ≤ jj L by rw [jj_of, jj_le (by decide) (by decide) (by omega) (by omega)]; omega), chk_true (jj_inb l0 (by omega) (by omega)), jj_nat (by omega) (by omega)]
    simp only [lt]
    rw [show (((x.toUInt32 >>> ((jj s).toUInt32 &&& Int32.toUInt32 31)).toInt32) &&& (255 : Int32)) = cby x s from rfl, e1, show jj L + (1 : Int32) = jj (L + 1) from by rw [jj_of, jj_add], show jj s + (-8 : Int32) = jj (s - 8) from by rw [show (-8 : Int32) = jj (-8) from rfl, jj_add]; congr 1]
  · rw [gI_sI, if_pos ⟨rfl, rfl, rfl⟩]
  · rw [gI_sI, if_neg (by omega), gI_sI, if_neg (fun z => by have := z.2.2; omega)]
  · rw [gI_sI, if_neg (by omega), gI_sI, if_pos ⟨rfl, rfl, by rw [show i = L by omega]⟩]
theorem r_four1 {S : St} {N n : Nat} {x : Int32} {s L : Int} (hL : gI S 1004 0 0 = jj L) (l0 : 0 ≤ L) (l1 : L < 300) (s0 : 0 ≤ s) (s1 : s ≤ 24) : ∃ S', f_X10_four_b3 N (n + 1) x (jj s) S = f_X10_four_b3 N n x (jj (s - 8)) S' ∧ APP 1003 1004 S S' L 1 (fun _ => rby x s) := by
  have e1 : gI (sI S 1003 0 L.toNat (rby x s)) 1004 0 0 = jj L := by rw [gI_sI, if_neg (by omega)]; exact hL
  refine ⟨sI (sI S 1003 0 L.toNat (rby x s)) 1004 0 0 (jj (L + 1)), ?_, ?_, fun i a b => ?_, fun i a b => ?_, FX_sI (FX_sI (FX_refl _ _) (Or.inl rfl)) (Or.inr rfl)⟩
  · rw [f_X10_four_b3]
    rw [if_neg (show ¬ jj s < (0 : Int32) by rw [jj_of, jj_lt (by omega) (by omega) (by decide) (by decide)]; omega), hL, chk_true (jj_inb l0 (by omega) (by omega)), jj_nat (by omega) (by omega)]
    simp only [lt]
    rw [show ((x >>> (jj s &&& 31)) &&& (255 : Int32)) = rby x s from rfl, e1, show jj L + (1 : Int32) = jj (L + 1) from by rw [jj_of, jj_add], show jj s + (-8 : Int32) = jj (s - 8) from by rw [show (-8 : Int32) = jj (-8) from rfl, jj_add]; congr 1]
  · rw [gI_sI, if_pos ⟨rfl, rfl, rfl⟩]
  · rw [gI_sI, if_neg (by omega), gI_sI, if_neg (fun z => by have := z.2.2; omega)]
  · rw [gI_sI, if_neg (by omega), gI_sI, if_pos ⟨rfl, rfl, by rw [show i = L by omega]⟩]
def b4 (x : Int32) : Int → Int32 := fun i => rby x (24 - 8 * i)
theorem APP_ext {fb fl : Nat} {S S' : St} {L m : Int} {g h : Int → Int32} (a : APP fb fl S S' L m g) (e : ∀ i, 0 ≤ i → i < m → g i = h i) : APP fb fl S S' L m h := ⟨a.1, a.2.1, fun i p q => (a.2.2.1 i p q).trans (e _ (by omega) (by omega)), a.2.2.2⟩
theorem x_four {S : St} {N : Nat} {x : Int32} {L : Int} (hN : 4000 < N) (hL : gI S 501 0 0 = jj L) (l0 : 0 ≤ L) (l1 : L + 4 ≤ 300) : ∃ S', f_X5_takeFour N S x = some S' ∧ APP 500 501 S S' L 4 (b4 x) := by
  obtain ⟨n, rfl⟩ : ∃ n, N = n + 1 + 1 + 1 + 1 + 1 := ⟨N - 5, by omega⟩
  obtain ⟨S1, e1, a1⟩ := x_four1 (N := n + 1 + 1 + 1 + 1 + 1) (n := n + 1 + 1 + 1 + 1) (x := x) (s := 24) hL l0 (by omega) (by decide) (by decide)
  obtain ⟨S2, e2, a2⟩ := x_four1 (N := n + 1 + 1 + 1 + 1 + 1) (n := n + 1 + 1 + 1) (x := x) (s := 16) a1.1 (by omega) (by omega) (by decide) (by decide)
  obtain ⟨S3, e3, a3⟩ := x_four1 (N := n + 1 + 1 + 1 + 1 + 1) (n := n + 1 + 1) (x := x) (s := 8) a2.1 (by omega) (by omega) (by decide) (by decide)
  obtain ⟨S4, e4, a4⟩ := x_four1 (N := n + 1 + 1 + 1 + 1 + 1) (n := n + 1) (x := x) (s := 0) a3.1 (by omega) (by omega) (by decide) (by decide)
  refine ⟨S4, ?_, ?_⟩
  · unfold f_X5_takeFour
    rw [show (24 : Int32) = jj 24 from jj_of 24, e1, show jj (24 - 8) = jj 16 from rfl, e2, show jj (16 - 8) = jj 8 from rfl, e3, show jj (8 - 8) = jj 0 from rfl, e4]
    rw [f_X5_takeFour_b3]
    exact if_pos (by decide)
  · have := APP_trans (m := 1) l0 (by decide) a1 (APP_trans (m := 1) (by omega) (by decide) a2 (APP_trans (m := 1) (by omega) (by decide) a3 a4))
    refine APP_ext this (fun i p q => ?_)
    unfold b4
    have : i = 0 ∨ i = 1 ∨ i = 2 ∨ i = 3 := by omega
    rcases this with rfl | rfl | rfl | rfl
    · exact by_eq (Or.inl rfl)
    · exact by_eq (Or.inr (Or.inl rfl))
    · exact by_eq (Or.inr (Or.inr (Or.inl rfl)))
    · exact by_eq (Or.inr (Or.inr (Or.inr rfl)))
theorem r_four {S : St} {N : Nat} {x : Int32} {L : Int} (hN : 4000 < N) (hL : gI S 1004 0 0 = jj L) (l0 : 0 ≤ L) (l1 : L + 4 ≤ 300) : ∃ S', f_X10_four N S x = some S' ∧ APP 1003 1004 S S' L 4 (b4 x) := by
  obtain ⟨n, rfl⟩ : ∃ n, N = n + 1 + 1 + 1 + 1 + 1 := ⟨N - 5, by omega⟩
  obtain ⟨S1, e1, a1⟩ := r_four1 (N := n + 1 + 1 + 1 + 1 + 1) (n := n + 1 + 1 + 1 + 1) (x := x) (s := 24) hL l0 (by omega) (by decide) (by decide)
  obtain ⟨S2, e2, a2⟩ := r_four1 (N := n + 1 + 1 + 1 + 1 + 1) (n := n + 1 + 1 + 1) (x := x) (s := 16) a1.1 (by omega) (by omega) (by decide) (by decide)
  obtain ⟨S3, e3, a3⟩ := r_four1 (N := n + 1 + 1 + 1 + 1 + 1) (n := n + 1 + 1) (x := x) (s := 8) a2.1 (by omega) (by omega) (by decide) (by decide)
  obtain ⟨S4, e4, a4⟩ := r_four1 (N := n + 1 + 1 + 1 + 1 + 1) (n := n + 1) (x := x) (s := 0) a3.1 (by omega) (by omega) (by decide) (by decide)
  refine ⟨S4, ?_, ?_⟩
  · unfold f_X10_four
    rw [show (24 : Int32) = jj 24 from jj_of 24, e1, show jj (24 - 8) = jj 16 from rfl, e2, show jj (16 - 8) = jj 8 from rfl, e3, show jj (8 - 8) = jj 0 from rfl, e4]
    rw [f_X10_four_b3]
    exact if_pos (by decide)
  · have := APP_trans (m := 1) l0 (by decide) a1 (APP_trans (m := 1) (by omega) (by decide) a2 (APP_trans (m := 1) (by omega) (by decide) a3 a4))
    refine APP_ext this (fun i p q => ?_)
    unfold b4
    have : i = 0 ∨ i = 1 ∨ i = 2 ∨ i = 3 := by omega
    rcases this with rfl | rfl | rfl | rfl <;> rfl
theorem APP_byte {fb fl : Nat} {x : Int32} (i : Int) : ∃ b : Int, b4 x i = jj b ∧ 0 ≤ b ∧ b < 256 := and255 _
theorem k_feed {S : St} {N : Nat} {T : Int} (hN : 4000 < N) (t0 : 0 ≤ T) (t1 : T < 512) (hI : INV T S) (x1 x2 x3 x4 x5 : Int32) : TWO (fun S => f_X9_feed N S x1 x2 x3 x4 x5) (fun S => f_X10_feed N S x1 x2 x3 x4 x5) T S := by
  obtain ⟨A, B, hI⟩ := hI
  obtain ⟨i1, i2, i3, i4, i5, i6, i7, i8, ⟨n, b, p1, p2, p3, p4, p5⟩, i10, i11⟩ := id hI
  show ∃ v S1 S2, f_X9_feed N S x1 x2 x3 x4 x5 = some (v, S1) ∧ f_X10_feed N S1 x1 x2 x3 x4 x5 = some (v, S2) ∧ INV (T + 1) S2
  by_cases q : n + 20 ≤ 300
  · obtain ⟨S1, e1, a1⟩ := x_four (x := x1) hN p1 p3 (by omega)
    obtain ⟨S2, e2, a2⟩ := x_four (x := x2) hN a1.1 (by omega) (by omega)
    obtain ⟨S3, e3, a3⟩ := x_four (x := x3) hN a2.1 (by omega) (by omega)
    obtain ⟨S4, e4, a4⟩ := x_four (x := x4) hN a3.1 (by omega) (by omega)
    obtain ⟨S5, e5, a5⟩ := x_four (x := x5) hN a4.1 (by omega) (by omega)
    have aX := APP_trans p3 (by decide) a1 (APP_trans (by omega) (by decide) a2 (APP_trans (by omega) (by decide) a3 (APP_trans (by omega) (by decide) a4 a5)))
    have FX1 := aX.2.2.2
    have h4 : gI S5 1004 0 0 = jj n := (FX1.1 1004 0 0 (by omega)).trans p2
    obtain ⟨R1, f1, c1⟩ := r_four (S := S5) (x := x1) hN h4 p3 (by omega)
    obtain ⟨R2, f2, c2⟩ := r_four (x := x2) hN c1.1 (by omega) (by omega)
    obtain ⟨R3, f3, c3⟩ := r_four (x := x3) hN c2.1 (by omega) (by omega)
    obtain ⟨R4, f4, c4⟩ := r_four (x := x4) hN c3.1 (by omega) (by omega)
    obtain ⟨R5, f5, c5⟩ := r_four (x := x5) hN c4.1 (by omega) (by omega)
    have cX := APP_trans p3 (by decide) c1 (APP_trans (by omega) (by decide) c2 (APP_trans (by omega) (by decide) c3 (APP_trans (by omega) (by decide) c4 c5)))
    have FX2 := cX.2.2.2
    have FF : FX (fun f _ => f = 500 ∨ f = 501 ∨ f = 1003 ∨ f = 1004) S R5 := FX_trans (FX_sub FX1 (fun f _ q => by omega)) (FX_sub FX2 (fun f _ q => by omega))
    refine ⟨jj (n + 20), S5, R5, ?_, ?_, ?_⟩
    · unfold f_X9_feed f_X5_hasRoomFor
      rw [p1]
      simp (disch := omega) only [jj_of, jj_add, jj_sub, jj_mul, jj_neg, jj_le, jj_lt, jj_eq, jj_nat, chk_true (jj_inb _ _ _), chk_true (jj_nz _ _ _), lt]
      rw [if_neg (show ¬ 300 < n + 20 by omega), bnd_of rfl, if_neg (show ¬ jj 1 = jj 0 by decide), bnd_of e1, bnd_of e2, bnd_of e3, bnd_of e4, bnd_of e5, a5.1, show n + 4 + 4 + 4 + 4 + 4 = n + 20 by omega]
    · unfold f_X10_feed
      rw [h4]
      simp (disch := omega) only [jj_of, jj_add, jj_sub, jj_mul, jj_neg, jj_le, jj_lt, jj_eq, jj_nat, chk_true (jj_inb _ _ _), chk_true (jj_nz _ _ _), lt]
      rw [if_pos (show n + 20 ≤ 300 by omega), bnd_of f1, bnd_of f2, bnd_of f3, bnd_of f4, bnd_of f5, c5.1, show n + 4 + 4 + 4 + 4 + 4 = n + 20 by omega]
    · have bx : ∀ i : Int, 0 ≤ i → i < n + 20 → ∃ v : Int, gI R5 500 0 i.toNat = jj v ∧ gI R5 1003 0 i.toNat = jj v ∧ 0 ≤ v ∧ v < 256 := by
        intro i u v
        have k0 : gI R5 500 0 i.toNat = gI S5 500 0 i.toNat := FX2.1 500 0 _ (by omega)
        by_cases w : i < n
        · refine ⟨b i, ?_, ?_, (p5 i u w).2.2⟩
          · rw [k0, aX.2.1 i u w]; exact (p5 i u w).1
          · rw [cX.2.1 i u w, FX1.1 1003 0 _ (by omega)]; exact (p5 i u w).2.1
        · have y1 := aX.2.2.1 i (by omega) (by omega)
          have y2 := cX.2.2.1 i (by omega) (by omega)
          have : ∃ z : Int, (fun i => if i < 4 then b4 x1 i else (fun i => if i < 4 then b4 x2 i else (fun i => if i < 4 then b4 x3 i else (fun i => if i < 4 then b4 x4 i else b4 x5 (i - 4)) (i - 4)) (i - 4)) (i - 4)) (i - n) = jj z ∧ 0 ≤ z ∧ z < 256 := by
            dsimp only
            repeat' split
            all_goals exact and255 _
          obtain ⟨z, z1, z2⟩ := this
          exact ⟨z, by rw [k0, y1]; exact z1, by rw [y2]; exact z1, z2⟩
      refine ⟨A, B, FX_AR FF (by omega) i1, FX_AR FF (by omega) i2, WLD_step i5 i3 FF (fun f a b => by omega) (fun f j a b c d => by omega) (SHX_FX FF (fun f a b => by omega) i3.2.1) (fun _ _ _ _ => rfl), WLD_FX1 FF (fun f a b => by omega) (fun f j a b c d => by omega) i4, NUM_mono i5 (by unfold MT; omega) (by unfold MT; omega), NUM_mono i6 (by unfold MT; omega) (by unfold MT; omega), WRT_mono (WRT_FX FF (fun j => by omega) i7) (by unfold WT; omega), (FF.1 1023 0 0 (by omega)).trans i8, ⟨n + 20, fun i => (gI R5 500 0 i.toNat).toInt, ?_, ?_, by omega, q, fun i u v => ?_⟩, FLT_FX FF (by omega) (by omega) (by omega) (by omega) (by omega) i10, TXS_FX FF (fun j => by omega) (by omega) (by omega) rfl i11⟩
      · rw [FX2.1 501 0 0 (by omega), a5.1, show n + 4 + 4 + 4 + 4 + 4 = n + 20 by omega]
      · rw [c5.1, show n + 4 + 4 + 4 + 4 + 4 = n + 20 by omega]
      · obtain ⟨z, z1, z2, z3⟩ := bx i u v
        dsimp only
        rw [z1, z2, jj_toInt (by omega) (by omega)]
        exact ⟨rfl, rfl, z3⟩
  · refine ⟨jj (-1), S, S, ?_, ?_, INV_same hI t0 t1⟩
    · unfold f_X9_feed f_X5_hasRoomFor
      rw [p1]
      simp (disch := omega) only [jj_of, jj_add, jj_sub, jj_mul, jj_neg, jj_le, jj_lt, jj_eq, jj_nat, chk_true (jj_inb _ _ _), chk_true (jj_nz _ _ _), lt]
      rw [if_pos (show 300 < n + 20 by omega), bnd_of rfl, if_pos rfl]
    · unfold f_X10_feed
      rw [p2]
      simp (disch := omega) only [jj_of, jj_add, jj_sub, jj_mul, jj_neg, jj_le, jj_lt, jj_eq, jj_nat, chk_true (jj_inb _ _ _), chk_true (jj_nz _ _ _), lt]
      rw [if_neg q]
