/-! A STROKE of the class: towns, the book, the whole. -/
theorem q_carry {S : St} {j N : Nat} (hN : 4000 < N) {c to : Int} : ∃ S', f_X4_carryTowns N j S (jj c) (jj to) = some S' ∧ (∀ t : Int, 0 ≤ t → t < 6 → gI S' 401 j t.toNat = if gI S 401 j t.toNat = jj c then jj to else gI S 401 j t.toNat) ∧ FX (fun f j' => f = 401 ∧ j' = j) S S' := by
  have := wp_up (F := fun n S1 k => f_X4_carryTowns_b2 N j n (jj c) (jj to) (jj k) S1) (P := fun k S1 => 0 ≤ k ∧ FX (fun f j' => f = 401 ∧ j' = j) S S1 ∧ ∀ t : Int, 0 ≤ t → t < 6 → gI S1 401 j t.toNat = if t < k ∧ gI S 401 j t.toNat = jj c then jj to else gI S 401 j t.toNat) (Q := fun S' => (∀ t : Int, 0 ≤ t → t < 6 → gI S' 401 j t.toNat = if gI S 401 j t.toNat = jj c then jj to else gI S 401 j t.toNat) ∧ FX (fun f j' => f = 401 ∧ j' = j) S S') (E := 6) ?_ ?_ 6 N 0 S (by decide) (by omega) ⟨Int.le_refl _, FX_refl _ _, fun t a b => by rw [if_neg (fun w => by omega)]⟩
  · exact this
  · intro n S1 ⟨h1, h2, h3⟩
    simp only [f_X4_carryTowns_b2]
    simp (disch := omega) only [jj_of, jj_add, jj_sub, jj_mul, jj_neg, jj_le, jj_lt, jj_eq, jj_nat, chk_true (jj_inb _ _ _), chk_true (jj_nz _ _ _), lt, if_true, if_false, reduceIte, Int.le_refl]
    refine wp_some ⟨fun t a b => ?_, h2⟩
    rw [h3 t a b]
    by_cases w : gI S 401 j t.toNat = jj c
    · rw [if_pos ⟨b, w⟩, if_pos w]
    · rw [if_neg (fun q => w q.2), if_neg w]
  · intro n S1 k hk ⟨h1, h2, h3⟩ ih
    have hk2 : ¬ 6 ≤ k := by omega
    simp only [f_X4_carryTowns_b2]
    simp (disch := omega) only [jj_of, jj_add, jj_sub, jj_mul, jj_neg, jj_le, jj_lt, jj_eq, jj_nat, chk_true (jj_inb _ _ _), chk_true (jj_nz _ _ _), lt, if_true, if_false, reduceIte, hk2]
    have e := h3 k h1 hk
    rw [if_neg (fun w => by omega)] at e
    rw [e]
    refine wp_ite (fun w => ?_) (fun w => ?_)
    · refine ih _ ⟨by omega, FX_sI h2 ⟨rfl, rfl⟩, fun t a b => ?_⟩
      rw [gI_sI]
      by_cases q : t = k
      · subst q
        rw [if_pos ⟨rfl, rfl, rfl⟩, if_pos ⟨by omega, w⟩]
      · rw [if_neg (fun w2 => q (by have := w2.2.2; omega)), h3 t a b]
        by_cases q2 : t < k
        · have q3 : t < k + 1 := by omega
          simp only [q2, q3, true_and]
        · have q3 : ¬ t < k + 1 := by omega
          simp only [q2, q3, false_and]
    · refine ih _ ⟨by omega, h2, fun t a b => ?_⟩
      rw [h3 t a b]
      by_cases q : t = k
      · subst q
        rw [if_neg (fun w2 => by omega), if_neg (fun w2 => w w2.2)]
      · by_cases q2 : t < k
        · have q3 : t < k + 1 := by omega
          simp only [q2, q3, true_and]
        · have q3 : ¬ t < k + 1 := by omega
          simp only [q2, q3, false_and]
/-- the book's counter behind one more stroke: it goes round above a full book -/
def NXW (wr : Int) : Int := if 60 ≤ wr + 1 then 30 else wr + 1
theorem NXW_b {wr : Int} (h : 0 ≤ wr) : 0 ≤ NXW wr ∧ NXW wr ≤ wr + 1 := by
  by_cases q : 60 ≤ wr + 1
  · rw [show NXW wr = 30 from if_pos q]; omega
  · rw [show NXW wr = wr + 1 from if_neg q]; omega
theorem NXW_if {X : St} {j : Nat} {wr : Int} (w0 : 0 ≤ wr) (w1 : wr ≤ 100000000) : (if (60 : Int32) ≤ jj wr + (1 : Int32) then some (sI X 403 j 0 (30 : Int32)) else some (sI X 403 j 0 (jj wr + (1 : Int32)))) = some (sI X 403 j 0 (jj (NXW wr))) := by
  rw [show (1 : Int32) = jj 1 from jj_of 1, jj_add, show (60 : Int32) = jj 60 from jj_of 60, show (30 : Int32) = jj 30 from jj_of 30]
  simp (disch := omega) only [jj_le]
  by_cases q : 60 ≤ wr + 1
  · rw [show NXW wr = 30 from if_pos q, if_pos q]
  · rw [show NXW wr = wr + 1 from if_neg q, if_neg q]
def WRX (S S' : St) (j : Nat) (wr v m : Int) : Prop := FX (fun f j' => (f = 402 ∨ f = 403) ∧ j' = j) S S' ∧ gI S' 403 j 0 = jj (NXW wr) ∧ ∀ i, gL S' 402 j i = if i = (wr % 30).toNat then ENT v m else gL S 402 j i
theorem q_write {S : St} {j : Nat} {h c rt m t wr : Int} (ht : gI S 407 j 0 = jj t) (t0 : 0 ≤ t) (t1 : t ≤ 10000) (h0 : 0 ≤ h ∧ h < 4) (h1 : 0 ≤ c) (h2 : c < 12) (hr : rt = 0 ∨ rt = 1) (m0 : 0 ≤ m) (m1 : m ≤ 100000000) (hw : gI S 403 j 0 = jj wr) (w0 : 0 ≤ wr) (w1 : wr ≤ 100000000) : ∃ S', f_X4_write j S (jj h) (jj (2 * c + rt)) (jj m) = some S' ∧ WRX S S' j wr ((t * 4 + h) * 24 + (2 * c + rt)) m := by
  unfold f_X4_write
  have hm := Int.emod_nonneg wr (show (30 : Int) ≠ 0 by decide)
  have hm2 := Int.emod_lt_of_pos wr (show (0 : Int) < 30 by decide)
  have e30 : jj wr - jj wr / (30 : Int32) * (30 : Int32) = jj (wr % 30) := by
    rw [jj_of]
    exact jj_rem w0 (by omega) (by decide) (by decide)
  rw [ht, hw, e30, jj_long (by omega) (by omega), jj_long (by omega) (by omega), jj_long (by omega) (by omega), jj_long (by omega) (by omega)]
  simp only [lt]
  rw [show (4 : Int64) = kk 4 from kk_of 4, show (32 : Int64) = kk 32 from kk_of 32, kk_mul, kk_add, kk_mul, kk_add]
  rw [chk_true (jj_inb hm (by omega) (by omega)), jj_nat (by omega) (by omega)]
  rw [gI_sL, hw, NXW_if w0 w1]
  refine ⟨_, rfl, ?_, ?_, ?_⟩
  · exact FX_sI (FX_sL (FX_refl _ _) ⟨Or.inl rfl, rfl⟩) ⟨Or.inr rfl, rfl⟩
  · rw [gI_sI, if_pos ⟨rfl, rfl, rfl⟩]
  · intro i
    rw [gL_sI, gL_sL]
    by_cases q : i = (wr % 30).toNat
    · rw [if_pos ⟨rfl, rfl, q⟩, if_pos q]
      refine (kk_cat32 (by omega) m0 (by omega)).trans ?_
      unfold ENT
      congr 2
      have d1 : ((t * 4 + h) * 24 + (2 * c + rt)) / 24 = t * 4 + h := by omega
      have d2 : ((t * 4 + h) * 24 + (2 * c + rt)) % 24 = 2 * c + rt := by omega
      rw [d1, d2]
    · rw [if_neg (fun w => q w.2.2), if_neg q]
theorem push_163 {S : St} {j N : Nat} {h c rt m t wr : Int} (ht : gI S 407 j 0 = jj t) (t0 : 0 ≤ t) (t1 : t ≤ 10000) (h0 : 0 ≤ h ∧ h < 4) (h1 : 0 ≤ c) (h2 : c < 12) (hr : rt = 0 ∨ rt = 1) (m0 : 0 ≤ m) (m1 : m ≤ 100000000) (hw : gI S 403 j 0 = jj wr) (w0 : 0 ≤ wr) (w1 : wr ≤ 100000000) : ∃ S', f_X2_push_b163 N j (jj h) (jj c) (jj rt) (jj m) S = some (jj m, S') ∧ WRX S S' j wr ((t * 4 + h) * 24 + (2 * c + rt)) m := by
  obtain ⟨S', e, hW⟩ := q_write ht t0 t1 h0 h1 h2 hr m0 m1 hw w0 w1
  refine ⟨S', ?_, hW⟩
  unfold f_X2_push_b163 f_X2_push_b178
  rcases hr with rfl | rfl
  · simp (disch := omega) only [jj_of, jj_add, jj_sub, jj_mul, jj_neg, jj_le, jj_lt, jj_eq, jj_nat, chk_true (jj_inb _ _ _), chk_true (jj_nz _ _ _), lt, if_true, if_false, reduceIte]
    rw [bnd_of e]
  · have q0 : ¬ (1 : Int) = 0 := by decide
    simp (disch := omega) only [jj_of, jj_add, jj_sub, jj_mul, jj_neg, jj_le, jj_lt, jj_eq, jj_nat, chk_true (jj_inb _ _ _), chk_true (jj_nz _ _ _), lt, if_true, if_false, reduceIte, q0]
    rw [bnd_of e]
/-- what a stroke leaves: its own sheet and the rules' own numbers aside nothing changes -/
def PSH (S S' : St) (j : Nat) (em et : Sem) (sg r : Int → Int) (h c rt wr : Int) : Prop :=
  LAY S' j (STR em et sg r h c rt) ∧ FX (PUP j) S S' ∧ gI S' 403 j 0 = jj (NXW wr) ∧ gI S' 406 j 0 = gI S 406 j 0 ∧ gI S' 408 j 0 = gI S 408 j 0 ∧
  (∀ t : Int, 0 ≤ t → t < 6 → gI S' 401 j t.toNat = if r (11 + c) < 2 * mvv em r sg h c rt ∧ gI S 401 j t.toNat = jj c then jj (bsd c rt) else gI S 401 j t.toNat) ∧
  ∀ i, gL S' 402 j i = if i = (wr % 30).toNat then ENT ((r 6 * 4 + h) * 24 + (2 * c + rt)) (mvv em r sg h c rt) else gL S 402 j i
/-- from the towns on -/
theorem push_136 {S : St} {j N : Nat} {em et : Sem} {r2 : Int → Int} {h c rt m wr : Int} (hN : 4000 < N) (hj : j < 66) (h0 : 0 ≤ h ∧ h < 4) (h1 : 0 ≤ c) (h2 : c < 12) (hr : rt = 0 ∨ rt = 1) (m0 : 0 ≤ m) (m1 : m ≤ 100000000) (hR : RB r2) (hL : LAY S j r2) (hC : CLW S em et) (hw : gI S 403 j 0 = jj wr) (w0 : 0 ≤ wr) (w1 : wr ≤ 100000000) : ∃ S', f_X2_push_b136 N j (jj h) (jj c) (jj rt) (jj m) S = some (jj m, S') ∧ LAY S' j (if r2 (23 + c) = 0 ∧ r2 (11 + c) < trr et r2 c then UP r2 (23 + c) 1 else r2) ∧ FX (PUP j) S S' ∧ gI S' 403 j 0 = jj (NXW wr) ∧ gI S' 406 j 0 = gI S 406 j 0 ∧ gI S' 408 j 0 = gI S 408 j 0 ∧ (∀ i, gI S' 401 j i = gI S 401 j i) ∧ ∀ i, gL S' 402 j i = if i = (wr % 30).toNat then ENT ((r2 6 * 4 + h) * 24 + (2 * c + rt)) m else gL S 402 j i := by
  obtain ⟨S4, e4, F4⟩ := q_tearing (em := em) hN hj h1 h2 hR hL hC
  have i1 := hL.1 c h1 h2
  have q1 := hR.1 c h1 h2
  have q6 := hR.2.2.2.2
  have qt := @trr_b et r2 c
  have L4 := FX_LAY F4 (fun f a b => by omega) hL
  have w4 : gI S4 403 j 0 = jj wr := (F4.1 403 j 0 (by omega)).trans hw
  unfold f_X2_push_b136
  rw [chk_true (jj_inb h1 (by omega) (by omega)), bnd_of e4, jj_nat (by omega) (by omega), i1]
  simp (disch := omega) only [jj_le]
  have fin : ∀ (S5 : St) (r3 : Int → Int), FX (fun f j' => (200 ≤ f ∧ f ≤ 205) ∨ (f = 404 ∧ j' = j)) S S5 → LAY S5 j r3 → r3 6 = r2 6 → ∃ S', f_X2_push_b163 N j (jj h) (jj c) (jj rt) (jj m) S5 = some (jj m, S') ∧ LAY S' j r3 ∧ FX (PUP j) S S' ∧ gI S' 403 j 0 = jj (NXW wr) ∧ gI S' 406 j 0 = gI S 406 j 0 ∧ gI S' 408 j 0 = gI S 408 j 0 ∧ (∀ i, gI S' 401 j i = gI S 401 j i) ∧ ∀ i, gL S' 402 j i = if i = (wr % 30).toNat then ENT ((r2 6 * 4 + h) * 24 + (2 * c + rt)) m else gL S 402 j i := by
    intro S5 r3 F5 L5 e6
    have w5 : gI S5 403 j 0 = jj wr := (F5.1 403 j 0 (by omega)).trans hw
    obtain ⟨S', e, hW, hW2, hW3⟩ := push_163 (N := N) (S := S5) (t := r2 6) (by rw [← e6]; exact L5.2.2.2) q6.1 q6.2 h0 h1 h2 hr m0 m1 w5 w0 w1
    have g : ∀ f i, f ≠ 402 → f ≠ 403 → f ≠ 404 → (f < 200 ∨ 205 < f) → gI S' f j i = gI S f j i := fun f i a b d k => (hW.1 f j i (by omega)).trans (F5.1 f j i (by omega))
    refine ⟨S', e, ?_, FX_trans (FX_sub F5 (fun f j' q => by unfold PUP; omega)) (FX_sub hW (fun f j' q => by unfold PUP; omega)), hW2, g _ _ (by decide) (by decide) (by decide) (by decide), g _ _ (by decide) (by decide) (by decide) (by decide), fun i => g _ _ (by decide) (by decide) (by decide) (by decide), fun i => ?_⟩
    · obtain ⟨a1, a2, a3, a4⟩ := L5
      exact ⟨fun c q q2 => (hW.1 400 j _ (by omega)).trans (a1 c q q2), by rw [hW.1 404 j 0 (by omega)]; exact a2, (hW.1 405 j _ (by omega)).trans a3, (hW.1 407 j _ (by omega)).trans a4⟩
    · rw [hW3 i, F5.2.1 402 j i (by omega)]
  by_cases q : trr et r2 c ≤ r2 (11 + c)
  · rw [if_pos q, if_neg (fun w => by omega)]
    exact fin S4 r2 (FX_sub F4 (fun f j' q => by omega)) L4 rfl
  · rw [if_neg q]
    simp only [lt]
    obtain ⟨a1, a2, a3, a4⟩ := L4
    refine fin _ _ (FX_sI (FX_sub F4 (fun f j' q => by omega)) (by omega)) ⟨fun i a b => ?_, ?_, ?_, ?_⟩ ?_
    · rw [gI_sI, if_neg (by omega), a1 i a b]
      congr 1
      by_cases w : r2 (23 + c) = 0
      · rw [if_pos ⟨w, by omega⟩, UP_ne (by omega)]
      · rw [if_neg (fun w2 => w w2.1)]
    · rw [gI_sI, if_pos ⟨rfl, rfl, rfl⟩]
      refine tb_ext (tb_set a2 h1 h2) (fun d a b => ?_)
      have := tb_01 a2 h1 h2
      by_cases w : r2 (23 + c) = 0
      · rw [if_pos ⟨w, by omega⟩, UP_at, UP_at]
        by_cases w2 : d = c
        · rw [if_pos w2, if_pos (by omega)]
        · rw [if_neg w2, if_neg (by omega)]
      · rw [if_neg (fun w2 => w w2.1), UP_at]
        by_cases w2 : d = c
        · rw [if_pos w2, w2]
          rcases this with t | t
          · exact absurd t w
          · exact t.symm
        · rw [if_neg w2]
    · rw [gI_sI, if_neg (by omega), a3]
      congr 1
      by_cases w : r2 (23 + c) = 0
      · rw [if_pos ⟨w, by omega⟩, UP_ne (by omega)]
      · rw [if_neg (fun w2 => w w2.1)]
    · rw [gI_sI, if_neg (by omega), a4]
      congr 1
      by_cases w : r2 (23 + c) = 0
      · rw [if_pos ⟨w, by omega⟩, UP_ne (by omega)]
      · rw [if_neg (fun w2 => w w2.1)]
    · by_cases w : r2 (23 + c) = 0
      · rw [if_pos ⟨w, by omega⟩, UP_ne (by omega)]
      · rw [if_neg (fun w2 => w w2.1)]
theorem push_to {S : St} {j N : Nat} {x2 x4 x5 x6 : Int32} {c rt : Int} (h1 : 0 ≤ c) (h2 : c < 12) (hr : rt = 0 ∨ rt = 1) : ∃ y s0, (if jj rt = (0 : Int32) then f_X2_push_b47 N j x2 (jj c) x4 x5 x6 (jj c - (1 : Int32)) S else f_X2_push_b47 N j x2 (jj c) x4 x5 x6 (jj c + (1 : Int32)) S) = f_X2_push_b66 N j x2 (jj c) x4 x5 x6 y s0 S ∧ ((bsd c rt = -1 ∧ s0 = 1) ∨ (bsd c rt ≠ -1 ∧ s0 = 0 ∧ y = jj (bsd c rt))) := by
  unfold bsd
  rcases hr with rfl | rfl
  · simp (disch := omega) only [jj_of, jj_add, jj_sub, jj_mul, jj_neg, jj_le, jj_lt, jj_eq, jj_nat, chk_true (jj_inb _ _ _), chk_true (jj_nz _ _ _), lt, if_true, if_false, reduceIte, f_X2_push_b47, f_X2_push_b61]
    by_cases q : c - 1 < 0
    · refine ⟨jj (c - 1), 1, ?_, Or.inl ⟨by omega, rfl⟩⟩
      rw [if_pos q]
      rfl
    · have q2 : c - 1 < 12 := by omega
      refine ⟨jj (c - 1), 0, ?_, Or.inr ⟨by omega, rfl, rfl⟩⟩
      rw [if_neg q, if_pos q2]
      rfl
  · have q0 : ¬ (1 : Int) = 0 := by decide
    have q : ¬ c + 1 < 0 := by omega
    simp (disch := omega) only [jj_of, jj_add, jj_sub, jj_mul, jj_neg, jj_le, jj_lt, jj_eq, jj_nat, chk_true (jj_inb _ _ _), chk_true (jj_nz _ _ _), lt, if_true, if_false, reduceIte, f_X2_push_b47, f_X2_push_b61, q0, q]
    by_cases q2 : c + 1 < 12
    · refine ⟨jj (c + 1), 0, ?_, Or.inr ⟨by rw [if_pos q2]; omega, rfl, by rw [if_pos q2]⟩⟩
      rw [if_pos q2]
      rfl
    · refine ⟨jj (c + 1), 1, ?_, Or.inl ⟨by rw [if_neg q2], rfl⟩⟩
      rw [if_neg q2]
      rfl
theorem STR_of {em et : Sem} {sg r : Int → Int} {h c rt : Int} (h1 : 0 ≤ c) (h2 : c < 12) (hr : rt = 0 ∨ rt = 1) : STR em et sg r h c rt = (if ST2 em sg r h c rt (23 + c) = 0 ∧ ST2 em sg r h c rt (11 + c) < trr et (ST2 em sg r h c rt) c then UP (ST2 em sg r h c rt) (23 + c) 1 else ST2 em sg r h c rt) := by
  have hd := dst_b h1 h2 hr
  unfold STR
  have x1 : ST2 em sg r h c rt (23 + c) = r (23 + c) := by rw [ST2_at (23 + c) (by omega), if_neg (by omega), if_neg (by omega)]
  have x2 : ST2 em sg r h c rt (11 + c) = r (11 + c) - mvv em r sg h c rt := by rw [ST2_at (11 + c) (by omega), if_neg (by omega), if_pos rfl]
  rw [x1, x2]
theorem q_push {S : St} {j N : Nat} {em et : Sem} {sg r : Int → Int} {h c rt wr : Int} (hN : 4000 < N) (hj : j < 66) (hs : 0 ≤ sg h ∧ sg h ≤ 9) (h0 : 0 ≤ h ∧ h < 4) (h1 : 0 ≤ c) (h2 : c < 12) (hr : rt = 0 ∨ rt = 1) (hR : RB r) (hM : pre (fun i => r (11 + i)) 12 + r 9 ≤ 100000000) (hL : LAY S j r) (hG : gI S 804 0 h.toNat = jj (sg h)) (hC : CLW S em et) (hw : gI S 403 j 0 = jj wr) (w0 : 0 ≤ wr) (w1 : wr ≤ 100000000) : ∃ S', f_X2_push N j S (jj h) (jj c) (jj rt) = some (jj (mvv em r sg h c rt), S') ∧ PSH S S' j em et sg r h c rt wr := by
  obtain ⟨⟨lw, hlw, hE⟩, hC2⟩ := id hC
  obtain ⟨S1, e1, F1⟩ := q_amount (h := h) (rt := rt) hN hj hs h0 h1 h2 hr hR hL hG hE
  have hm := mvv_b (em := em) (sg := sg) (h := h) (rt := rt) hR h1 h2
  have q1 := hR.1 c h1 h2
  have hb := bsd_b h1 h2 hr
  have hd := dst_b h1 h2 hr
  have C1 := FX_CLW F1 (by omega) (by omega) (by omega) hC
  have L1 := FX_LAY F1 (fun f a b => by omega) hL
  have w1' : gI S1 403 j 0 = jj wr := (F1.1 403 j 0 (by omega)).trans hw
  have R2 := ST2_RB (em := em) (sg := sg) (h := h) hR hM h1 h2 hr
  have g1 : ∀ f i, 400 ≤ f → f ≤ 408 → gI S1 f j i = gI S f j i := fun f i a b => F1.1 f j i (by omega)
  unfold f_X2_push
  rw [chk_true (jj_inb h1 (by omega) (by omega)), jj_nat (by omega) (by omega), hL.1 c h1 h2]
  simp only [lt]
  rw [bnd_of hlw, bnd_of e1]
  obtain ⟨y, s0, ey, hy⟩ := push_to (S := S1) (j := j) (N := N) (x2 := jj h) (x4 := jj rt) (x5 := jj (r (11 + c))) (x6 := jj (mvv em r sg h c rt)) h1 h2 hr
  simp only
  rw [ey]
  clear ey
  generalize hmm : mvv em r sg h c rt = m at *
  -- the state behind the moving of dough
  have step2 : ∃ S2, f_X2_push_b66 N j (jj h) (jj c) (jj rt) (jj (r (11 + c))) (jj m) y s0 S1 = f_X2_push_b110 N j (jj h) (jj c) (jj rt) (jj (r (11 + c))) (jj m) y s0 S2 ∧ LAY S2 j (ST2 em sg r h c rt) ∧ FX (fun f j' => (f = 400 ∨ f = 405) ∧ j' = j) S1 S2 := by
    obtain ⟨a1, a2, a3, a4⟩ := L1
    unfold f_X2_push_b66
    rw [chk_true (jj_inb h1 (by omega) (by omega)), jj_nat (by omega) (by omega)]
    simp only [lt, jj_sub]
    have at2 := @ST2_at em sg r h c rt
    rw [hmm] at at2
    rcases hy with ⟨b1, rfl⟩ | ⟨b1, rfl, rfl⟩
    · have ed : dst c rt = 9 := if_pos b1
      refine ⟨_, if_neg (by decide), ⟨fun i a b => ?_, ?_, ?_, ?_⟩, FX_sI (FX_sI (FX_refl _ _) (by omega)) (by omega)⟩
      · by_cases w : i = c
        · have x : ST2 em sg r h c rt (11 + i) = r (11 + c) - m := by rw [at2 _ (by omega), ed, if_neg (by omega), if_pos (by omega)]
          rw [x, gI_sI, if_neg (by omega), gI_sI, if_pos ⟨rfl, rfl, by rw [w]⟩]
        · have x : ST2 em sg r h c rt (11 + i) = r (11 + i) := by rw [at2 _ (by omega), ed, if_neg (by omega), if_neg (by omega)]
          rw [x, gI_sI, if_neg (by omega), gI_sI, if_neg (fun w2 => w (by have := w2.2.2; omega)), a1 i a b]
      · rw [gI_sI, if_neg (by omega), gI_sI, if_neg (by omega)]
        exact tb_ext a2 (fun d a b => by rw [at2 _ (by omega), if_neg (by omega), if_neg (by omega)])
      · have x : ST2 em sg r h c rt 9 = r 9 + m := by rw [at2 _ (by omega), ed, if_pos rfl]
        rw [x, gI_sI, if_pos ⟨rfl, rfl, rfl⟩, gI_sI, if_neg (by omega), a3, jj_add]
      · have x : ST2 em sg r h c rt 6 = r 6 := by rw [at2 _ (by omega), if_neg (by omega), if_neg (by omega)]
        rw [x, gI_sI, if_neg (by omega), gI_sI, if_neg (by omega), a4]
    · have ed : dst c rt = 11 + bsd c rt := if_neg b1
      rw [if_pos rfl, chk_true (jj_inb (by omega) (by omega) (by omega)), chk_true (jj_inb (by omega) (by omega) (by omega)), jj_nat (by omega) (by omega)]
      refine ⟨_, rfl, ⟨fun i a b => ?_, ?_, ?_, ?_⟩, FX_sI (FX_sI (FX_refl _ _) (by omega)) (by omega)⟩
      · by_cases w : i = bsd c rt
        · have x : ST2 em sg r h c rt (11 + i) = r (11 + bsd c rt) + m := by rw [at2 _ (by omega), ed, if_pos (by omega)]
          rw [x, gI_sI, if_pos ⟨rfl, rfl, by rw [w]⟩, gI_sI, if_neg (fun w2 => hb.2.2 (by have := w2.2.2; omega)), a1 _ (by omega) (by omega), jj_add]
        · by_cases w3 : i = c
          · have x : ST2 em sg r h c rt (11 + i) = r (11 + c) - m := by rw [at2 _ (by omega), ed, if_neg (by omega), if_pos (by omega)]
            rw [x, gI_sI, if_neg (fun w2 => w (by have := w2.2.2; omega)), gI_sI, if_pos ⟨rfl, rfl, by rw [w3]⟩]
          · have x : ST2 em sg r h c rt (11 + i) = r (11 + i) := by rw [at2 _ (by omega), ed, if_neg (by omega), if_neg (by omega)]
            rw [x, gI_sI, if_neg (fun w2 => w (by have := w2.2.2; omega)), gI_sI, if_neg (fun w2 => w3 (by have := w2.2.2; omega)), a1 i a b]
      · rw [gI_sI, if_neg (by omega), gI_sI, if_neg (by omega)]
        exact tb_ext a2 (fun d a b => by rw [at2 _ (by omega), if_neg (by omega), if_neg (by omega)])
      · have x : ST2 em sg r h c rt 9 = r 9 := by rw [at2 _ (by omega), if_neg (by omega), if_neg (by omega)]
        rw [x, gI_sI, if_neg (by omega), gI_sI, if_neg (by omega), a3]
      · have x : ST2 em sg r h c rt 6 = r 6 := by rw [at2 _ (by omega), if_neg (by omega), if_neg (by omega)]
        rw [x, gI_sI, if_neg (by omega), gI_sI, if_neg (by omega), a4]
  obtain ⟨S2, e2, L2, F2⟩ := step2
  rw [e2]
  -- the towns
  have step3 : ∃ S3, f_X2_push_b110 N j (jj h) (jj c) (jj rt) (jj (r (11 + c))) (jj m) y s0 S2 = f_X2_push_b136 N j (jj h) (jj c) (jj rt) (jj m) S3 ∧ (∀ t : Int, 0 ≤ t → t < 6 → gI S3 401 j t.toNat = if r (11 + c) < 2 * m ∧ gI S2 401 j t.toNat = jj c then jj (bsd c rt) else gI S2 401 j t.toNat) ∧ FX (fun f j' => f = 401 ∧ j' = j) S2 S3 := by
    unfold f_X2_push_b110 f_X2_push_b133
    simp (disch := omega) only [jj_sub, jj_le]
    by_cases q : m ≤ r (11 + c) - m
    · rw [if_pos q]
      exact ⟨S2, rfl, fun t a b => by rw [if_neg (fun w => by omega)], FX_refl _ _⟩
    · rw [if_neg q]
      have q' : r (11 + c) < 2 * m := by omega
      obtain ⟨S3, e3, T3, F3⟩ := q_carry (S := S2) (j := j) (c := c) (to := bsd c rt) hN
      refine ⟨S3, ?_, fun t a b => ?_, F3⟩
      · rcases hy with ⟨b1, rfl⟩ | ⟨b1, rfl, rfl⟩
        · rw [if_neg (by decide)]
          rw [b1] at e3
          exact bnd_of e3 _
        · rw [if_pos rfl]
          exact bnd_of e3 _
      · rw [T3 t a b]
        simp only [q', true_and]
  obtain ⟨S3, e3, T3, F3⟩ := step3
  rw [e3]
  have L3 : LAY S3 j (ST2 em sg r h c rt) := by
    obtain ⟨a1, a2, a3, a4⟩ := L2
    exact ⟨fun c q q2 => (F3.1 400 j _ (by omega)).trans (a1 c q q2), by rw [F3.1 404 j 0 (by omega)]; exact a2, (F3.1 405 j _ (by omega)).trans a3, (F3.1 407 j _ (by omega)).trans a4⟩
  have F13 : FX (PUP j) S S3 := FX_trans (FX_sub F1 (fun f j' q => by unfold PUP; omega)) (FX_trans (FX_sub F2 (fun f j' q => by unfold PUP; omega)) (FX_sub F3 (fun f j' q => by unfold PUP; omega)))
  have C3 := FX_CLW F3 (by omega) (by omega) (by omega) (FX_CLW F2 (by omega) (by omega) (by omega) C1)
  have w3 : gI S3 403 j 0 = jj wr := (F3.1 403 j 0 (by omega)).trans ((F2.1 403 j 0 (by omega)).trans w1')
  obtain ⟨S', e', p1, p2, p3, p4, p5, p6, p7⟩ := push_136 (r2 := ST2 em sg r h c rt) (m := m) hN hj h0 h1 h2 hr (by omega) (by omega) R2 L3 C3 w3 w0 w1
  have at6 : ST2 em sg r h c rt 6 = r 6 := by rw [ST2_at _ (by omega), if_neg (by omega), if_neg (by omega)]
  refine ⟨S', e', ?_, FX_trans F13 p2, p3, ?_, ?_, fun t a b => ?_, fun i => ?_⟩
  · rw [STR_of h1 h2 hr]; exact p1
  · rw [p4, F3.1 406 j 0 (by omega), F2.1 406 j 0 (by omega), F1.1 406 j 0 (by omega)]
  · rw [p5, F3.1 408 j 0 (by omega), F2.1 408 j 0 (by omega), F1.1 408 j 0 (by omega)]
  · rw [p6, T3 t a b, F2.1 401 j _ (by omega), F1.1 401 j _ (by omega), hmm]
  · rw [p7, at6, F3.2.1 402 j _ (by omega), F2.2.1 402 j _ (by omega), F1.2.1 402 j _ (by omega), hmm]
