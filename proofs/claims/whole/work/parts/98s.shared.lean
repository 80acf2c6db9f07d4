/-! CALL: shared. -/
theorem okp_next {c : Int → Int} {V : Int} (hB : CB c) {p : Nat} {i : Int} (i0 : 0 ≤ i) : ∀ (n : Nat) (j : Int), j - i ≤ n → i < j → j ≤ 12 → pre c j.toNat - pre c i.toNat ≤ V → OKP c V p j → ∃ j, i < j ∧ j ≤ 12 ∧ pre c j.toNat - pre c i.toNat ≤ V ∧ OKP c V p j ∧ ∀ j', i < j' → j' < j → ¬ OKP c V p j' := by
  intro n
  induction n with
  | zero => intro j a b; omega
  | succ n ih =>
    intro j a b d e f
    by_cases w : ∃ j', i < j' ∧ j' < j ∧ OKP c V p j'
    · obtain ⟨j', x, y, z⟩ := w
      exact ih j' (by omega) x (by omega) (by have := pre_mn hB (show 0 ≤ j' by omega) (show j' ≤ j by omega) d; omega) z
    · exact ⟨j, b, d, e, f, fun j' x y z => w ⟨j', x, y, z⟩⟩
theorem x_nextPart {S S1 : St} {N : Nat} {c : Int → Int} {P p i j W : Int} (hC : CC S 0 c) (hB : CB c) (hP : PB c) (hN : 20 < N) (h : PT c S S1 P 0) (p0 : 1 ≤ p) (p1 : p < P) (p6 : P ≤ 7) (i0 : 0 ≤ i) (ij : i < j) (w0 : 0 ≤ W) (w1 : W ≤ 100000000) (hs : pre c j.toNat - pre c i.toNat ≤ W) (hj : OKP c W p.toNat j) (hl : ∀ j', i < j' → j' < j → ¬ OKP c W p.toNat j') : f_X3_nextPart N 0 S1 (jj i) (jj p) (jj W) = some (jj j) := by
  have jp := ((okp_lep (V := W) hB p.toNat j (by omega)).1 hj).2
  have H : wp (f_X3_nextPart N 0 S1 (jj i) (jj p) (jj W)) (fun r => r = jj j) := by
    unfold f_X3_nextPart
    simp only [lt]
    rw [show jj i + (1 : Int32) = jj (i + 1) from jj_add i 1]
    have H := wp_up (F := fun n (_ : Unit) q => f_X3_nextPart_b8 N 0 n (jj i) (jj p) (jj W) (jj (pre c (q - 1).toNat - pre c i.toNat)) (jj q) S1) (P := fun q _ => i < q) (Q := fun r => r = jj j) (E := j) (by
      intro n a q0
      have x1 := (h.1.1 400 0 (j - 1).toNat (by decide)).trans (hC (j - 1) (by omega) (by omega))
      obtain ⟨w, e, w2, w3, hv⟩ := h.2 p j p0 (by omega) (by omega) (by omega)
      have h3 := pre_up (f := c) (k := j - 1) (by omega)
      rw [show j - 1 + 1 = j by omega] at h3
      have g1 := hP j (by omega) (by omega)
      have g2 := hP i (by omega) (by omega)
      simp only [f_X3_nextPart_b8, lt]
      rw [jj_add, if_neg (show ¬ (12 : Int32) < jj (j + p) by rw [show (12 : Int32) = jj 12 from rfl, jj_lt (by omega) (by omega) (by omega) (by omega)]; omega), show jj j - (1 : Int32) = jj (j - 1) from jj_sub j 1, chk_true (jj_inb (by omega) (by omega) (by omega)), jj_nat (a := j - 1) (by omega) (by omega), x1, jj_add, show pre c (j - 1).toNat - pre c i.toNat + c (j - 1) = pre c j.toNat - pre c i.toNat by omega, if_neg (show ¬ jj W < jj (pre c j.toNat - pre c i.toNat) by rw [jj_lt (by omega) (by omega) (by omega) (by omega)]; omega), show jj p * (13 : Int32) = jj (p * 13) from jj_mul p 13, jj_add, chk_true (jj_inb (by omega) (by omega) (by omega)), jj_nat (a := p * 13 + j) (by omega) (by omega), e, if_neg (show ¬ jj W < jj w by rw [jj_lt (by omega) (by omega) (by omega) (by omega)]; have := (hv W w0 w1).2 hj; omega)]
      exact wp_some rfl) (by
      intro n a q hq q0 ih
      have x1 := (h.1.1 400 0 (q - 1).toNat (by decide)).trans (hC (q - 1) (by omega) (by omega))
      obtain ⟨w, e, w2, w3, hv⟩ := h.2 p q p0 (by omega) (by omega) (by omega)
      have h3 := pre_up (f := c) (k := q - 1) (by omega)
      rw [show q - 1 + 1 = q by omega] at h3
      have g1 := hP q (by omega) (by omega)
      have g2 := hP i (by omega) (by omega)
      have g3 := pre_mn hB (show 0 ≤ q by omega) (show q ≤ j by omega) (by omega)
      have ww : W < w := by
        by_cases z : W < w
        · exact z
        · exact absurd ((hv W w0 w1).1 (by omega)) (hl q q0 hq)
      simp only [f_X3_nextPart_b8, lt]
      rw [jj_add, if_neg (show ¬ (12 : Int32) < jj (q + p) by rw [show (12 : Int32) = jj 12 from rfl, jj_lt (by omega) (by omega) (by omega) (by omega)]; omega), show jj q - (1 : Int32) = jj (q - 1) from jj_sub q 1, chk_true (jj_inb (by omega) (by omega) (by omega)), jj_nat (a := q - 1) (by omega) (by omega), x1, jj_add, show pre c (q - 1).toNat - pre c i.toNat + c (q - 1) = pre c (q + 1 - 1).toNat - pre c i.toNat from by rw [show q + 1 - 1 = q by omega]; omega, if_neg (show ¬ jj W < jj (pre c (q + 1 - 1).toNat - pre c i.toNat) by rw [show q + 1 - 1 = q by omega, jj_lt (by omega) (by omega) (by omega) (by omega)]; omega), show jj p * (13 : Int32) = jj (p * 13) from jj_mul p 13, jj_add, chk_true (jj_inb (by omega) (by omega) (by omega)), jj_nat (a := p * 13 + q) (by omega) (by omega), e, if_pos (show jj W < jj w by rw [jj_lt (by omega) (by omega) (by omega) (by omega)]; exact ww), show jj q + (1 : Int32) = jj (q + 1) from jj_add q 1]
      exact ih () (by omega)) (j - (i + 1)).toNat N (i + 1) () (by omega) (by omega) (by omega)
    have H : wp (f_X3_nextPart_b8 N 0 N (jj i) (jj p) (jj W) (jj (pre c (i + 1 - 1).toNat - pre c i.toNat)) (jj (i + 1)) S1) (fun r => r = jj j) := H
    rw [show i + 1 - 1 = i by omega, Int.sub_self] at H
    exact H
  obtain ⟨r, e, rfl⟩ := H
  exact e
theorem k_shared {S : St} {N : Nat} {T : Int} (hN : 200000000 < N) (t0 : 0 ≤ T) (t1 : T < 512) (hI : INV T S) (x y : Int32) : TWO (fun S => f_X9_shared N S x y) (fun S => bnd (f_X10_shared N S x y) fun q => some (q, S)) T S := by
  obtain ⟨c, h1, h2, hB, hP⟩ := shp t0 t1 hI
  obtain ⟨x, rfl, x1, x2⟩ := jj_ex x
  obtain ⟨y, rfl, y1, y2⟩ := jj_ex y
  show ∃ v S1 S2, f_X9_shared N S (jj x) (jj y) = some (v, S1) ∧ (bnd (f_X10_shared N S1 (jj x) (jj y)) fun q => some (q, S1)) = some (v, S2) ∧ INV (T + 1) S2
  have l1 : (jj x < 1) = (x < 1) := jj_lt (b := 1) x1 x2 (by decide) (by decide)
  have l2 : (6 < jj x) = (6 < x) := jj_lt (a := 6) (by decide) (by decide) x1 x2
  have l3 : (jj y < -1) = (y < -1) := by
    rw [show (-1 : Int32) = jj (-1) from rfl]
    exact jj_lt y1 y2 (by decide) (by decide)
  have l4 : (jj y < jj x) = (y < x) := jj_lt y1 y2 x1 x2
  unfold f_X9_shared f_X10_shared
  simp only [l1, l2, l3, l4]
  have ee : ∀ S : St, f_X10_isIn S (jj x) 1 6 = some (if 1 ≤ x ∧ x ≤ 6 then jj 1 else jj 0) := fun S => q_isIn2 (a := 1) (b := 6) x1 x2 (by decide) (by decide) (by decide) (by decide)
  by_cases q : (1 ≤ x ∧ x ≤ 6) ∧ (-1 ≤ y ∧ y < x)
  · obtain ⟨q1, q2⟩ := q
    have ef : ∀ S : St, f_X10_isIn S (jj y) (-1) (jj x - 1) = some (jj 1) := fun S => by
      rw [show (-1 : Int32) = jj (-1) from rfl, show jj x - (1 : Int32) = jj (x - 1) from jj_sub x 1, q_isIn2 y1 y2 (by decide) (by decide) (by omega) (by omega), if_pos (by omega)]
    rw [if_neg (show ¬ x < 1 by omega), if_neg (show ¬ 6 < x by omega), if_neg (show ¬ y < -1 by omega), if_pos (show y < x by omega)]
    obtain ⟨S1, e1, hT⟩ := x_fillParts h1 hB hP (show 20 < N by omega) q1.1 q1.2
    obtain ⟨W, eW, w0, w1, hW⟩ := hT.2 x 0 q1.1 (by omega) (by decide) (by omega)
    have hO := (hW W w0 w1).1 (Int.le_refl _)
    have c2 : CA S1 c := fun i a b => (hT.1.1 1000 0 _ (by decide)).trans (h2 i a b)
    obtain ⟨v, ev, mv⟩ := q_mostOf c2 hB (show 20 < N by omega) (a := 0) (m := 12) (by decide) (by decide) (by decide)
    have v00 : 0 ≤ v := mv.1
    have vW : v ≤ W := by
      rcases mv.2.2 with e | ⟨i, a, b, e⟩
      · omega
      · have := lep_cell hB x.toNat 0 (by decide) ((okp_lep (V := W) hB x.toNat 0 (by decide)).1 hO).1 i a (by omega)
        omega
    have EV : ∃ r, (if jj y = (-1 : Int32) then some (jj W, S1) else f_X3_parts_b31 N 0 N (jj x) (jj y) (jj W) 0 0 S1) = some (r, S1) ∧ (if jj y = (-1 : Int32) then some (jj W) else f_X10_shared_b61 N N (jj x) (jj y) (jj W) 0 0 S1) = some r := by
      by_cases w : y = -1
      · rw [if_pos (show jj y = -1 by rw [w]; rfl), if_pos (show jj y = -1 by rw [w]; rfl)]
        exact ⟨_, rfl, rfl⟩
      · have w2 : ¬ jj y = (-1 : Int32) := by
          rw [show (-1 : Int32) = jj (-1) from rfl, jj_eq y1 y2 (by decide) (by decide)]
          exact w
        rw [if_neg w2, if_neg w2]
        have := two_rule2 (F := fun n (i : Int) t => f_X3_parts_b31 N 0 n (jj x) (jj y) (jj W) (jj i) (jj t) S1) (G := fun n (i : Int) t => f_X10_shared_b61 N n (jj x) (jj y) (jj W) (jj i) (jj t) S1) (P := fun t i => 0 ≤ t ∧ 0 ≤ i ∧ OKP c W (x - t).toNat i) (Q := fun r r' => r = (r', S1)) (E := y) (by
          intro n n' i ⟨t2, i0, hi⟩
          simp only [f_X3_parts_b31, f_X10_shared_b61]
          rw [if_pos (Int32.le_refl _), if_pos (Int32.le_refl _)]
          exact ⟨_, _, rfl, rfl, rfl⟩) (by
          intro n n' i t ht ⟨t2, i0, hi⟩ ih
          have hle : ¬ jj y ≤ jj t := by
            rw [jj_le y1 y2 (by omega) (by omega)]
            omega
          have hi' : OKP c W ((x - t - 1).toNat + 1) i := by
            rw [show (x - t - 1).toNat + 1 = (x - t).toNat by omega]
            exact hi
          obtain ⟨j0, a, b, d, e⟩ := hi'
          obtain ⟨j, a, b, d, e, hl⟩ := okp_next hB i0 (j0 - i).toNat j0 (by omega) a b d e
          have en := x_nextPart h1 hB hP (show 20 < N by omega) hT (p := x - t - 1) (by omega) (by omega) (by omega) i0 a w0 w1 d e hl
          simp only [f_X3_parts_b31, f_X10_shared_b61]
          rw [if_neg hle, if_neg hle, jj_sub, show jj (x - t) - (1 : Int32) = jj (x - t - 1) from jj_sub _ 1, bnd_of en]
          simp only [lt]
          rw [show jj t + (1 : Int32) = jj (t + 1) from jj_add t 1, show jj i + (1 : Int32) = jj (i + 1) from jj_add i 1]
          obtain ⟨r, r', f1, f2, f3⟩ := ih j ⟨by omega, by omega, by rw [show x - (t + 1) = x - t - 1 by omega]; exact e⟩
          refine ⟨r, r', f1, ?_, f3⟩
          have H := wp_up (F := fun n2 (_ : Unit) q => f_X10_shared_b70 (f_X10_shared_b61 N n') N n2 (jj x) (jj y) (jj W) (jj q) (jj t) S1) (P := fun q _ => i < q) (Q := fun z => z = r') (E := j) (by
            intro n2 u q0
            obtain ⟨r2, g1, g2, g3⟩ := r_isShared (S := S1) (N := N) (V := W) (p := x - t - 1) (i := j) c2 hB hP (by omega) w0 w1 (by omega) (by omega) (by omega) b
            simp only [f_X10_shared_b70, lt]
            rw [show jj x - (1 : Int32) - jj t = jj (x - t - 1) from by rw [show (1 : Int32) = jj 1 from rfl, jj_sub, jj_sub, show x - 1 - t = x - t - 1 by omega], bnd_of g1, g3.2 e, if_neg (show ¬ jj 1 = 0 by decide), show jj t + (1 : Int32) = jj (t + 1) from jj_add t 1]
            exact wp_eq f2 rfl) (by
            intro n2 u q hq q0 ih2
            obtain ⟨r2, g1, g2, g3⟩ := r_isShared (S := S1) (N := N) (V := W) (p := x - t - 1) (i := q) c2 hB hP (by omega) w0 w1 (by omega) (by omega) (by omega) (by omega)
            have : r2 = 0 := by
              rcases g2 with g2 | g2
              · exact g2
              · exact absurd (g3.1 g2) (hl q q0 hq)
            simp only [f_X10_shared_b70, lt]
            rw [show jj x - (1 : Int32) - jj t = jj (x - t - 1) from by rw [show (1 : Int32) = jj 1 from rfl, jj_sub, jj_sub, show x - 1 - t = x - t - 1 by omega], bnd_of g1, this, if_pos (show jj 0 = 0 by decide), show jj q + (1 : Int32) = jj (q + 1) from jj_add q 1]
            exact ih2 () (by omega)) (j - (i + 1)).toNat N (i + 1) () (by omega) (by omega) (by omega)
          obtain ⟨z, e5, rfl⟩ := H
          exact e5) y.toNat N N 0 0 (by omega) (by omega) (by omega) ⟨by decide, by decide, by rw [Int.sub_zero]; exact hO⟩
        obtain ⟨r, r', f1, f2, f3⟩ := this
        rw [f3] at f1
        exact ⟨r', f1, f2⟩
    obtain ⟨r, EA, EB⟩ := EV
    refine ⟨r, S1, S1, ?_, ?_, SCR_of t0 t1 hI (FX_sub hT.1 (fun f j q => by omega))⟩
    · unfold f_X3_parts
      have : (bnd (f_X3_fillParts N 0 S (jj x)) fun q1 => chk (inb (jj x * 13) 91) (lt (gI q1 301 0 (jj x * 13).toNatClampNeg) fun v3 => if jj y = -1 then some (v3, q1) else f_X3_parts_b31 N 0 N (jj x) (jj y) v3 0 0 q1)) = some (r, S1) := by
        rw [bnd_of e1, show jj x * (13 : Int32) = jj (x * 13) from jj_mul x 13, chk_true (jj_inb (by omega) (by omega) (by omega)), jj_nat (a := x * 13) (by omega) (by omega)]
        simp only [lt]
        rw [Int.add_zero] at eW
        rw [eW]
        exact EA
      rw [bnd_of this]
    · have H := wp_up (F := fun n (_ : Unit) V => f_X10_shared_b32 N n (jj x) (jj y) (jj V) S1) (P := fun V _ => 0 ≤ V) (Q := fun z => z = r) (E := W) (by
        intro n u V0
        obtain ⟨r2, g1, g2, g3⟩ := r_isShared (S := S1) (N := N) (V := W) (p := x) (i := 0) c2 hB hP (by omega) w0 w1 (by omega) (by omega) (by decide) (by decide)
        simp only [f_X10_shared_b32]
        rw [show (0 : Int32) = jj 0 from rfl, bnd_of g1, g3.2 hO, if_neg (show ¬ jj 1 = jj 0 by decide)]
        exact wp_eq EB rfl) (by
        intro n u V hV V0 ih
        obtain ⟨r2, g1, g2, g3⟩ := r_isShared (S := S1) (N := N) (V := V) (p := x) (i := 0) c2 hB hP (by omega) V0 (by omega) (by omega) (by omega) (by decide) (by decide)
        have : r2 = 0 := by
          rcases g2 with g2 | g2
          · exact g2
          · have := (hW V V0 (by omega)).2 (g3.1 g2)
            omega
        simp only [f_X10_shared_b32, lt]
        rw [show (0 : Int32) = jj 0 from rfl, bnd_of g1, this, if_pos rfl, show jj V + (1 : Int32) = jj (V + 1) from jj_add V 1]
        exact ih () (by omega)) (W - v).toNat N v () (by omega) (by omega) mv.1
      obtain ⟨z, e5, rfl⟩ := H
      have : (bnd (f_X10_isIn S1 (jj x) 1 6) fun q1 => if q1 = 0 then some (-2) else bnd (f_X10_isIn S1 (jj y) (-1) (jj x - 1)) fun q2 => if q2 = 0 then some (-2) else bnd (f_X10_mostOf N S1 0 12) fun q3 => f_X10_shared_b32 N N (jj x) (jj y) q3 S1) = some z := by
        rw [bnd_of (ee S1), if_pos q1, if_neg (show ¬ jj 1 = 0 by decide), bnd_of (ef S1), if_neg (show ¬ jj 1 = 0 by decide), show (0 : Int32) = jj 0 from rfl, show (12 : Int32) = jj 12 from rfl, bnd_of ev]
        exact e5
      rw [bnd_of this]
  · have hr : (bnd (bnd (f_X10_isIn S (jj x) 1 6) fun q1 => if q1 = 0 then some (-2) else bnd (f_X10_isIn S (jj y) (-1) (jj x - 1)) fun q2 => if q2 = 0 then some (-2) else bnd (f_X10_mostOf N S 0 12) fun q3 => f_X10_shared_b32 N N (jj x) (jj y) q3 S) fun q => some (q, S)) = some ((-2 : Int32), S) := by
      rw [bnd_of (ee S)]
      by_cases w : 1 ≤ x ∧ x ≤ 6
      · rw [if_pos w, if_neg (show ¬ jj 1 = 0 by decide), show (-1 : Int32) = jj (-1) from rfl, show jj x - (1 : Int32) = jj (x - 1) from jj_sub x 1, bnd_of (q_isIn2 y1 y2 (by decide) (by decide) (by omega) (by omega)), if_neg (show ¬ (-1 ≤ y ∧ y ≤ x - 1) from fun z => q ⟨w, by omega⟩), if_pos (show jj 0 = 0 by decide)]
        rfl
      · rw [if_neg w, if_pos (show jj 0 = 0 by decide)]
        rfl
    refine ⟨-2, S, S, ?_, hr, SCR_of t0 t1 hI (FX_refl _ _)⟩
    by_cases w1 : x < 1
    · rw [if_pos w1]
    · rw [if_neg w1]
      by_cases w2 : 6 < x
      · rw [if_pos w2]
      · rw [if_neg w2]
        by_cases w3 : y < -1
        · rw [if_pos w3]
        · rw [if_neg w3, if_neg (show ¬ y < x by omega)]
