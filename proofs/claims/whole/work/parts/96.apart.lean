/-! CALLS: apart, whose. -/
/-- the nearest so far (-1: none) when towns at x and y are looked at -/
def nst (x y m : Int) : Int := if x < 0 ∨ y < 0 then m else if m = -1 ∨ (if x ≤ y then y - x else x - y) < m then (if x ≤ y then y - x else x - y) else m
theorem nst_b {x y m : Int} (hx : x ≤ 11) (hy : y ≤ 11) (h : -1 ≤ m ∧ m ≤ 11) : -1 ≤ nst x y m ∧ nst x y m ≤ 11 := by
  unfold nst
  repeat' split
  all_goals omega
theorem itr_id {σ : Type} {s : Int → σ → σ} : ∀ (m : Nat) (k : Int) (a : σ), (∀ i x, k ≤ i → i < k + m → s i x = x) → itr s k m a = a := by
  intro m
  induction m with
  | zero => intro k a _; rfl
  | succ m ih =>
    intro k a h
    show itr s (k + 1) m (s k a) = a
    rw [h k a (by omega) (by omega)]
    exact ih (k + 1) a (fun i x p q => h i x (by omega) (by omega))
theorem x_apart_in {S : St} {N : Nat} {hm : Int → Int} (hN : 4000 < N) (hH : HOM S 0 hm) (hb : ∀ t : Int, 0 ≤ t → t < 6 → -2 ≤ hm t ∧ hm t ≤ 11) {a : Int} (a0 : 0 ≤ a) (a1 : a < 6) (rec : Int32 → Int32 → St → Option Int32) (m : Int) (hm0 : -1 ≤ m ∧ m ≤ 11) : f_X4_nearestTowns_b14 rec N 0 N (jj m) (jj a) (jj (a + 1)) S = rec (jj (itr (fun b m => nst (hm a) (hm b) m) (a + 1) (5 - a).toNat m)) (jj (a + 1)) S ∧ -1 ≤ itr (fun b m => nst (hm a) (hm b) m) (a + 1) (5 - a).toNat m ∧ itr (fun b m => nst (hm a) (hm b) m) (a + 1) (5 - a).toNat m ≤ 11 := by
  have := up_loop (F := fun n (m : Int) b => f_X4_nearestTowns_b14 rec N 0 n (jj m) (jj a) (jj b) S) (out := fun m => rec (jj m) (jj (a + 1)) S) (step := fun b m => nst (hm a) (hm b) m) (P := fun b m => a < b ∧ -1 ≤ m ∧ m ≤ 11) (E := 6) (by
    intro n m ⟨h1, h2⟩
    simp only [f_X4_nearestTowns_b14]
    simp (disch := omega) only [jj_of, jj_add, jj_sub, jj_mul, jj_neg, jj_le, jj_lt, jj_eq, jj_nat, chk_true (jj_inb _ _ _), chk_true (jj_nz _ _ _), lt, if_true, if_false, reduceIte, Int.le_refl]) (by
    intro n m b hb6 ⟨h1, h2⟩
    have ha := hb a a0 a1
    have hbb := hb b (by omega) hb6
    have e1 := hH a a0 a1
    have e2 := hH b (by omega) hb6
    refine ⟨?_, by omega, nst_b ha.2 hbb.2 h2⟩
    have hk : ¬ 6 ≤ b := by omega
    simp only [f_X4_nearestTowns_b14]
    simp (disch := omega) only [jj_of, jj_add, jj_sub, jj_mul, jj_neg, jj_le, jj_lt, jj_eq, jj_nat, chk_true (jj_inb _ _ _), chk_true (jj_nz _ _ _), lt, if_true, if_false, reduceIte, hk, e1, e2]
    unfold nst
    have ab : (if 0 ≤ hm a - hm b then jj (hm a - hm b) else jj (0 - (hm a - hm b))) = jj (if hm a ≤ hm b then hm b - hm a else hm a - hm b) := by
      by_cases w : hm a ≤ hm b
      · rw [if_pos w]
        by_cases w2 : 0 ≤ hm a - hm b
        · rw [if_pos w2]; congr 1; omega
        · rw [if_neg w2]; congr 1; omega
      · rw [if_neg w, if_pos (by omega)]
    rw [ab]
    have bd : -100 ≤ (if hm a ≤ hm b then hm b - hm a else hm a - hm b) ∧ (if hm a ≤ hm b then hm b - hm a else hm a - hm b) ≤ 100 := by split <;> omega
    generalize (if hm a ≤ hm b then hm b - hm a else hm a - hm b) = d at bd ⊢
    simp (disch := omega) only [jj_of, jj_add, jj_sub, jj_mul, jj_neg, jj_le, jj_lt, jj_eq, jj_nat, chk_true (jj_inb _ _ _), chk_true (jj_nz _ _ _), lt]
    by_cases w1 : hm a < 0
    · rw [if_pos w1, if_pos (Or.inl w1)]
    · rw [if_neg w1]
      by_cases w2 : hm b < 0
      · rw [if_pos w2, if_pos (Or.inr w2)]
      · rw [if_neg w2, if_neg (show ¬ (hm a < 0 ∨ hm b < 0) by omega)]
        by_cases w3 : m = -1
        · rw [if_pos w3, if_pos (Or.inl w3)]
        · rw [if_neg w3]
          by_cases w4 : m ≤ d
          · rw [if_pos w4, if_neg (show ¬ (m = -1 ∨ d < m) by omega)]
          · rw [if_neg w4, if_pos (Or.inr (by omega))]) (5 - a).toNat N (a + 1) m (by omega) (by omega) ⟨by omega, hm0⟩
  exact ⟨this.1, this.2.2⟩
def nin (h : Int → Int) (e : Int) : Int → Int → Int := fun a m => itr (fun b m => nst (h a) (h b) m) (a + 1) (e - 1 - a).toNat m
theorem x_apart {S : St} {N : Nat} {hm : Int → Int} (hN : 4000 < N) (hH : HOM S 0 hm) (hb : ∀ t : Int, 0 ≤ t → t < 6 → -2 ≤ hm t ∧ hm t ≤ 11) : f_X4_nearestTowns N 0 S = some (jj (itr (nin hm 6) 0 6 (-1))) := by
  have := up_loop (F := fun n (m : Int) a => f_X4_nearestTowns_b4 N 0 n (jj m) (jj a) S) (out := fun m => some (jj m)) (step := nin hm 6) (P := fun a m => 0 ≤ a ∧ -1 ≤ m ∧ m ≤ 11) (E := 6) (by
    intro n m ⟨h1, h2⟩
    simp only [f_X4_nearestTowns_b4]
    simp (disch := omega) only [jj_of, jj_add, jj_sub, jj_mul, jj_neg, jj_le, jj_lt, jj_eq, jj_nat, chk_true (jj_inb _ _ _), chk_true (jj_nz _ _ _), lt, if_true, if_false, reduceIte, Int.le_refl]) (by
    intro n m a ha ⟨h1, h2⟩
    have hk : ¬ 6 ≤ a := by omega
    obtain ⟨e, b1⟩ := x_apart_in hN hH hb h1 ha (f_X4_nearestTowns_b4 N 0 n) m h2
    have en : itr (fun b m => nst (hm a) (hm b) m) (a + 1) (5 - a).toNat m = nin hm 6 a m := rfl
    rw [en] at e b1
    refine ⟨?_, by omega, b1⟩
    simp only [f_X4_nearestTowns_b4]
    simp (disch := omega) only [jj_of, jj_add, jj_sub, jj_mul, jj_neg, jj_le, jj_lt, jj_eq, jj_nat, chk_true (jj_inb _ _ _), chk_true (jj_nz _ _ _), lt, if_true, if_false, reduceIte, hk]
    exact e) 6 N 0 (-1) (by decide) (by omega) ⟨by decide, by decide, by decide⟩
  exact this.1
/-- the reference's nearest: none is as far as can be -/
def far (m : Int) : Int := if m = -1 then 2147483647 else m
theorem far_b {m : Int} (h : -1 ≤ m ∧ m ≤ 11) : 0 ≤ far m ∧ far m ≤ 2147483647 := by unfold far; split <;> omega
theorem r_apart_in {S : St} {N : Nat} {A : Int → Int} (hN : 4000 < N) (hA : AR 1000 S A) (hT : TOK A) {a : Int} (a0 : 0 ≤ a) (a1 : a < A 1) (rec : Int32 → Int32 → St → Option Int32) (m : Int) (hm0 : -1 ≤ m ∧ m ≤ 11) : f_X10_apart_b20 rec N N (jj (far m)) (jj a) (jj (a + 1)) S = rec (jj (far (nin (fun t => A (35 + t)) (A 1) a m))) (jj (a + 1)) S ∧ -1 ≤ nin (fun t => A (35 + t)) (A 1) a m ∧ nin (fun t => A (35 + t)) (A 1) a m ≤ 11 := by
  have t6 := hT.2.1
  have g1 : gI S 1000 0 1 = jj (A 1) := hA 1 (by decide) (by decide)
  have := up_loop (F := fun n (m : Int) b => f_X10_apart_b20 rec N n (jj (far m)) (jj a) (jj b) S) (out := fun m => rec (jj (far m)) (jj (a + 1)) S) (step := fun b m => nst (A (35 + a)) (A (35 + b)) m) (P := fun b m => a < b ∧ -1 ≤ m ∧ m ≤ 11) (E := A 1) (by
    intro n m ⟨h1, h2⟩
    simp only [f_X10_apart_b20]
    rw [g1, if_pos (Int32.le_refl _), jj_of, jj_add]
    rfl) (by
    intro n m b hb6 ⟨h1, h2⟩
    have ha := hT.2.2 a a0 a1
    have hbb := hT.2.2 b (by omega) hb6
    have e1 := hA (35 + a) (by omega) (by omega)
    have e2 := hA (35 + b) (by omega) (by omega)
    have fb := far_b h2
    refine ⟨?_, by omega, nst_b ha.2 hbb.2 h2⟩
    have hk : ¬ A 1 ≤ b := by omega
    simp only [f_X10_apart_b20, f_X10_apart_b92]
    rw [g1]
    simp (disch := omega) only [jj_of, jj_add, jj_sub, jj_mul, jj_neg, jj_le, jj_lt, jj_eq, jj_nat, chk_true (jj_inb _ _ _), chk_true (jj_nz _ _ _), lt, if_true, if_false, reduceIte, hk, e1, e2]
    unfold nst
    have key : ∀ d : Int, 0 ≤ d → d ≤ 100 → (if A (35 + a) = -1 then f_X10_apart_b20 rec N n (jj (far m)) (jj a) (jj (b + 1)) S else if A (35 + b) = -1 then f_X10_apart_b20 rec N n (jj (far m)) (jj a) (jj (b + 1)) S else if far m ≤ d then f_X10_apart_b20 rec N n (jj (far m)) (jj a) (jj (b + 1)) S else f_X10_apart_b20 rec N n (jj d) (jj a) (jj (b + 1)) S) = f_X10_apart_b20 rec N n (jj (far (if A (35 + a) < 0 ∨ A (35 + b) < 0 then m else if m = -1 ∨ d < m then d else m))) (jj a) (jj (b + 1)) S := by
      intro d d0 d1
      by_cases w1 : A (35 + a) = -1
      · rw [if_pos w1, if_pos (show A (35 + a) < 0 ∨ A (35 + b) < 0 by omega)]
      · rw [if_neg w1]
        by_cases w2 : A (35 + b) = -1
        · rw [if_pos w2, if_pos (show A (35 + a) < 0 ∨ A (35 + b) < 0 by omega)]
        · rw [if_neg w2, if_neg (show ¬ (A (35 + a) < 0 ∨ A (35 + b) < 0) by omega)]
          by_cases w3 : m = -1
          · have : far m = 2147483647 := if_pos w3
            rw [if_neg (show ¬ far m ≤ d by omega), if_pos (Or.inl w3)]
            congr 2
            unfold far
            by_cases z : d = -1
            · exact absurd z (by omega)
            · rw [if_neg z]
          · have : far m = m := if_neg w3
            by_cases w4 : m ≤ d
            · rw [if_pos (show far m ≤ d by omega), if_neg (show ¬ (m = -1 ∨ d < m) by omega)]
            · rw [if_neg (show ¬ far m ≤ d by omega), if_pos (Or.inr (show d < m by omega))]
              congr 2
              unfold far
              by_cases z : d = -1
              · exact absurd z (by omega)
              · rw [if_neg z]
    by_cases w : A (35 + a) ≤ A (35 + b)
    · simp only [w, if_true]
      exact key _ (by omega) (by omega)
    · simp only [w, if_false]
      exact key _ (by omega) (by omega)) (A 1 - 1 - a).toNat N (a + 1) m (by omega) (by omega) ⟨by omega, hm0⟩
  exact ⟨this.1, this.2.2⟩
theorem r_apart {S : St} {N : Nat} {A : Int → Int} (hN : 4000 < N) (hA : AR 1000 S A) (hT : TOK A) : f_X10_apart N S = some (jj (itr (nin (fun t => A (35 + t)) (A 1)) 0 (A 1).toNat (-1))) := by
  have t0 := hT.1
  have t6 := hT.2.1
  have g1 : gI S 1000 0 1 = jj (A 1) := hA 1 (by decide) (by decide)
  have := up_loop (F := fun n (m : Int) a => f_X10_apart_b6 N n (jj (far m)) (jj a) S) (out := fun m => some (jj m)) (step := nin (fun t => A (35 + t)) (A 1)) (P := fun a m => 0 ≤ a ∧ -1 ≤ m ∧ m ≤ 11) (E := A 1) (by
    intro n m ⟨h1, h2⟩
    have fb := far_b h2
    simp only [f_X10_apart_b6]
    rw [g1, if_pos (Int32.le_refl _)]
    simp (disch := omega) only [jj_of, jj_add, jj_sub, jj_mul, jj_neg, jj_le, jj_lt, jj_eq, jj_nat, chk_true (jj_inb _ _ _), chk_true (jj_nz _ _ _), lt]
    unfold far
    by_cases w : m = -1
    · rw [if_pos w, if_pos rfl, w]
    · rw [if_neg w, if_neg (by omega)]) (by
    intro n m a ha ⟨h1, h2⟩
    have hk : ¬ A 1 ≤ a := by omega
    obtain ⟨e, b1⟩ := r_apart_in hN hA hT h1 ha (f_X10_apart_b6 N n) m h2
    refine ⟨?_, by omega, b1⟩
    simp only [f_X10_apart_b6]
    rw [g1]
    simp (disch := omega) only [jj_of, jj_add, jj_sub, jj_mul, jj_neg, jj_le, jj_lt, jj_eq, jj_nat, chk_true (jj_inb _ _ _), chk_true (jj_nz _ _ _), lt, if_true, if_false, reduceIte, hk]
    exact e) (A 1).toNat N 0 (-1) (by omega) (by omega) ⟨by decide, by decide, by decide⟩
  exact this.1
theorem k_apart {S : St} {N : Nat} {T : Int} (hN : 4000 < N) (hI : INV T S) : ONE (fun S => f_X9_apart N S) (fun S => f_X10_apart N S) S := by
  obtain ⟨A, B, hI⟩ := hI
  obtain ⟨em, et, hX, hR⟩ := INVA_get hI
  have hT := hX.2.1.1.2.1
  have t0 := hT.1
  have t6 := hT.2.1
  have e1 := x_apart hN hX.1.2.1.2.2.2.1 (fun t a b => by
    unfold hmA
    by_cases q : t < A 1
    · rw [if_pos q]; have := hT.2.2 t a q; omega
    · rw [if_neg q]; omega)
  have e2 := r_apart hN hR.1 hT
  refine ⟨_, ?_, e2⟩
  show f_X9_apart N S = _
  unfold f_X9_apart
  rw [bnd_of e1]
  congr 2
  have hi : ∀ t, A 1 ≤ t → hmA A t = -2 := fun t h => if_neg (by omega)
  have lo : ∀ t, t < A 1 → hmA A t = A (35 + t) := fun t h => if_pos h
  have inner : ∀ a m, 0 ≤ a → a < A 1 → nin (hmA A) 6 a m = nin (fun t => A (35 + t)) (A 1) a m := by
    intro a m p q
    unfold nin
    rw [show (6 - 1 - a).toNat = (A 1 - 1 - a).toNat + (6 - A 1).toNat by omega, itr_add, itr_id (6 - A 1).toNat (a + 1 + ((A 1 - 1 - a).toNat : Int)) _ (fun i x u v => by
      unfold nst
      rw [if_pos (show hmA A a < 0 ∨ hmA A i < 0 from Or.inr (by rw [hi i (by omega)]; decide))])]
    exact itr_congr _ _ _ (fun i x u v => by rw [lo a q, lo i (by omega)])
  rw [show (6 : Nat) = (A 1).toNat + (6 - A 1).toNat by omega, itr_add, itr_id (6 - A 1).toNat (0 + ((A 1).toNat : Int)) _ (fun i x u v => by
    unfold nin
    exact itr_id _ _ _ (fun k y u2 v2 => by
      unfold nst
      rw [if_pos (show hmA A i < 0 ∨ hmA A k < 0 from Or.inl (by rw [hi i (by omega)]; decide))]))]
  exact itr_congr _ _ _ (fun i x u v => inner i x u (by omega))
/-- all that is said is so -/
def AFB (g : Int → Int) (A : Int → Int) : Nat → Bool
  | 0 => true
  | n + 1 => AFB g A n && decide (g n = A (53 + 3 * n))
theorem AFB_mono {g A : Int → Int} {n : Nat} (h : AFB g A n = false) : ∀ m, AFB g A (n + m) = false := by
  intro m
  induction m with
  | zero => exact h
  | succ m ih => show (AFB g A (n + m) && _) = false; rw [ih]; rfl
def gsd (em : Sem) (A : Int → Int) : Int → Int := fun k => mvv em A (sgA A) (A (51 + 3 * k)) (A (52 + 3 * k)) 1
theorem x_allsaid {S : St} {N : Nat} {A : Int → Int} {M : Int} {em : Sem} {lw : Nat} (hN : 4000 < N) (hM : NUM A M) (hW : WLD S 0 A) (hE : EVX 8 S lw em) : ∃ S', f_X2_isLawOfAllSaid_b20 N N lw (jj 0) S = some (jj (if AFB (gsd em A) A (A 5).toNat = true then 1 else 0), S') ∧ FX (fun f _ => 200 ≤ f ∧ f ≤ 205) S S' := by
  have a5 := hM.2.2.2.2.2.2.2.1
  have a5' := hM.2.2.2.2.2.2.2.2.1
  have hS := hM.2.2.2.2.2.2.2.2.2.2.1
  have hO := hM.1
  have h04 := hO.2.2.1.2.1
  have hRB := OKR_RB hO.1 hO.2.2.2
  have g5 := hW.1.2.2.2.2.1
  have := wp_up (F := fun n S1 k => f_X2_isLawOfAllSaid_b20 N n lw (jj (3 * k)) S1) (P := fun k S1 => 0 ≤ k ∧ FX (fun f _ => 200 ≤ f ∧ f ≤ 205) S S1 ∧ AFB (gsd em A) A k.toNat = true) (Q := fun r => r.1 = jj (if AFB (gsd em A) A (A 5).toNat = true then 1 else 0) ∧ FX (fun f _ => 200 ≤ f ∧ f ≤ 205) S r.2) (E := A 5) (by
    intro n S1 ⟨k0, F1, h⟩
    simp only [f_X2_isLawOfAllSaid_b20]
    rw [F1.1 811 0 0 (by omega), g5]
    simp (disch := omega) only [jj_of, jj_add, jj_sub, jj_mul, jj_neg, jj_le, jj_lt, jj_eq, jj_nat, chk_true (jj_inb _ _ _), chk_true (jj_nz _ _ _), lt]
    rw [if_pos (Int.le_refl _)]
    exact wp_some ⟨by rw [if_pos h], F1⟩) (by
    intro n S1 k hk ⟨k0, F1, h⟩ ih
    obtain ⟨v1, v2, v3, v4, v5, v6⟩ := hS k k0 hk
    have hs := hO.2.2.1.2.2 _ v1 v2
    have p0 := hW.1.2.2.2.2.2.2 (3 * k) (by omega) (by omega)
    have p1 := hW.1.2.2.2.2.2.2 (3 * k + 1) (by omega) (by omega)
    have p2 := hW.1.2.2.2.2.2.2 (3 * k + 2) (by omega) (by omega)
    rw [show 51 + (3 * k + 1) = 52 + 3 * k by omega] at p1
    rw [show 51 + (3 * k + 2) = 53 + 3 * k by omega] at p2
    obtain ⟨S2, e2, F2⟩ := q_amount (S := S1) (j := 0) (lw := lw) (sg := sgA A) (r := A) (em := em) (h := A (51 + 3 * k)) (c := A (52 + 3 * k)) (rt := 1) hN (by decide) ⟨show 0 ≤ A (47 + A (51 + 3 * k)) by omega, hs.2⟩ ⟨v1, by omega⟩ v3 v4 (Or.inr rfl) hRB (FX_LAY F1 (fun f a b => by omega) hW.2.1.1) ((F1.1 804 0 _ (by omega)).trans (hW.1.2.2.2.2.2.1 _ v1 v2)) (FX_EVX F1 hE)
    have F12 := FX_trans F1 F2
    have mb := mvv_b (em := em) (sg := sgA A) (h := A (51 + 3 * k)) (rt := 1) hRB v3 v4
    have cb := hRB.1 _ v3 v4
    simp only [f_X2_isLawOfAllSaid_b20]
    rw [F1.1 811 0 0 (by omega), g5]
    simp (disch := omega) only [jj_of, jj_add, jj_sub, jj_mul, jj_neg, jj_le, jj_lt, jj_eq, jj_nat, chk_true (jj_inb _ _ _), chk_true (jj_nz _ _ _), lt]
    rw [if_neg (show ¬ 3 * A 5 ≤ 3 * k by omega), if_neg (show ¬ 24 ≤ 3 * k + 2 by omega), F1.1 810 0 _ (by omega), F1.1 810 0 _ (by omega), p0, p1, bnd_of e2]
    simp only
    rw [F12.1 810 0 _ (by omega), p2]
    have st : AFB (gsd em A) A (k + 1).toNat = decide (mvv em A (sgA A) (A (51 + 3 * k)) (A (52 + 3 * k)) 1 = A (53 + 3 * k)) := by
      rw [show (k + 1).toNat = k.toNat + 1 by omega]
      show (AFB (gsd em A) A k.toNat && decide (gsd em A ((k.toNat : Nat) : Int) = A (53 + 3 * ((k.toNat : Nat) : Int)))) = _
      rw [h, Int.toNat_of_nonneg k0]
      rfl
    refine wp_ite (fun w => ?_) (fun w => ?_)
    · rw [show 3 * k + 3 = 3 * (k + 1) by omega]
      rw [jj_eq (by omega) (by omega) (by omega) (by omega)] at w
      exact ih S2 ⟨by omega, F12, by rw [st]; exact decide_eq_true w⟩
    · rw [jj_eq (by omega) (by omega) (by omega) (by omega)] at w
      refine wp_some ⟨?_, F12⟩
      have f1 : AFB (gsd em A) A (k + 1).toNat = false := by rw [st]; exact decide_eq_false w
      have f2 := AFB_mono f1 ((A 5).toNat - (k + 1).toNat)
      rw [show (k + 1).toNat + ((A 5).toNat - (k + 1).toNat) = (A 5).toNat by omega] at f2
      rw [f2]
      rfl) (A 5).toNat N 0 S (by omega) (by omega) ⟨by decide, FX_refl _ _, rfl⟩
  obtain ⟨⟨v, S'⟩, e, h1, h2⟩ := this
  simp only at h1
  rw [h1] at e
  exact ⟨S', e, h2⟩
