theorem rows_in {S : St} {x y : Int} (x1 : -2147483648 ≤ x) (x2 : x ≤ 2147483647) (y1 : -2147483648 ≤ y) (y2 : y ≤ 2147483647) : f_X9_isRow S (jj x) (jj y) = some (if 0 ≤ x ∧ x ≤ y ∧ y < 12 then jj 1 else jj 0) := by
  unfold f_X9_isRow
  simp (disch := omega) only [jj_of, jj_add, jj_sub, jj_mul, jj_neg, jj_le, jj_lt, jj_eq, jj_nat, chk_true (jj_inb _ _ _), chk_true (jj_nz _ _ _), lt]
  by_cases a : x < 0
  · rw [if_pos a, if_neg (by omega)]
  · rw [if_neg a]
    by_cases b : y < x
    · rw [if_pos b, if_neg (by omega)]
    · rw [if_neg b]
      by_cases d : 12 ≤ y
      · rw [if_pos d, if_neg (by omega)]
      · rw [if_neg d, if_pos (by omega)]
theorem rows_inR {S : St} {x y : Int} (x1 : -2147483648 ≤ x) (x2 : x ≤ 2147483647) (y1 : -2147483648 ≤ y) (y2 : y ≤ 2147483647) : f_X10_areCells S (jj x) (jj y) = some (if 0 ≤ x ∧ x ≤ y ∧ y < 12 then jj 1 else jj 0) := by
  unfold f_X10_areCells
  rw [bnd_of (q_isCellM x1 x2), bnd_of (q_isCellM y1 y2)]
  by_cases a : 0 ≤ x ∧ x ≤ 11
  · rw [if_pos a, if_neg (show ¬ jj 1 = 0 by decide)]
    by_cases b : 0 ≤ y ∧ y ≤ 11
    · rw [if_pos b, if_neg (show ¬ jj 1 = 0 by decide)]
      by_cases d : y < x
      · rw [if_pos (show jj y < jj x by rw [jj_lt y1 y2 x1 x2]; exact d), if_neg (show ¬ (0 ≤ x ∧ x ≤ y ∧ y < 12) by omega)]
        rfl
      · rw [if_neg (show ¬ jj y < jj x by rw [jj_lt y1 y2 x1 x2]; exact d), if_pos (show 0 ≤ x ∧ x ≤ y ∧ y < 12 by omega)]
        rfl
    · rw [if_neg b, if_pos (show jj 0 = 0 by decide), if_neg (show ¬ (0 ≤ x ∧ x ≤ y ∧ y < 12) by omega)]
      rfl
  · rw [if_neg a, if_pos (show jj 0 = 0 by decide), if_neg (show ¬ (0 ≤ x ∧ x ≤ y ∧ y < 12) by omega)]
    rfl
theorem k_ends {S : St} {N : Nat} {T : Int} (hN : 4000 < N) (t0 : 0 ≤ T) (t1 : T < 512) (hI : INV T S) (x y : Int32) : TWO (fun S => f_X9_ends N S x y) (fun S => f_X10_ends N S x y) T S := by
  obtain ⟨c, h1, h2, h3, h4⟩ := shp t0 t1 hI
  obtain ⟨x, rfl, x1, x2⟩ := jj_ex x
  obtain ⟨y, rfl, y1, y2⟩ := jj_ex y
  show ∃ v S1 S2, f_X9_ends N S (jj x) (jj y) = some (v, S1) ∧ f_X10_ends N S1 (jj x) (jj y) = some (v, S2) ∧ INV (T + 1) S2
  unfold f_X9_ends f_X10_ends
  rw [bnd_of (rows_in x1 x2 y1 y2)]
  by_cases q : 0 ≤ x ∧ x ≤ y ∧ y < 12
  · obtain ⟨S1, e1, F1⟩ := x_lead h1 q.1 q.2.1 q.2.2 (show 20 < N by omega)
    have c2 : CA S1 c := fun i a b => (F1.1 1000 0 _ (by decide)).trans (h2 i a b)
    obtain ⟨S2, e2, F2, g⟩ := r_games c2 (show 20 < N by omega)
    rw [if_pos q, if_neg (show ¬ jj 1 = 0 by decide), bnd_of e1]
    refine ⟨_, S1, S2, rfl, ?_, SCR_of t0 t1 hI (FX_trans (FX_sub F1 (fun f j q => by omega)) (FX_sub F2 (fun f j q => by omega)))⟩
    have gg := g (y - x + 1) x (by omega) (by omega) q.1 (by omega)
    rw [show x + (y - x + 1) - 1 = y by omega, show y - x + 1 - 1 = y - x by omega] at gg
    rw [bnd_of (rows_inR x1 x2 y1 y2), if_pos q, if_neg (show ¬ jj 1 = 0 by decide), bnd_of e2, show (12 : Int32) * jj x + jj y = jj (12 * x + y) from by rw [show (12 : Int32) = jj 12 from rfl, jj_mul, jj_add], chk_true (jj_inb (by omega) (by omega) (by omega)), jj_nat (a := 12 * x + y) (by omega) (by omega), gg]
  · rw [if_neg q, if_pos (show jj 0 = 0 by decide)]
    refine ⟨_, S, S, rfl, ?_, SCR_of t0 t1 hI (FX_refl _ _)⟩
    rw [bnd_of (rows_inR x1 x2 y1 y2), if_neg q, if_pos (show jj 0 = 0 by decide)]
theorem k_endsFirst {S : St} {N : Nat} {T : Int} (hN : 4000 < N) (t0 : 0 ≤ T) (t1 : T < 512) (hI : INV T S) (x y : Int32) : TWO (fun S => f_X9_endsFirst N S x y) (fun S => f_X10_endsFirst N S x y) T S := by
  obtain ⟨c, h1, h2, h3, h4⟩ := shp t0 t1 hI
  obtain ⟨x, rfl, x1, x2⟩ := jj_ex x
  obtain ⟨y, rfl, y1, y2⟩ := jj_ex y
  show ∃ v S1 S2, f_X9_endsFirst N S (jj x) (jj y) = some (v, S1) ∧ f_X10_endsFirst N S1 (jj x) (jj y) = some (v, S2) ∧ INV (T + 1) S2
  unfold f_X9_endsFirst f_X10_endsFirst
  rw [bnd_of (rows_in x1 x2 y1 y2)]
  by_cases q : 0 ≤ x ∧ x ≤ y ∧ y < 12
  · rw [if_pos q, if_neg (show ¬ jj 1 = 0 by decide)]
    unfold f_X3_firstTaken
    by_cases w : x = y
    · obtain ⟨S2, e2, F2, g⟩ := r_games h2 (show 20 < N by omega)
      rw [if_pos (show jj x = jj y by rw [w]), bnd_of rfl]
      refine ⟨jj x, S, S2, rfl, ?_, SCR_of t0 t1 hI (FX_sub F2 (fun f j q => by omega))⟩
      rw [bnd_of (rows_inR x1 x2 y1 y2), if_pos q, if_neg (show ¬ jj 1 = 0 by decide), bnd_of e2, if_pos (show jj x = jj y by rw [w])]
    · have w2 : ¬ jj x = jj y := by rw [jj_eq x1 x2 y1 y2]; exact w
      obtain ⟨S1, e1, F1⟩ := x_lead h1 (a := x + 1) (b := y) (by omega) (by omega) q.2.2 (show 20 < N by omega)
      have c1 : CC S1 0 c := fun i a b => (F1.1 400 0 _ (by decide)).trans (h1 i a b)
      obtain ⟨S2, e2, F2⟩ := x_lead c1 (a := x) (b := y - 1) (by omega) (by omega) (by omega) (show 20 < N by omega)
      have c2 : CA S2 c := fun i a b => (F2.1 1000 0 _ (by decide)).trans ((F1.1 1000 0 _ (by decide)).trans (h2 i a b))
      obtain ⟨S3, e3, F3, g⟩ := r_games c2 (show 20 < N by omega)
      have F : FX (fun f _ => f = 300 ∨ f = 301 ∨ (1024 ≤ f ∧ f ≤ 1028)) S S3 := FX_trans (FX_sub (FX_trans F1 F2) (fun f j q => by omega)) (FX_sub F3 (fun f j q => by omega))
      have z1 := h1 x q.1 (by omega)
      have z2 := c1 y (by omega) (by omega)
      have z3 := (F3.1 1000 0 (11 + x).toNat (by decide)).trans (c2 x q.1 (by omega))
      have gg := g (y - x + 1) x (by omega) (by omega) q.1 (by omega)
      rw [show x + (y - x + 1) - 1 = y by omega, show y - x + 1 - 1 = y - x by omega] at gg
      have gh := g (y - x) (x + 1) (by omega) (by omega) (by omega) (by omega)
      rw [show x + 1 + (y - x) - 1 = y by omega] at gh
      have gu := gm_up c (show 1 ≤ y - x by omega) x
      rw [show x + (y - x) = y by omega] at gu
      rw [show y - (x + 1) = y - x - 1 by omega] at e1
      rw [show y - 1 - x = y - x - 1 by omega] at e2
      rw [if_neg w2, chk_true (jj_inb (by omega) (by omega) (by omega)), show jj x + (1 : Int32) = jj (x + 1) from jj_add x 1, bnd_of e1]
      simp only [lt]
      rw [chk_true (jj_inb (by omega) (by omega) (by omega)), show jj y - (1 : Int32) = jj (y - 1) from jj_sub y 1, bnd_of e2]
      simp only [lt]
      rw [jj_nat (a := x) (by omega) (by omega), jj_nat (a := y) (by omega) (by omega), z1, z2]
      have fin : ∀ v, v = (if jj (c x) - gm c (y - x - 1).toNat (x + 1) = gm c (y - x).toNat x then jj x else jj y) → (bnd (f_X10_areCells S2 (jj x) (jj y)) fun q1 => if q1 = (0 : Int32) then (some ((-1 : Int32), S2)) else (bnd (f_X10_layGames N S2 ) fun q2 => if jj x = jj y then (some (jj x, q2)) else (chk (inb ((11 : Int32) + jj x) 3015) (chk (inb (((12 : Int32) * (jj (x + 1))) + jj y) 144) (chk (inb (((12 : Int32) * jj x) + jj y) 144) (if ((gI q2 1000 0 ((11 : Int32) + jj x).toNatClampNeg) - (gI q2 1027 0 (((12 : Int32) * (jj (x + 1))) + jj y).toNatClampNeg)) = (gI q2 1027 0 (((12 : Int32) * jj x) + jj y).toNatClampNeg) then (some (jj x, q2)) else (some (jj y, q2)))))))) = some (v, S3) := by
        intro v hv
        rw [bnd_of (rows_inR x1 x2 y1 y2), if_pos q, if_neg (show ¬ jj 1 = 0 by decide), bnd_of e3, if_neg w2, show (12 : Int32) * jj x + jj y = jj (12 * x + y) from by rw [show (12 : Int32) = jj 12 from rfl, jj_mul, jj_add], show (12 : Int32) * jj (x + 1) + jj y = jj (12 * (x + 1) + y) from by rw [show (12 : Int32) = jj 12 from rfl, jj_mul, jj_add], show (11 : Int32) + jj x = jj (11 + x) from jj_add 11 x, chk_true (jj_inb (by omega) (by omega) (by omega)), chk_true (jj_inb (by omega) (by omega) (by omega)), chk_true (jj_inb (by omega) (by omega) (by omega)), jj_nat (a := 12 * x + y) (by omega) (by omega), jj_nat (a := 12 * (x + 1) + y) (by omega) (by omega), jj_nat (a := 11 + x) (by omega) (by omega), z3, gg, gh, hv]
        by_cases p : jj (c x) - gm c (y - x - 1).toNat (x + 1) = gm c (y - x).toNat x
        · rw [if_pos p, if_pos p]
        · rw [if_neg p, if_neg p]
      by_cases p : jj (c x) - gm c (y - x - 1).toNat (x + 1) < jj (c y) - gm c (y - x - 1).toNat x
      · rw [if_pos p, bnd_of rfl]
        refine ⟨jj y, S2, S3, rfl, ?_, SCR_of t0 t1 hI F⟩
        refine fin _ ?_
        rw [gu, if_pos p, if_neg (fun e => Int32.ne_of_lt p e)]
      · rw [if_neg p, bnd_of rfl]
        refine ⟨jj x, S2, S3, rfl, ?_, SCR_of t0 t1 hI F⟩
        refine fin _ ?_
        rw [gu, if_neg p, if_pos rfl]
  · rw [if_neg q, if_pos (show jj 0 = 0 by decide)]
    refine ⟨_, S, S, rfl, ?_, SCR_of t0 t1 hI (FX_refl _ _)⟩
    rw [bnd_of (rows_inR x1 x2 y1 y2), if_neg q, if_pos (show jj 0 = 0 by decide)]
