/-! WHAT CODE SAYS: the reference's machine, step by step. -/
def bodS (N n : Nat) (x3 x4 x5 x6 x7 v8 v10 : Int32) (S : St) : Option (Int64 × St) :=
  if (1 : Int32) < v8 then
  (if v8 = (3 : Int32) then
  (lt (x5 + (-1 : Int32)) fun v47 =>
  lt (x6 + (-1 : Int32)) fun v48 =>
  chk (inb v48 330) (
  if (gI S 1022 0 v48.toNatClampNeg) = (0 : Int32) then
  (chk (inb v47 330) (
  chk (inb (v47 - (1 : Int32)) 330) (
  lt (sL S 1021 0 ((v47 - (1 : Int32)).toNatClampNeg) (gL S 1021 0 v47.toNatClampNeg)) fun S53 =>
  lt (x7 + (1 : Int32)) fun v54 =>
  f_X10_summedUp_b38 N n x3 x4 v47 v48 v54 S53)))
  else
  (lt (x7 + (1 : Int32)) fun v50 =>
  f_X10_summedUp_b38 N n x3 x4 v47 v48 v50 S)))
  else
  (if (5 : Int32) < v8 then
  (if (10 : Int32) ≤ v8 then
  (if (20 : Int32) ≤ v8 then
  (if v8 = (20 : Int32) then
  (chk (inb (x6 - (1 : Int32)) 330) (
  if (gI S 1022 0 (x6 - (1 : Int32)).toNatClampNeg) = (0 : Int32) then
  (chk (inb (x6 - (1 : Int32)) 330) (
  lt (sI S 1022 0 ((x6 - (1 : Int32)).toNatClampNeg) (1 : Int32)) fun S24 =>
  lt (x7 + (1 : Int32)) fun v25 =>
  f_X10_summedUp_b38 N n x3 x4 x5 x6 v25 S24))
  else
  (chk (inb (x6 - (1 : Int32)) 330) (
  lt (sI S 1022 0 ((x6 - (1 : Int32)).toNatClampNeg) (0 : Int32)) fun S21 =>
  lt (x7 + (1 : Int32)) fun v22 =>
  f_X10_summedUp_b38 N n x3 x4 x5 x6 v22 S21))))
  else
  (lt (x6 + (-1 : Int32)) fun v11 =>
  chk (inb (v11 - (1 : Int32)) 330) (
  chk (inb v11 330) (
  bnd (f_X10_joined S v8 (gI S 1022 0 (v11 - (1 : Int32)).toNatClampNeg) (gI S 1022 0 v11.toNatClampNeg)) fun q14 =>
 chk (inb (v11 - (1 : Int32)) 330) (
  chk (isz q14) (
  lt (sI S 1022 0 ((v11 - (1 : Int32)).toNatClampNeg) q14) fun S16 =>
  lt (x7 + (1 : Int32)) fun v18 =>
  f_X10_summedUp_b38 N n x3 x4 x5 v11 v18 S16))))))
  else
  (lt (x5 + (-2 : Int32)) fun v26 =>
  chk (inb v26 330) (
  chk (inb (v26 + (1 : Int32)) 330) (
  bnd (f_X10_isAsked S v8 (gL S 1021 0 v26.toNatClampNeg) (gL S 1021 0 (v26 + (1 : Int32)).toNatClampNeg)) fun q29 =>
 chk (inb x6 330) (
  chk (isz q29) (
  lt (sI S 1022 0 x6.toNatClampNeg q29) fun S31 =>
  lt (x6 + (1 : Int32)) fun v33 =>
  lt (x7 + (1 : Int32)) fun v34 =>
  f_X10_summedUp_b38 N n x3 x4 v26 v33 v34 S31))))))
  else
  (lt (x5 + (-1 : Int32)) fun v35 =>
  chk (inb (v35 - (1 : Int32)) 330) (
  chk (inb v35 330) (
  bnd (f_X10_two S v8 (gL S 1021 0 (v35 - (1 : Int32)).toNatClampNeg) (gL S 1021 0 v35.toNatClampNeg)) fun q38 =>
 chk (inb (v35 - (1 : Int32)) 330) (
  lt (sL S 1021 0 ((v35 - (1 : Int32)).toNatClampNeg) q38) fun S40 =>
  lt (x7 + (1 : Int32)) fun v41 =>
  f_X10_summedUp_b38 N n x3 x4 v35 x6 v41 S40)))))
  else
  (chk (inb (x5 - (1 : Int32)) 330) (
  bnd (f_X10_ofOne S v8 (gL S 1021 0 (x5 - (1 : Int32)).toNatClampNeg)) fun q43 =>
 chk (inb (x5 - (1 : Int32)) 330) (
  lt (sL S 1021 0 ((x5 - (1 : Int32)).toNatClampNeg) q43) fun S45 =>
  lt (x7 + (1 : Int32)) fun v46 =>
  f_X10_summedUp_b38 N n x3 x4 x5 x6 v46 S45)))))
  else
  (if v8 = (0 : Int32) then
  (chk (inb x5 330) (
  lt (sL S 1021 0 x5.toNatClampNeg v10.toInt64) fun S61 =>
  lt (x5 + (1 : Int32)) fun v62 =>
  lt (x7 + (1 : Int32)) fun v63 =>
  f_X10_summedUp_b38 N n x3 x4 v62 x6 v63 S61))
  else
  (chk (inb v10 8) (
  chk (inb x5 330) (
  lt (sL S 1021 0 x5.toNatClampNeg ((gI S 1020 0 v10.toNatClampNeg).toInt64)) fun S57 =>
  lt (x5 + (1 : Int32)) fun v58 =>
  lt (x7 + (1 : Int32)) fun v59 =>
  f_X10_summedUp_b38 N n x3 x4 v58 x6 v59 S57))))
theorem q_b38 {L N x w e n : Nat} {S : St} {x5 x6 : Int32} {c d : Int} (hL : L < 4) (c1 : gI S 1002 0 (681 * L + 73 + 2 * w) = jj c) (c2 : gI S 1002 0 (681 * L + 73 + 2 * w + 1) = jj d) (hx : x + 2 < 2724) (he : gI S 1002 0 (x + 2) = jj (e : Int)) (hwe : w < e) (he2 : e ≤ 300) : f_X10_summedUp_b38 N (n + 1) (jj (x : Int)) (jj ((681 * L + 73 : Nat) : Int)) x5 x6 (jj (w : Int)) S = bodS N n (jj (x : Int)) (jj ((681 * L + 73 : Nat) : Int)) x5 x6 (jj (w : Int)) (jj c) (jj d) S := by
  have ix : jj ((681 * L + 73 : Nat) : Int) + (2 : Int32) * jj (w : Int) = jj ((681 * L + 73 + 2 * w : Nat) : Int) := by
    rw [show (2 : Int32) = jj 2 from rfl, jj_mul, jj_add]
    congr 1
  have ix1 : jj ((681 * L + 73 + 2 * w : Nat) : Int) + (1 : Int32) = jj ((681 * L + 73 + 2 * w + 1 : Nat) : Int) := jn_add _ 1
  have n1 : (jj ((681 * L + 73 + 2 * w : Nat) : Int)).toNatClampNeg = 681 * L + 73 + 2 * w := by rw [jj_nat (by omega) (by omega), Int.toNat_natCast]
  have n2 : (jj ((681 * L + 73 + 2 * w + 1 : Nat) : Int)).toNatClampNeg = 681 * L + 73 + 2 * w + 1 := by rw [jj_nat (by omega) (by omega), Int.toNat_natCast]
  have nx : (jj ((x + 2 : Nat) : Int)).toNatClampNeg = x + 2 := by rw [jj_nat (by omega) (by omega), Int.toNat_natCast]
  rw [f_X10_summedUp_b38, show jj (x : Int) + (2 : Int32) = jj ((x + 2 : Nat) : Int) from jn_add x 2, chk_true (jj_inb (by omega) (by omega) (by omega)), nx, he, if_neg (show ¬ jj (e : Int) ≤ jj (w : Int) by rw [jj_le (by omega) (by omega) (by omega) (by omega)]; omega), ix, chk_true (jj_inb (by omega) (by omega) (by omega)), n1, c1]
  show chk (inb (jj ((681 * L + 73 + 2 * w : Nat) : Int) + (1 : Int32)) 2724) _ = _
  rw [ix1, chk_true (jj_inb (by omega) (by omega) (by omega)), n2, c2]
  rfl
theorem nat9 {k : Nat} (h : k ≤ 400) : (jj (k : Int)).toNatClampNeg = k := by rw [jj_nat (by omega) (by omega), Int.toNat_natCast]
theorem inn9 {k : Nat} (h : k < 330) : inb (jj (k : Int)) 330 = true := jj_inb (by omega) (by omega) (by omega)
theorem sub9 (k : Nat) : jj ((k + 1 : Nat) : Int) - (1 : Int32) = jj (k : Int) := (jj_sub _ 1).trans (by congr 1; omega)
theorem add9 (k : Nat) : jj ((k + 1 : Nat) : Int) + (-1 : Int32) = jj (k : Int) := by
  rw [show (-1 : Int32) = jj (-1) from rfl, jj_add]
  congr 1; omega
theorem add92 (k : Nat) : jj ((k + 2 : Nat) : Int) + (-2 : Int32) = jj (k : Int) := by
  rw [show (-2 : Int32) = jj (-2) from rfl, jj_add]
  congr 1; omega
theorem up9 (k : Nat) : jj (k : Int) + (1 : Int32) = jj ((k + 1 : Nat) : Int) := jn_add k 1
theorem b_num {N n k u w : Nat} {x3 x4 : Int32} {S : St} {d : Int} (hk : k < 330) (d0 : 0 ≤ d) (d1 : d ≤ 9999) : bodS N n x3 x4 (jj (k : Int)) (jj (u : Int)) (jj (w : Int)) (jj 0) (jj d) S = f_X10_summedUp_b38 N n x3 x4 (jj ((k + 1 : Nat) : Int)) (jj (u : Int)) (jj ((w + 1 : Nat) : Int)) (sL S 1021 0 k (kk d)) := by
  unfold bodS
  simp only [lt]
  rw [if_neg (show ¬ (1 : Int32) < jj 0 by decide), if_pos (show jj 0 = 0 from rfl), chk_true (inn9 hk), nat9 (by omega), jj_long (by omega) (by omega), up9, up9]
theorem b_nam {N n k u w : Nat} {x3 x4 : Int32} {S : St} {d v : Int} (hk : k < 330) (d0 : 0 ≤ d) (d1 : d < 8) (hn : gI S 1020 0 d.toNat = jj v) (v0 : -100000000 ≤ v) (v1 : v ≤ 100000000) : bodS N n x3 x4 (jj (k : Int)) (jj (u : Int)) (jj (w : Int)) (jj 1) (jj d) S = f_X10_summedUp_b38 N n x3 x4 (jj ((k + 1 : Nat) : Int)) (jj (u : Int)) (jj ((w + 1 : Nat) : Int)) (sL S 1021 0 k (kk v)) := by
  unfold bodS
  simp only [lt]
  rw [if_neg (show ¬ (1 : Int32) < jj 1 by decide), if_neg (show ¬ jj 1 = 0 by decide), chk_true (jj_inb (by omega) (by omega) (by omega)), chk_true (inn9 hk), nat9 (by omega), jj_nat (by omega) (by omega), hn, jj_long (by omega) (by omega), up9, up9]
theorem b_sel {N n k u w : Nat} {x3 x4 d : Int32} {S : St} {t b : Int} (hk : k + 2 ≤ 330) (hu : u < 330) (ht : gI S 1022 0 u = jj t) (tb : t = 0 ∨ t = 1) (hb : gL S 1021 0 (k + 1) = kk b) : bodS N n x3 x4 (jj ((k + 2 : Nat) : Int)) (jj ((u + 1 : Nat) : Int)) (jj (w : Int)) (jj 3) d S = f_X10_summedUp_b38 N n x3 x4 (jj ((k + 1 : Nat) : Int)) (jj (u : Int)) (jj ((w + 1 : Nat) : Int)) (if t = 0 then sL S 1021 0 k (kk b) else S) := by
  unfold bodS
  simp only [lt]
  rw [if_pos (show (1 : Int32) < jj 3 by decide), if_pos (show jj 3 = 3 from rfl), add9 (k + 1), add9 u, chk_true (inn9 hu), nat9 (k := u) (by omega), ht]
  rcases tb with rfl | rfl
  · rw [if_pos (show jj 0 = 0 from rfl), chk_true (inn9 (by omega)), sub9 k, chk_true (inn9 (by omega)), nat9 (k := k) (by omega), nat9 (k := k + 1) (by omega), hb, up9, if_pos rfl]
  · rw [if_neg (show ¬ jj 1 = 0 by decide), up9, if_neg (by decide)]
theorem b_un {N n k u w : Nat} {x3 x4 d : Int32} {S : St} {c a v : Int} (hk : k < 330) (c0 : 2 ≤ c) (c1 : c ≤ 5) (c3 : c ≠ 3) (ha : gL S 1021 0 k = kk a) (ho : f_X10_ofOne S (jj c) (kk a) = some (kk v)) : bodS N n x3 x4 (jj ((k + 1 : Nat) : Int)) (jj (u : Int)) (jj (w : Int)) (jj c) d S = f_X10_summedUp_b38 N n x3 x4 (jj ((k + 1 : Nat) : Int)) (jj (u : Int)) (jj ((w + 1 : Nat) : Int)) (sL S 1021 0 k (kk v)) := by
  have hc : c = 2 ∨ c = 4 ∨ c = 5 := by omega
  have e1 : (1 : Int32) < jj c := by rcases hc with rfl | rfl | rfl <;> decide
  have e3 : ¬ jj c = (3 : Int32) := by rcases hc with rfl | rfl | rfl <;> decide
  have e5 : ¬ (5 : Int32) < jj c := by rcases hc with rfl | rfl | rfl <;> decide
  unfold bodS
  simp only [lt]
  rw [if_pos e1, if_neg e3, if_neg e5, sub9, chk_true (inn9 hk), nat9 (by omega), ha, bnd_of ho, chk_true (inn9 hk), up9]
theorem b_two {N n k u w : Nat} {x3 x4 d : Int32} {S : St} {c a b v : Int} (hk : k + 2 ≤ 330) (c0 : 6 ≤ c) (c1 : c ≤ 9) (ha : gL S 1021 0 k = kk a) (hb : gL S 1021 0 (k + 1) = kk b) (ho : f_X10_two S (jj c) (kk a) (kk b) = some (kk v)) : bodS N n x3 x4 (jj ((k + 2 : Nat) : Int)) (jj (u : Int)) (jj (w : Int)) (jj c) d S = f_X10_summedUp_b38 N n x3 x4 (jj ((k + 1 : Nat) : Int)) (jj (u : Int)) (jj ((w + 1 : Nat) : Int)) (sL S 1021 0 k (kk v)) := by
  have hc : c = 6 ∨ c = 7 ∨ c = 8 ∨ c = 9 := by omega
  have e1 : (1 : Int32) < jj c := by rcases hc with rfl | rfl | rfl | rfl <;> decide
  have e3 : ¬ jj c = (3 : Int32) := by rcases hc with rfl | rfl | rfl | rfl <;> decide
  have e5 : (5 : Int32) < jj c := by rcases hc with rfl | rfl | rfl | rfl <;> decide
  have e10 : ¬ (10 : Int32) ≤ jj c := by rcases hc with rfl | rfl | rfl | rfl <;> decide
  unfold bodS
  simp only [lt]
  rw [if_pos e1, if_neg e3, if_pos e5, if_neg e10, add9 (k + 1), sub9 k, chk_true (inn9 (by omega)), chk_true (inn9 (by omega)), nat9 (k := k) (by omega), nat9 (k := k + 1) (by omega), ha, hb, bnd_of ho, chk_true (inn9 (by omega)), up9]
theorem b_cmp {N n k u w : Nat} {x3 x4 d : Int32} {S : St} {c a b v : Int} (hk : k + 2 ≤ 330) (hu : u < 330) (c0 : 10 ≤ c) (c1 : c < 20) (ha : gL S 1021 0 k = kk a) (hb : gL S 1021 0 (k + 1) = kk b) (vb : v = 0 ∨ v = 1) (ho : f_X10_isAsked S (jj c) (kk a) (kk b) = some (jj v)) : bodS N n x3 x4 (jj ((k + 2 : Nat) : Int)) (jj (u : Int)) (jj (w : Int)) (jj c) d S = f_X10_summedUp_b38 N n x3 x4 (jj (k : Int)) (jj ((u + 1 : Nat) : Int)) (jj ((w + 1 : Nat) : Int)) (sI S 1022 0 u (jj v)) := by
  have e1 : (1 : Int32) < jj c := by rw [show (1 : Int32) = jj 1 from rfl, jj_lt (by decide) (by decide) (by omega) (by omega)]; omega
  have e3 : ¬ jj c = (3 : Int32) := by rw [show (3 : Int32) = jj 3 from rfl, jj_eq (by omega) (by omega) (by decide) (by decide)]; omega
  have e5 : (5 : Int32) < jj c := by rw [show (5 : Int32) = jj 5 from rfl, jj_lt (by decide) (by decide) (by omega) (by omega)]; omega
  have e10 : (10 : Int32) ≤ jj c := by rw [show (10 : Int32) = jj 10 from rfl, jj_le (by decide) (by decide) (by omega) (by omega)]; omega
  have e20 : ¬ (20 : Int32) ≤ jj c := by rw [show (20 : Int32) = jj 20 from rfl, jj_le (by decide) (by decide) (by omega) (by omega)]; omega
  have iz : isz (jj v) = true := by rcases vb with z | z <;> rw [z] <;> rfl
  unfold bodS
  simp only [lt]
  rw [if_pos e1, if_neg e3, if_pos e5, if_pos e10, if_neg e20, add92 k, chk_true (inn9 (by omega)), up9 k, chk_true (inn9 (by omega)), nat9 (k := k) (by omega), nat9 (k := k + 1) (by omega), ha, hb, bnd_of ho, chk_true (inn9 hu), chk_true iz, nat9 (k := u) (by omega), up9 u, up9 w]
theorem b_not {N n u w : Nat} {x3 x4 x5 d : Int32} {S : St} {t : Int} (hu : u < 330) (ht : gI S 1022 0 u = jj t) (tb : t = 0 ∨ t = 1) : bodS N n x3 x4 x5 (jj ((u + 1 : Nat) : Int)) (jj (w : Int)) (jj 20) d S = f_X10_summedUp_b38 N n x3 x4 x5 (jj ((u + 1 : Nat) : Int)) (jj ((w + 1 : Nat) : Int)) (sI S 1022 0 u (jj (nop t))) := by
  unfold bodS
  simp only [lt]
  rw [if_pos (show (1 : Int32) < jj 20 by decide), if_neg (show ¬ jj 20 = 3 by decide), if_pos (show (5 : Int32) < jj 20 by decide), if_pos (show (10 : Int32) ≤ jj 20 by decide), if_pos (show (20 : Int32) ≤ jj 20 by decide), if_pos (show jj 20 = 20 from rfl), sub9 u, chk_true (inn9 hu), nat9 (by omega), ht]
  rcases tb with rfl | rfl
  · rw [if_pos (show jj 0 = 0 from rfl), chk_true (inn9 hu), up9 w]; rfl
  · rw [if_neg (show ¬ jj 1 = 0 by decide), chk_true (inn9 hu), up9 w]; rfl
theorem b_jn {N n u w : Nat} {x3 x4 x5 d : Int32} {S : St} {c t s v : Int} (hu : u + 2 ≤ 330) (c0 : 21 ≤ c) (c1 : c ≤ 22) (ht : gI S 1022 0 u = jj t) (hs : gI S 1022 0 (u + 1) = jj s) (vb : v = 0 ∨ v = 1) (ho : f_X10_joined S (jj c) (jj t) (jj s) = some (jj v)) : bodS N n x3 x4 x5 (jj ((u + 2 : Nat) : Int)) (jj (w : Int)) (jj c) d S = f_X10_summedUp_b38 N n x3 x4 x5 (jj ((u + 1 : Nat) : Int)) (jj ((w + 1 : Nat) : Int)) (sI S 1022 0 u (jj v)) := by
  have hc : c = 21 ∨ c = 22 := by omega
  have e1 : (1 : Int32) < jj c := by rcases hc with rfl | rfl <;> decide
  have e3 : ¬ jj c = (3 : Int32) := by rcases hc with rfl | rfl <;> decide
  have e5 : (5 : Int32) < jj c := by rcases hc with rfl | rfl <;> decide
  have e10 : (10 : Int32) ≤ jj c := by rcases hc with rfl | rfl <;> decide
  have e20 : (20 : Int32) ≤ jj c := by rcases hc with rfl | rfl <;> decide
  have e20' : ¬ jj c = (20 : Int32) := by rcases hc with rfl | rfl <;> decide
  have iz : isz (jj v) = true := by rcases vb with z | z <;> rw [z] <;> rfl
  unfold bodS
  simp only [lt]
  rw [if_pos e1, if_neg e3, if_pos e5, if_pos e10, if_pos e20, if_neg e20', add9 (u + 1), sub9 u, chk_true (inn9 (by omega)), chk_true (inn9 (by omega)), nat9 (k := u) (by omega), nat9 (k := u + 1) (by omega), ht, hs, bnd_of ho, chk_true (inn9 (by omega)), chk_true iz, up9 w]
/-- what a step of the list machine was -/
theorem st_inv {nv cs : Int → Int} {c d : Int} {vs ts vs' ts' : List Int} (h : stpS nv cs (c, d) vs ts = some (vs', ts')) : (c = 0 ∧ vs' = d :: vs ∧ ts' = ts) ∨ (c = 1 ∧ vs' = nv d :: vs ∧ ts' = ts) ∨ (c = 3 ∧ ∃ a b t vs0 ts0, vs = b :: a :: vs0 ∧ ts = t :: ts0 ∧ vs' = sel t a b :: vs0 ∧ ts' = ts0) ∨ (c ≤ 5 ∧ c ≠ 0 ∧ c ≠ 1 ∧ c ≠ 3 ∧ ∃ a vs0, vs = a :: vs0 ∧ vs' = uop c cs a :: vs0 ∧ ts' = ts) ∨ (5 < c ∧ c < 10 ∧ ∃ a b vs0, vs = b :: a :: vs0 ∧ vs' = bop c a b :: vs0 ∧ ts' = ts) ∨ (10 ≤ c ∧ c < 20 ∧ ∃ a b vs0, vs = b :: a :: vs0 ∧ vs' = vs0 ∧ ts' = cop c a b :: ts) ∨ (c = 20 ∧ ∃ t ts0, ts = t :: ts0 ∧ vs' = vs ∧ ts' = nop t :: ts0) ∨ (20 < c ∧ ∃ t u ts0, ts = u :: t :: ts0 ∧ vs' = vs ∧ ts' = jop c t u :: ts0) := by
  unfold stpS at h
  simp only at h
  have fin : ∀ {a b : List Int}, some (a, b) = some (vs', ts') → vs' = a ∧ ts' = b := fun e => ⟨(congrArg (·.1) (Option.some.inj e)).symm, (congrArg (·.2) (Option.some.inj e)).symm⟩
  by_cases q0 : c = 0
  · rw [if_pos q0] at h
    exact Or.inl ⟨q0, fin h⟩
  rw [if_neg q0] at h
  by_cases q1 : c = 1
  · rw [if_pos q1] at h
    exact Or.inr (Or.inl ⟨q1, fin h⟩)
  rw [if_neg q1] at h
  by_cases q3 : c = 3
  · rw [if_pos q3] at h
    refine Or.inr (Or.inr (Or.inl ⟨q3, ?_⟩))
    cases vs with
    | nil => exact absurd h (by simp)
    | cons b vs =>
      cases vs with
      | nil => exact absurd h (by simp)
      | cons a vs0 =>
        cases ts with
        | nil => exact absurd h (by simp)
        | cons t ts0 => exact ⟨a, b, t, vs0, ts0, rfl, rfl, fin h⟩
  rw [if_neg q3] at h
  by_cases q5 : c ≤ 5
  · rw [if_pos q5] at h
    refine Or.inr (Or.inr (Or.inr (Or.inl ⟨q5, q0, q1, q3, ?_⟩)))
    cases vs with
    | nil => exact absurd h (by simp)
    | cons a vs0 => exact ⟨a, vs0, rfl, fin h⟩
  rw [if_neg q5] at h
  by_cases q10 : c < 10
  · rw [if_pos q10] at h
    refine Or.inr (Or.inr (Or.inr (Or.inr (Or.inl ⟨by omega, q10, ?_⟩))))
    cases vs with
    | nil => exact absurd h (by simp)
    | cons b vs =>
      cases vs with
      | nil => exact absurd h (by simp)
      | cons a vs0 => exact ⟨a, b, vs0, rfl, fin h⟩
  rw [if_neg q10] at h
  by_cases q20 : c < 20
  · rw [if_pos q20] at h
    refine Or.inr (Or.inr (Or.inr (Or.inr (Or.inr (Or.inl ⟨by omega, q20, ?_⟩)))))
    cases vs with
    | nil => exact absurd h (by simp)
    | cons b vs =>
      cases vs with
      | nil => exact absurd h (by simp)
      | cons a vs0 => exact ⟨a, b, vs0, rfl, fin h⟩
  rw [if_neg q20] at h
  by_cases q20e : c = 20
  · rw [if_pos q20e] at h
    refine Or.inr (Or.inr (Or.inr (Or.inr (Or.inr (Or.inr (Or.inl ⟨q20e, ?_⟩))))))
    cases ts with
    | nil => exact absurd h (by simp)
    | cons t ts0 => exact ⟨t, ts0, rfl, fin h⟩
  rw [if_neg q20e] at h
  refine Or.inr (Or.inr (Or.inr (Or.inr (Or.inr (Or.inr (Or.inr ⟨by omega, ?_⟩))))))
  cases ts with
  | nil => exact absurd h (by simp)
  | cons u ts =>
    cases ts with
    | nil => exact absurd h (by simp)
    | cons t ts0 => exact ⟨t, u, ts0, rfl, fin h⟩
theorem putV {S : St} {vs0 : List Int} {v : Int} (h0 : VAL S vs0) (bV : BDV vs0) (v0 : -100000000 ≤ v) (v1 : v ≤ 100000000) : VAL (sL S 1021 0 vs0.length (kk v)) (v :: vs0) ∧ BDV (v :: vs0) ∧ FX RFX S (sL S 1021 0 vs0.length (kk v)) := by
  refine ⟨⟨by rw [gL_sL, if_pos ⟨rfl, rfl, rfl⟩], VAL_eq (fun k hk => by rw [gL_sL, if_neg (by omega)]) h0⟩, fun y hy => ?_, FX_sL (FX_refl _ _) (by unfold RFX; omega)⟩
  rcases List.mem_cons.mp hy with z | z
  · rw [z]; exact ⟨v0, v1⟩
  · exact bV y z
theorem putT {S : St} {ts0 : List Int} {v : Int} (h0 : TRU S ts0) (bT : BDT ts0) (hv : v = 0 ∨ v = 1) : TRU (sI S 1022 0 ts0.length (jj v)) (v :: ts0) ∧ BDT (v :: ts0) ∧ FX RFX S (sI S 1022 0 ts0.length (jj v)) := by
  refine ⟨⟨by rw [gI_sI, if_pos ⟨rfl, rfl, rfl⟩], TRU_eq (fun k hk => by rw [gI_sI, if_neg (by omega)]) h0⟩, fun y hy => ?_, FX_sI (FX_refl _ _) (by unfold RFX; omega)⟩
  rcases List.mem_cons.mp hy with z | z
  · rw [z]; exact hv
  · exact bT y z
theorem BDV_tl {x : Int} {vs : List Int} (h : BDV (x :: vs)) : (-100000000 ≤ x ∧ x ≤ 100000000) ∧ BDV vs := ⟨h x (List.mem_cons_self ..), fun y hy => h y (List.mem_cons_of_mem _ hy)⟩
theorem BDT_tl {x : Int} {vs : List Int} (h : BDT (x :: vs)) : (x = 0 ∨ x = 1) ∧ BDT vs := ⟨h x (List.mem_cons_self ..), fun y hy => h y (List.mem_cons_of_mem _ hy)⟩
/-- what a step leaves -/
def SOK (S S1 : St) (vs ts vs' ts' : List Int) : Prop := VAL S1 vs' ∧ TRU S1 ts' ∧ BDV vs' ∧ BDT ts' ∧ vs'.length ≤ vs.length + 1 ∧ ts'.length ≤ ts.length + 1 ∧ FX RFX S S1
theorem r_step {N n w : Nat} {x3 x4 : Int32} {m : Int} {nv cs : Int → Int} {S : St} {c d : Int} {vs ts vs' ts' : List Int} (hst : stpS nv cs (c, d) vs ts = some (vs', ts')) (hcv : CV m (c, d)) (hm : m ≤ 8) (hn : ∀ k : Int, 0 ≤ k → k < m → gI S 1020 0 k.toNat = jj (nv k)) (hc : ∀ i : Int, 0 ≤ i → i < 12 → gI S 1000 0 (11 + i).toNat = jj (cs i)) (hE : ENVB m nv cs) (hV : VAL S vs) (hT : TRU S ts) (bV : BDV vs) (bT : BDT ts) (lv : vs.length ≤ 320) (lt' : ts.length ≤ 320) : ∃ S1, bodS N n x3 x4 (jj (vs.length : Int)) (jj (ts.length : Int)) (jj (w : Int)) (jj c) (jj d) S = f_X10_summedUp_b38 N n x3 x4 (jj (vs'.length : Int)) (jj (ts'.length : Int)) (jj ((w + 1 : Nat) : Int)) S1 ∧ SOK S S1 vs ts vs' ts' := by
  have cv : (c = 0 ∧ 0 ≤ d ∧ d ≤ 9999) ∨ (c = 1 ∧ 0 ≤ d ∧ d < m) ∨ (2 ≤ c ∧ c ≤ 22) := hcv
  clear hcv
  rcases st_inv hst with ⟨q, e1, e2⟩ | ⟨q, e1, e2⟩ | ⟨q, a, b, t, vs0, ts0, e1, e2, e3, e4⟩ | ⟨q, q0, q1, q3, a, vs0, e1, e2, e3⟩ | ⟨q, q', a, b, vs0, e1, e2, e3⟩ | ⟨q, q', a, b, vs0, e1, e2, e3⟩ | ⟨q, t, ts0, e1, e2, e3⟩ | ⟨q, t, u, ts0, e1, e2, e3⟩
  · subst e1 e2
    have db : 0 ≤ d ∧ d ≤ 9999 := by omega
    have p := putV hV bV (v := d) (by omega) (by omega)
    refine ⟨_, by rw [q]; exact b_num (by omega) db.1 db.2, p.1, TRU_eq (fun k hk => rfl) hT, p.2.1, bT, by simp, by omega, p.2.2⟩
  · subst e1 e2
    have db : 0 ≤ d ∧ d < m := by omega
    have nb := hE.1 d db.1 db.2
    have p := putV hV bV (v := nv d) nb.1 nb.2
    refine ⟨_, by rw [q]; exact b_nam (by omega) db.1 (by omega) (hn d db.1 db.2) nb.1 nb.2, p.1, TRU_eq (fun k hk => rfl) hT, p.2.1, bT, by simp, by omega, p.2.2⟩
  · subst e1 e2 e3 e4
    obtain ⟨bb, bV1⟩ := BDV_tl bV
    obtain ⟨ab, bV0⟩ := BDV_tl bV1
    obtain ⟨tb, bT0⟩ := BDT_tl bT
    simp only [List.length_cons] at lv lt'
    have st := b_sel (N := N) (n := n) (w := w) (x3 := x3) (x4 := x4) (d := jj d) (k := vs0.length) (u := ts'.length) (t := t) (b := b) (by omega) (by omega) hT.1 tb hV.1
    rw [q]
    by_cases z : t = 0
    · have p := putV hV.2.2 bV0 (v := b) bb.1 bb.2
      rw [if_pos z] at st
      have es : sel t a b = b := if_pos z
      rw [es]
      exact ⟨_, st, p.1, TRU_eq (fun k hk => rfl) hT.2, p.2.1, bT0, by simp, by simp; omega, p.2.2⟩
    · rw [if_neg z] at st
      have es : sel t a b = a := if_neg z
      rw [es]
      exact ⟨_, st, hV.2, hT.2, bV1, bT0, by simp, by simp; omega, FX_refl _ _⟩
  · subst e1 e2 e3
    obtain ⟨ab, bV0⟩ := BDV_tl bV
    simp only [List.length_cons] at lv
    have ob := uop_b (o := c) (cs := cs) ab.1 ab.2 hE.2
    have p := putV hV.2 bV0 (v := uop c cs a) ob.1 ob.2
    exact ⟨_, b_un (k := vs0.length) (by omega) (by omega) q q3 hV.1 (r_ofOne S (by omega) q ab.1 ab.2 hc hE.2), p.1, TRU_eq (fun k hk => rfl) hT, p.2.1, bT, by simp, by omega, p.2.2⟩
  · subst e1 e2 e3
    obtain ⟨bb, bV1⟩ := BDV_tl bV
    obtain ⟨ab, bV0⟩ := BDV_tl bV1
    simp only [List.length_cons] at lv
    have ob := bop_b c a b
    have p := putV hV.2.2 bV0 (v := bop c a b) (by omega) (by omega)
    exact ⟨_, b_two (k := vs0.length) (by omega) (by omega) (by omega) hV.2.1 hV.1 (r_two S (by omega) (by omega) ab.1 ab.2 bb.1 bb.2), p.1, TRU_eq (fun k hk => rfl) hT, p.2.1, bT, by simp, by omega, p.2.2⟩
  · subst e1 e2 e3
    obtain ⟨bb, bV1⟩ := BDV_tl bV
    obtain ⟨ab, bV0⟩ := BDV_tl bV1
    simp only [List.length_cons] at lv
    have p := putT hT bT (v := cop c a b) (cop_b c a b)
    exact ⟨_, b_cmp (k := vs'.length) (by omega) (by omega) q q' hV.2.1 hV.1 (cop_b c a b) (r_asked S q (by omega) ab.1 ab.2 bb.1 bb.2), VAL_eq (fun k hk => rfl) hV.2.2, p.1, bV0, p.2.1, by simp; omega, by simp, p.2.2⟩
  · subst e1 e2 e3
    obtain ⟨tb, bT0⟩ := BDT_tl bT
    simp only [List.length_cons] at lt'
    have p := putT hT.2 bT0 (v := nop t) (nop_b t)
    exact ⟨_, by rw [q]; exact b_not (u := ts0.length) (by omega) hT.1 tb, VAL_eq (fun k hk => rfl) hV, p.1, bV, p.2.1, by omega, by simp, p.2.2⟩
  · subst e1 e2 e3
    obtain ⟨ub, bT1⟩ := BDT_tl bT
    obtain ⟨tb, bT0⟩ := BDT_tl bT1
    simp only [List.length_cons] at lt'
    have p := putT hT.2.2 bT0 (v := jop c t u) (jop_b c t u)
    exact ⟨_, b_jn (u := ts0.length) (by omega) (by omega) (by omega) hT.2.1 hT.1 (jop_b c t u) (r_joined S (by omega) (by omega) tb ub), VAL_eq (fun k hk => rfl) hV, p.1, bV, p.2.1, by omega, by simp, p.2.2⟩
theorem r_run {L N x e : Nat} {m : Int} {nv cs : Int → Int} (hL : L < 4) (hm : m ≤ 8) (hx : x + 2 < 2724) (he2 : e ≤ 300) (hE : ENVB m nv cs) : ∀ (C : List (Int × Int)) (w : Nat) (vs ts : List Int) (r : List Int × List Int) (S : St) (fuel : Nat), runS nv cs C vs ts = some r → CDA S L w C → (∀ c ∈ C, CV m c) → w + C.length = e → gI S 1002 0 (x + 2) = jj (e : Int) → (∀ k : Int, 0 ≤ k → k < m → gI S 1020 0 k.toNat = jj (nv k)) → (∀ i : Int, 0 ≤ i → i < 12 → gI S 1000 0 (11 + i).toNat = jj (cs i)) → VAL S vs → TRU S ts → BDV vs → BDT ts → vs.length + C.length ≤ 320 → ts.length + C.length ≤ 320 → C.length < fuel → ∃ S1, f_X10_summedUp_b38 N fuel (jj (x : Int)) (jj ((681 * L + 73 : Nat) : Int)) (jj (vs.length : Int)) (jj (ts.length : Int)) (jj (w : Int)) S = some (gL S1 1021 0 0, S1) ∧ VAL S1 r.1 ∧ FX RFX S S1 := by
  intro C
  induction C with
  | nil =>
    intro w vs ts r S fuel hr hC hv hw he hn hc hV hT bV bT l1 l2 hf
    obtain ⟨fuel, rfl⟩ : ∃ f', fuel = f' + 1 := ⟨fuel - 1, by omega⟩
    have : (vs, ts) = r := Option.some.inj hr
    subst this
    simp only [List.length_nil] at hw
    refine ⟨S, ?_, hV, FX_refl _ _⟩
    rw [f_X10_summedUp_b38, show jj (x : Int) + (2 : Int32) = jj ((x + 2 : Nat) : Int) from jn_add x 2, chk_true (jj_inb (by omega) (by omega) (by omega)), jj_nat (by omega) (by omega), Int.toNat_natCast, he, if_pos (show jj (e : Int) ≤ jj (w : Int) by rw [jj_le (by omega) (by omega) (by omega) (by omega)]; omega)]
  | cons c C ih =>
    intro w vs ts r S fuel hr hC hv hw he hn hc hV hT bV bT l1 l2 hf
    obtain ⟨fuel, rfl⟩ : ∃ f', fuel = f' + 1 := ⟨fuel - 1, by omega⟩
    simp only [List.length_cons] at hw l1 l2 hf
    obtain ⟨c, d⟩ := c
    have g := hC 0 (c, d) rfl
    simp only [Nat.add_zero] at g
    have hr : bnd (stpS nv cs (c, d) vs ts) (fun q => runS nv cs C q.1 q.2) = some r := hr
    cases hq : stpS nv cs (c, d) vs ts with
    | none => rw [hq] at hr; exact absurd hr (by simp [bnd])
    | some q =>
      obtain ⟨vs', ts'⟩ := q
      rw [bnd_of hq] at hr
      rw [q_b38 hL g.1 g.2 hx he (by omega) he2]
      obtain ⟨S1, e1, v1, t1, bv1, bt1, lv1, lt1, F1⟩ := r_step (N := N) (n := fuel) (w := w) (x3 := jj (x : Int)) (x4 := jj ((681 * L + 73 : Nat) : Int)) hq (hv _ (List.mem_cons_self ..)) hm hn hc hE hV hT bV bT (by omega) (by omega)
      rw [e1]
      have k2 : ∀ k, gI S1 1002 0 k = gI S 1002 0 k := fun k => F1.1 1002 0 k (by unfold RFX; omega)
      obtain ⟨S2, e2, v2, F2⟩ := ih (w + 1) vs' ts' r S1 fuel hr (fun k c hc => by
        have := hC (k + 1) c (by simpa using hc)
        rw [k2, k2, show w + 1 + k = w + (k + 1) by omega]
        exact this) (fun c hc => hv c (List.mem_cons_of_mem _ hc)) (by omega) ((k2 _).trans he) (fun k a b => (F1.1 1020 0 _ (by unfold RFX; omega)).trans (hn k a b)) (fun i a b => (F1.1 1000 0 _ (by unfold RFX; omega)).trans (hc i a b)) v1 t1 bv1 bt1 (by omega) (by omega) (by omega)
      exact ⟨S2, e2, v2, FX_trans F1 F2⟩
theorem r_cut {S : St} {v top : Int} (v0 : -100000000 ≤ v) (v1 : v ≤ 100000000) (t0 : 0 ≤ top) (t1 : top ≤ 100000000) : f_X10_cut S (kk v) 0 (jj top) = some (jj (if v < 0 then 0 else if top < v then top else v)) := by
  have e1 : ((0 : Int32) ≤ lg_cmp (kk v) ((0 : Int32).toInt64)) = ¬ (v < 0) := by
    rw [cmp_ge, show (0 : Int32).toInt64 = kk 0 from rfl, kk_lt (by omega) (by omega) (by decide) (by decide)]
  have e2 : (lg_cmp (kk v) ((jj top).toInt64) ≤ (0 : Int32)) = ¬ (top < v) := by
    rw [cmp_le, jj_long (by omega) (by omega), kk_lt (by omega) (by omega) (by omega) (by omega)]
  unfold f_X10_cut
  by_cases q : v < 0
  · rw [if_neg (fun z => e1.mp z q), if_pos q]; rfl
  · rw [if_pos (e1.mpr q), if_neg q]
    by_cases q2 : top < v
    · rw [if_neg (fun z => e2.mp z q2), if_pos q2]
    · rw [if_pos (e2.mpr q2), if_neg q2, kk_int]
/-- a clause that is a law: its code stands at w, as long as C -/
def LAWC (S : St) (L k w : Nat) (C : List (Int × Int)) : Prop := gI S 1002 0 (681 * L + 1 + 3 * k + 1) = jj (w : Int) ∧ gI S 1002 0 (681 * L + 1 + 3 * k + 2) = jj ((w + C.length : Nat) : Int) ∧ CDA S L w C ∧ w + C.length ≤ 300
theorem r_summedUp {L N k w : Nat} {m : Int} {nv cs : Int → Int} {S : St} {C : List (Int × Int)} {E : Sm} (hN : 4000 < N) (hL : L < 4) (hk : k < 24) (hm : m ≤ 8) (hE : ENVB m nv cs) (hW : LAWC S L k w C) (hv : ∀ c ∈ C, CV m c) (hM : SM C E) (hn : ∀ k : Int, 0 ≤ k → k < m → gI S 1020 0 k.toNat = jj (nv k)) (hc : ∀ i : Int, 0 ≤ i → i < 12 → gI S 1000 0 (11 + i).toNat = jj (cs i)) : ∃ S1, f_X10_summedUp N S (jj (L : Int)) (jj (k : Int)) = some (kk (E nv cs), S1) ∧ FX RFX S S1 := by
  obtain ⟨w1, w2, w3, w4⟩ := hW
  have i1 : (681 : Int32) * jj (L : Int) + (1 : Int32) + (3 : Int32) * jj (k : Int) = jj ((681 * L + 1 + 3 * k : Nat) : Int) := by
    rw [show (681 : Int32) = jj 681 from rfl, show (1 : Int32) = jj 1 from rfl, show (3 : Int32) = jj 3 from rfl, jj_mul, jj_mul, jj_add, jj_add]
    congr 1
  have i2 : (681 : Int32) * jj (L : Int) + (73 : Int32) = jj ((681 * L + 73 : Nat) : Int) := by
    rw [show (681 : Int32) = jj 681 from rfl, show (73 : Int32) = jj 73 from rfl, jj_mul, jj_add]
    congr 1
  obtain ⟨S1, e1, v1, F1⟩ := r_run (N := N) (x := 681 * L + 1 + 3 * k) (e := w + C.length) hL hm (by omega) w4 hE C w [] [] _ S N (hM nv cs [] []) w3 hv rfl w2 hn hc trivial trivial (fun x hx => absurd hx List.not_mem_nil) (fun x hx => absurd hx List.not_mem_nil) (by simp only [List.length_nil]; omega) (by simp only [List.length_nil]; omega) (by omega)
  refine ⟨S1, ?_, F1⟩
  unfold f_X10_summedUp
  simp only [lt]
  rw [i1, i2, show jj ((681 * L + 1 + 3 * k : Nat) : Int) + (1 : Int32) = jj ((681 * L + 1 + 3 * k + 1 : Nat) : Int) from jn_add _ 1, chk_true (jj_inb (by omega) (by omega) (by omega)), jj_nat (by omega) (by omega), Int.toNat_natCast, w1]
  have e1 : f_X10_summedUp_b38 N N (jj ((681 * L + 1 + 3 * k : Nat) : Int)) (jj ((681 * L + 73 : Nat) : Int)) 0 0 (jj (w : Int)) S = some (gL S1 1021 0 0, S1) := e1
  rw [e1]
  have v1 : gL S1 1021 0 0 = kk (E nv cs) := v1.1
  rw [v1]
/-- which clause says a law -/
theorem r_says {L N nc : Nat} {S : St} {sort w top : Int} {kd : Nat → Int} (hL : L < 4) (hnc : nc ≤ 24) (h0 : gI S 1002 0 (681 * L) = jj (nc : Int)) (hk : ∀ k, k < nc → gI S 1002 0 (681 * L + 1 + 3 * k) = jj (kd k) ∧ 0 ≤ kd k ∧ kd k ≤ 9) (s0 : 0 ≤ sort) (s1 : sort ≤ 9) : ∀ (m k fuel : Nat), k + m = nc → m < fuel → (∀ j, k ≤ j → j < nc → kd j ≠ sort) ∧ f_X10_says_b3 N fuel (jj (L : Int)) (jj sort) (jj w) (jj top) (jj (k : Int)) S = f_X10_says_b63 N (jj w) (jj top) S ∨ ∃ j, k ≤ j ∧ j < nc ∧ kd j = sort ∧ (∀ i, k ≤ i → i < j → kd i ≠ sort) ∧ f_X10_says_b3 N fuel (jj (L : Int)) (jj sort) (jj w) (jj top) (jj (k : Int)) S = (bnd (f_X10_summedUp N S (jj (L : Int)) (jj (j : Int))) fun q5 => bnd (f_X10_cut q5.2 q5.1 (0 : Int32) (jj top)) fun q6 => some (q6, q5.2)) := by
  have i0 : (681 : Int32) * jj (L : Int) = jj ((681 * L : Nat) : Int) := by
    rw [show (681 : Int32) = jj 681 from rfl, jj_mul]
    congr 1
  have nL : (jj ((681 * L : Nat) : Int)).toNatClampNeg = 681 * L := by rw [jj_nat (by omega) (by omega), Int.toNat_natCast]
  have l0 : ¬ jj (L : Int) < (0 : Int32) := by rw [show (0 : Int32) = jj 0 from rfl, jj_lt (by omega) (by omega) (by decide) (by decide)]; omega
  intro m
  induction m with
  | zero =>
    intro k fuel hm hf
    obtain ⟨fuel, rfl⟩ : ∃ f', fuel = f' + 1 := ⟨fuel - 1, by omega⟩
    refine Or.inl ⟨fun j a b => by omega, ?_⟩
    rw [f_X10_says_b3, if_neg l0, i0, chk_true (jj_inb (by omega) (by omega) (by omega)), nL, h0, if_pos (show jj (nc : Int) ≤ jj (k : Int) by rw [jj_le (by omega) (by omega) (by omega) (by omega)]; omega)]
  | succ m ih =>
    intro k fuel hm hf
    obtain ⟨fuel, rfl⟩ : ∃ f', fuel = f' + 1 := ⟨fuel - 1, by omega⟩
    obtain ⟨k1, k2, k3⟩ := hk k (by omega)
    have i1 : jj ((681 * L : Nat) : Int) + (1 : Int32) + (3 : Int32) * jj (k : Int) = jj ((681 * L + 1 + 3 * k : Nat) : Int) := by
      rw [show (1 : Int32) = jj 1 from rfl, show (3 : Int32) = jj 3 from rfl, jj_mul, jj_add, jj_add]
      congr 1
    have js : (jj (kd k) = jj sort) = (kd k = sort) := jj_eq (by omega) (by omega) (by omega) (by omega)
    rw [f_X10_says_b3, if_neg l0, i0, chk_true (jj_inb (by omega) (by omega) (by omega)), nL, h0, if_neg (show ¬ jj (nc : Int) ≤ jj (k : Int) by rw [jj_le (by omega) (by omega) (by omega) (by omega)]; omega), i1, chk_true (jj_inb (by omega) (by omega) (by omega)), jj_nat (by omega) (by omega), Int.toNat_natCast, k1]
    by_cases q : kd k = sort
    · rw [if_pos (js.mpr q)]
      exact Or.inr ⟨k, Nat.le_refl _, by omega, q, fun i a b => by omega, rfl⟩
    · rw [if_neg (fun z => q (js.mp z))]
      simp only [lt]
      rw [up9]
      rcases ih (k + 1) fuel (by omega) (by omega) with ⟨a1, a2⟩ | ⟨j, a1, a2, a3, a4, a5⟩
      · refine Or.inl ⟨fun j b c => ?_, a2⟩
        by_cases z : j = k
        · rw [z]; exact q
        · exact a1 j (by omega) c
      · refine Or.inr ⟨j, by omega, a2, a3, fun i b c => ?_, a5⟩
        by_cases z : i = k
        · rw [z]; exact q
        · exact a4 i (by omega) c
