/-! WHAT CODE SAYS: the reference's machine, step by step. -/
def bodS (N n : Nat) (x3 x4 x5 x6 x7 v8 v10 : Int32) (S : St) : Option (Int64 × St) :=
  if (1 : Int32) < v8 then
  (if v8 = (3 : Int32) then
  (lt (x5 + (-1 : Int32)) fun v47 =>
  lt (x6 + (-1 : Int32)) fun v48 =>
  chk (inb v48 330) (
  if (gI S 1022 0 v48.toNatClampNeg) = (0 : Int32) then
  (chk (inb v47 330) (
  chk (inb (v47 - (1 : Int32)) 330) (
  lt (sL S 1021 0 ((v47 - (1 : Int32)).toNatClampNeg) (gL S 1021 0 v47.toNatClampNeg)) fun S53 =>
  lt (x7 + (1 : Int32)) fun v54 =>
  f_X10_summedUp_b38 N n x3 x4 v47 v48 v54 S53)))
  else
  (lt (x7 + (1 : Int32)) fun v50 =>
  f_X10_summedUp_b38 N n x3 x4 v47 v48 v50 S)))
  else
  (if (5 : Int32) < v8 then
  (if (10 : Int32) ≤ v8 then
  (if (20 : Int32) ≤ v8 then
  (if v8 = (20 : Int32) then
  (chk (inb (x6 - (1 : Int32)) 330) (
  if (gI S 1022 0 (x6 - (1 : Int32)).toNatClampNeg) = (0 : Int32) then
  (chk (inb (x6 - (1 : Int32)) 330) (
  lt (sI S 1022 0 ((x6 - (1 : Int32)).toNatClampNeg) (1 : Int32)) fun S24 =>
  lt (x7 + (1 : Int32)) fun v25 =>
  f_X10_summedUp_b38 N n x3 x4 x5 x6 v25 S24))
  else
  (chk (inb (x6 - (1 : Int32)) 330) (
  lt (sI S 1022 0 ((x6 - (1 : Int32)).toNatClampNeg) (0 : Int32)) fun S21 =>
  lt (x7 + (1 : Int32)) fun v22 =>
  f_X10_summedUp_b38 N n x3 x4 x5 x6 v22 S21))))
  else
  (lt (x6 + (-1 : Int32)) fun v11 =>
  chk (inb (v11 - (1 : Int32)) 330) (
  chk (inb v11 330) (
  bnd (f_X10_joined S v8 (gI S 1022 0 (v11 - (1 : Int32)).toNatClampNeg) (gI S 1022 0 v11.toNatClampNeg)) fun q14 =>
 chk (inb (v11 - (1 : Int32)) 330) (
  chk (isz q14) (
  lt (sI S 1022 0 ((v11 - (1 : Int32)).toNatClampNeg) q14) fun S16 =>
  lt (x7 + (1 : Int32)) fun v18 =>
  f_X10_summedUp_b38 N n x3 x4 x5 v11 v18 S16))))))
  else
  (lt (x5 + (-2 : Int32)) fun v26 =>
  chk (inb v26 330) (
  chk (inb (v26 + (1 : Int32)) 330) (
  bnd (f_X10_isAsked S v8 (gL S 1021 0 v26.toNatClampNeg) (gL S 1021 0 (v26 + (1 : Int32)).toNatClampNeg)) fun q29 =>
 chk (inb x6 330) (
  chk (isz q29) (
  lt (sI S 1022 0 x6.toNatClampNeg q29) fun S31 =>
  lt (x6 + (1 : Int32)) fun v33 =>
  lt (x7 + (1 : Int32)) fun v34 =>
  f_X10_summedUp_b38 N n x3 x4 v26 v33 v34 S31))))))
  else
  (lt (x5 + (-1 : Int32)) fun v35 =>
  chk (inb (v35 - (1 : Int32)) 330) (
  chk (inb v35 330) (
  bnd (f_X10_two S v8 (gL S 1021 0 (v35 - (1 : Int32)).toNatClampNeg) (gL S 1021 0 v35.toNatClampNeg)) fun q38 =>
 chk (inb (v35 - (1 : Int32)) 330) (
  lt (sL S 1021 0 ((v35 - (1 : Int32)).toNatClampNeg) q38) fun S40 =>
  lt (x7 + (1 : Int32)) fun v41 =>
  f_X10_summedUp_b38 N n x3 x4 v35 x6 v41 S40)))))
  else
  (chk (inb (x5 - (1 : Int32)) 330) (
  bnd (f_X10_ofOne S v8 (gL S 1021 0 (x5 - (1 : Int32)).toNatClampNeg)) fun q43 =>
 chk (inb (x5 - (1 : Int32)) 330) (
  lt (sL S 1021 0 ((x5 - (1 : Int32)).toNatClampNeg) q43) fun S45 =>
  lt (x7 + (1 : Int32)) fun v46 =>
  f_X10_summedUp_b38 N n x3 x4 x5 x6 v46 S45)))))
  else
  (if v8 = (0 : Int32) then
  (chk (inb x5 330) (
  lt (sL S 1021 0 x5.toNatClampNeg v10.toInt64) fun S61 =>
  lt (x5 + (1 : Int32)) fun v62 =>
  lt (x7 + (1 : Int32)) fun v63 =>
  f_X10_summedUp_b38 N n x3 x4 v62 x6 v63 S61))
  else
  (chk (inb v10 8) (
  chk (inb x5 330) (
  lt (sL S 1021 0 x5.toNatClampNeg ((gI S 1020 0 v10.toNatClampNeg).toInt64)) fun S57 =>
  lt (x5 + (1 : Int32)) fun v58 =>
  lt (x7 + (1 : Int32)) fun v59 =>
  f_X10_summedUp_b38 N n x3 x4 v58 x6 v59 S57))))
theorem q_b38 {L N x w e n : Nat} {S : St} {x5 x6 : Int32} {c d : Int} (hL : L < 4) (c1 : gI S 1002 0 (681 * L + 73 + 2 * w) = jj c) (c2 : gI S 1002 0 (681 * L + 73 + 2 * w + 1) = jj d) (hx : x + 2 < 2724) (he : gI S 1002 0 (x + 2) = jj (e : Int)) (hwe : w < e) (he2 : e ≤ 300) : f_X10_summedUp_b38 N (n + 1) (jj (x : Int)) (jj ((681 * L + 73 : Nat) : Int)) x5 x6 (jj (w : Int)) S = bodS N n (jj (x : Int)) (jj ((681 * L + 73 : Nat) : Int)) x5 x6 (jj (w : Int)) (jj c) (jj d) S := by
  have ix : jj ((681 * L + 73 : Nat) : Int) + (2 : Int32) * jj (w : Int) = jj ((681 * L + 73 + 2 * w : Nat) : Int) := by
    rw [show (2 : Int32) = jj 2 from rfl, jj_mul, jj_add]
    congr 1
  have ix1 : jj ((681 * L + 73 + 2 * w : Nat) : Int) + (1 : Int32) = jj ((681 * L + 73 + 2 * w + 1 : Nat) : Int) := jn_add _ 1
  have n1 : (jj ((681 * L + 73 + 2 * w : Nat) : Int)).toNatClampNeg = 681 * L + 73 + 2 * w := by rw [jj_nat (by omega) (by omega), Int.toNat_natCast]
  have n2 : (jj ((681 * L + 73 + 2 * w + 1 : Nat) : Int)).toNatClampNeg = 681 * L + 73 + 2 * w + 1 := by rw [jj_nat (by omega) (by omega), Int.toNat_natCast]
  have nx : (jj ((x + 2 : Nat) : Int)).toNatClampNeg = x + 2 := by rw [jj_nat (by omega) (by omega), Int.toNat_natCast]
  rw [f_X10_summedUp_b38, show jj (x : Int) + (2 : Int32) = jj ((x + 2 : Nat) : Int) from jn_add x 2, chk_true (jj_inb (by omega) (by omega) (by omega)), nx, he, if_neg (show ¬ jj (e : Int) ≤ jj (w : Int) by rw [jj_le (by omega) (by omega) (by omega) (by omega)]; omega), ix, chk_true (jj_inb (by omega) (by omega) (by omega)), n1, c1]
  show chk (inb (jj ((681 * L + 73 + 2 * w : Nat) : Int) + (1 : Int32)) 2724) _ = _
  rw [ix1, chk_true (jj_inb (by omega) (by omega) (by omega)), n2, c2]
  rfl
theorem nat9 {k : Nat} (h : k ≤ 400) : (jj (k : Int)).toNatClampNeg = k := by rw [jj_nat (by omega) (by omega), Int.toNat_natCast]
theorem inn9 {k : Nat} (h : k < 330) : inb (jj (k : Int)) 330 = true := jj_inb (by omega) (by omega) (by omega)
theorem sub9 (k : Nat) : jj ((k + 1 : Nat) : Int) - (1 : Int32) = jj (k : Int) := (jj_sub _ 1).trans (by congr 1; omega)
theorem add9 (k : Nat) : jj ((k + 1 : Nat) : Int) + (-1 : Int32) = jj (k : Int) := by
  rw [show (-1 : Int32) = jj (-1) from rfl, jj_add]
  congr 1; omega
theorem add92 (k : Nat) : jj ((k + 2 : Nat) : Int) + (-2 : Int32) = jj (k : Int) := by
  rw [show (-2 : Int32) = jj (-2) from rfl, jj_add]
  congr 1; omega
theorem up9 (k : Nat) : jj (k : Int) + (1 : Int32) = jj ((k + 1 : Nat) : Int) := jn_add k 1
