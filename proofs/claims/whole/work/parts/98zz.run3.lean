theorem ltr {α β : Type} {x : α} {f : α → Option β} : lt x f = f x := rfl
theorem b_num {N n k u w : Nat} {x3 x4 : Int32} {S : St} {d : Int} (hk : k < 330) (d0 : 0 ≤ d) (d1 : d ≤ 9999) : bodS N n x3 x4 (jj (k : Int)) (jj (u : Int)) (jj (w : Int)) (jj 0) (jj d) S = f_X10_summedUp_b38 N n x3 x4 (jj ((k + 1 : Nat) : Int)) (jj (u : Int)) (jj ((w + 1 : Nat) : Int)) (sL S 1021 0 k (kk d)) := by
  unfold bodS
  rw [if_neg (show ¬ (1 : Int32) < jj 0 by decide), if_pos (show jj 0 = 0 from rfl)]
  rw [chk_true (inn9 hk), ltr, ltr, ltr, nat9 (by omega), jj_long (by omega) (by omega), up9, up9]
theorem b_nam {N n k u w : Nat} {x3 x4 : Int32} {S : St} {d v : Int} (hk : k < 330) (d0 : 0 ≤ d) (d1 : d < 8) (hn : gI S 1020 0 d.toNat = jj v) (v0 : -100000000 ≤ v) (v1 : v ≤ 100000000) : bodS N n x3 x4 (jj (k : Int)) (jj (u : Int)) (jj (w : Int)) (jj 1) (jj d) S = f_X10_summedUp_b38 N n x3 x4 (jj ((k + 1 : Nat) : Int)) (jj (u : Int)) (jj ((w + 1 : Nat) : Int)) (sL S 1021 0 k (kk v)) := by
  unfold bodS
  rw [if_neg (show ¬ (1 : Int32) < jj 1 by decide), if_neg (show ¬ jj 1 = 0 by decide)]
  rw [chk_true (jj_inb (by omega) (by omega) (by omega)), chk_true (inn9 hk), ltr, ltr, ltr, nat9 (by omega), jj_nat (by omega) (by omega), hn, jj_long (by omega) (by omega), up9, up9]
theorem b_sel {N n k u w : Nat} {x3 x4 d : Int32} {S : St} {t b : Int} (hk : k + 2 ≤ 330) (hu : u < 330) (ht : gI S 1022 0 u = jj t) (tb : t = 0 ∨ t = 1) (hb : gL S 1021 0 (k + 1) = kk b) : bodS N n x3 x4 (jj ((k + 2 : Nat) : Int)) (jj ((u + 1 : Nat) : Int)) (jj (w : Int)) (jj 3) d S = f_X10_summedUp_b38 N n x3 x4 (jj ((k + 1 : Nat) : Int)) (jj (u : Int)) (jj ((w + 1 : Nat) : Int)) (if t = 0 then sL S 1021 0 k (kk b) else S) := by
  unfold bodS
  rw [if_pos (show (1 : Int32) < jj 3 by decide), if_pos (show jj 3 = 3 from rfl)]
  rw [ltr, ltr, add9 (k + 1), add9 u, chk_true (inn9 hu), nat9 (k := u) (by omega), ht]
  rcases tb with rfl | rfl
  · rw [if_pos (show jj 0 = 0 from rfl), chk_true (inn9 (by omega)), sub9 k, chk_true (inn9 (by omega)), ltr, ltr, nat9 (k := k) (by omega), nat9 (k := k + 1) (by omega), hb, up9, if_pos rfl]
  · rw [if_neg (show ¬ jj 1 = 0 by decide), ltr, up9, if_neg (by decide)]
theorem b_un {N n k u w : Nat} {x3 x4 d : Int32} {S : St} {c a v : Int} (hk : k < 330) (c0 : 2 ≤ c) (c1 : c ≤ 5) (c3 : c ≠ 3) (ha : gL S 1021 0 k = kk a) (ho : f_X10_ofOne S (jj c) (kk a) = some (kk v)) : bodS N n x3 x4 (jj ((k + 1 : Nat) : Int)) (jj (u : Int)) (jj (w : Int)) (jj c) d S = f_X10_summedUp_b38 N n x3 x4 (jj ((k + 1 : Nat) : Int)) (jj (u : Int)) (jj ((w + 1 : Nat) : Int)) (sL S 1021 0 k (kk v)) := by
  have hc : c = 2 ∨ c = 4 ∨ c = 5 := by omega
  have e1 : (1 : Int32) < jj c := by rcases hc with rfl | rfl | rfl <;> decide
  have e3 : ¬ jj c = (3 : Int32) := by rcases hc with rfl | rfl | rfl <;> decide
  have e5 : ¬ (5 : Int32) < jj c := by rcases hc with rfl | rfl | rfl <;> decide
  unfold bodS
  rw [if_pos e1, if_neg e3, if_neg e5]
  rw [sub9, chk_true (inn9 hk), nat9 (by omega), ha, bnd_of ho, chk_true (inn9 hk), ltr, ltr, up9]
theorem b_two {N n k u w : Nat} {x3 x4 d : Int32} {S : St} {c a b v : Int} (hk : k + 2 ≤ 330) (c0 : 6 ≤ c) (c1 : c ≤ 9) (ha : gL S 1021 0 k = kk a) (hb : gL S 1021 0 (k + 1) = kk b) (ho : f_X10_two S (jj c) (kk a) (kk b) = some (kk v)) : bodS N n x3 x4 (jj ((k + 2 : Nat) : Int)) (jj (u : Int)) (jj (w : Int)) (jj c) d S = f_X10_summedUp_b38 N n x3 x4 (jj ((k + 1 : Nat) : Int)) (jj (u : Int)) (jj ((w + 1 : Nat) : Int)) (sL S 1021 0 k (kk v)) := by
  have hc : c = 6 ∨ c = 7 ∨ c = 8 ∨ c = 9 := by omega
  have e1 : (1 : Int32) < jj c := by rcases hc with rfl | rfl | rfl | rfl <;> decide
  have e3 : ¬ jj c = (3 : Int32) := by rcases hc with rfl | rfl | rfl | rfl <;> decide
  have e5 : (5 : Int32) < jj c := by rcases hc with rfl | rfl | rfl | rfl <;> decide
  have e10 : ¬ (10 : Int32) ≤ jj c := by rcases hc with rfl | rfl | rfl | rfl <;> decide
  unfold bodS
  rw [if_pos e1, if_neg e3, if_pos e5, if_neg e10]
  rw [ltr, add9 (k + 1), sub9 k, chk_true (inn9 (by omega)), chk_true (inn9 (by omega)), nat9 (k := k) (by omega), nat9 (k := k + 1) (by omega), ha, hb, bnd_of ho, chk_true (inn9 (by omega)), ltr, ltr, up9]
theorem b_cmp {N n k u w : Nat} {x3 x4 d : Int32} {S : St} {c a b v : Int} (hk : k + 2 ≤ 330) (hu : u < 330) (c0 : 10 ≤ c) (c1 : c < 20) (ha : gL S 1021 0 k = kk a) (hb : gL S 1021 0 (k + 1) = kk b) (vb : v = 0 ∨ v = 1) (ho : f_X10_isAsked S (jj c) (kk a) (kk b) = some (jj v)) : bodS N n x3 x4 (jj ((k + 2 : Nat) : Int)) (jj (u : Int)) (jj (w : Int)) (jj c) d S = f_X10_summedUp_b38 N n x3 x4 (jj (k : Int)) (jj ((u + 1 : Nat) : Int)) (jj ((w + 1 : Nat) : Int)) (sI S 1022 0 u (jj v)) := by
  have e1 : (1 : Int32) < jj c := by rw [show (1 : Int32) = jj 1 from rfl, jj_lt (by decide) (by decide) (by omega) (by omega)]; omega
  have e3 : ¬ jj c = (3 : Int32) := by rw [show (3 : Int32) = jj 3 from rfl, jj_eq (by omega) (by omega) (by decide) (by decide)]; omega
  have e5 : (5 : Int32) < jj c := by rw [show (5 : Int32) = jj 5 from rfl, jj_lt (by decide) (by decide) (by omega) (by omega)]; omega
  have e10 : (10 : Int32) ≤ jj c := by rw [show (10 : Int32) = jj 10 from rfl, jj_le (by decide) (by decide) (by omega) (by omega)]; omega
  have e20 : ¬ (20 : Int32) ≤ jj c := by rw [show (20 : Int32) = jj 20 from rfl, jj_le (by decide) (by decide) (by omega) (by omega)]; omega
  have iz : isz (jj v) = true := by rcases vb with z | z <;> rw [z] <;> rfl
  unfold bodS
  rw [if_pos e1, if_neg e3, if_pos e5, if_pos e10, if_neg e20]
  rw [ltr, add92 k, chk_true (inn9 (by omega)), up9 k, chk_true (inn9 (by omega)), nat9 (k := k) (by omega), nat9 (k := k + 1) (by omega), ha, hb, bnd_of ho, chk_true (inn9 hu), chk_true iz, ltr, ltr, ltr, nat9 (k := u) (by omega), up9 u, up9 w]
theorem b_not {N n u w : Nat} {x3 x4 x5 d : Int32} {S : St} {t : Int} (hu : u < 330) (ht : gI S 1022 0 u = jj t) (tb : t = 0 ∨ t = 1) : bodS N n x3 x4 x5 (jj ((u + 1 : Nat) : Int)) (jj (w : Int)) (jj 20) d S = f_X10_summedUp_b38 N n x3 x4 x5 (jj ((u + 1 : Nat) : Int)) (jj ((w + 1 : Nat) : Int)) (sI S 1022 0 u (jj (nop t))) := by
  unfold bodS
  rw [if_pos (show (1 : Int32) < jj 20 by decide), if_neg (show ¬ jj 20 = 3 by decide), if_pos (show (5 : Int32) < jj 20 by decide), if_pos (show (10 : Int32) ≤ jj 20 by decide), if_pos (show (20 : Int32) ≤ jj 20 by decide), if_pos (show jj 20 = 20 from rfl)]
  rw [sub9 u, chk_true (inn9 hu), nat9 (by omega), ht]
  rcases tb with rfl | rfl
  · rw [if_pos (show jj 0 = 0 from rfl), chk_true (inn9 hu), ltr, ltr, up9 w]; rfl
  · rw [if_neg (show ¬ jj 1 = 0 by decide), chk_true (inn9 hu), ltr, ltr, up9 w]; rfl
theorem b_jn {N n u w : Nat} {x3 x4 x5 d : Int32} {S : St} {c t s v : Int} (hu : u + 2 ≤ 330) (c0 : 21 ≤ c) (c1 : c ≤ 22) (ht : gI S 1022 0 u = jj t) (hs : gI S 1022 0 (u + 1) = jj s) (vb : v = 0 ∨ v = 1) (ho : f_X10_joined S (jj c) (jj t) (jj s) = some (jj v)) : bodS N n x3 x4 x5 (jj ((u + 2 : Nat) : Int)) (jj (w : Int)) (jj c) d S = f_X10_summedUp_b38 N n x3 x4 x5 (jj ((u + 1 : Nat) : Int)) (jj ((w + 1 : Nat) : Int)) (sI S 1022 0 u (jj v)) := by
  have hc : c = 21 ∨ c = 22 := by omega
  have e1 : (1 : Int32) < jj c := by rcases hc with rfl | rfl <;> decide
  have e3 : ¬ jj c = (3 : Int32) := by rcases hc with rfl | rfl <;> decide
  have e5 : (5 : Int32) < jj c := by rcases hc with rfl | rfl <;> decide
  have e10 : (10 : Int32) ≤ jj c := by rcases hc with rfl | rfl <;> decide
  have e20 : (20 : Int32) ≤ jj c := by rcases hc with rfl | rfl <;> decide
  have e20' : ¬ jj c = (20 : Int32) := by rcases hc with rfl | rfl <;> decide
  have iz : isz (jj v) = true := by rcases vb with z | z <;> rw [z] <;> rfl
  unfold bodS
  rw [if_pos e1, if_neg e3, if_pos e5, if_pos e10, if_pos e20, if_neg e20']
  rw [ltr, add9 (u + 1), sub9 u, chk_true (inn9 (by omega)), chk_true (inn9 (by omega)), nat9 (k := u) (by omega), nat9 (k := u + 1) (by omega), ht, hs, bnd_of ho, chk_true (inn9 (by omega)), chk_true iz, ltr, ltr, up9 w]
