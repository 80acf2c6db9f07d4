/-! CALL: patches. -/
def cov (t : Int → Int) (a b : Int) (u v : Int32) : Nat → Int → Int32
  | 0, _ => 0
  | m + 1, i => if i = 11 - m then (if t i = 0 then cov t a b u v m (i + 1) else if v + cov t a b u v m (i + b) < u + cov t a b u v m (i + a) then v + cov t a b u v m (i + b) else u + cov t a b u v m (i + a)) else cov t a b u v m i
theorem cov_top {t : Int → Int} {a b : Int} {u v : Int32} : ∀ (m : Nat) (i : Int), 12 ≤ i → cov t a b u v m i = 0 := by
  intro m
  induction m with
  | zero => intro i h; rfl
  | succ m ih =>
    intro i h
    show (if i = 11 - (m : Int) then _ else cov t a b u v m i) = 0
    rw [if_neg (by omega)]
    exact ih i h
theorem cov_up {t : Int → Int} {a b : Int} {u v : Int32} {m : Int} (h : 0 ≤ m) (i : Int) : cov t a b u v (m + 1).toNat i = if i = 11 - m then (if t i = 0 then cov t a b u v m.toNat (i + 1) else if v + cov t a b u v m.toNat (i + b) < u + cov t a b u v m.toNat (i + a) then v + cov t a b u v m.toNat (i + b) else u + cov t a b u v m.toNat (i + a)) else cov t a b u v m.toNat i := by
  rw [show (m + 1).toNat = m.toNat + 1 by omega]
  show (if i = 11 - (m.toNat : Int) then _ else cov t a b u v m.toNat i) = _
  rw [show (m.toNat : Int) = m by omega]
theorem x_cov {S : St} {N : Nat} {t : Int → Int} {a b : Int} {u v x : Int32} (hT : TB x t) (a0 : 1 ≤ a) (a1 : a ≤ 6) (b0 : 1 ≤ b) (b1 : b ≤ 6) (hN : 40 < N) (h12 : gI S 300 0 12 = 0) : ∃ S1, f_X3_covers_b40 N N x (jj a) (jj b) u v (jj 11) S = some (cov t a b u v 12 0, S1) ∧ FX (fun f _ => f = 300) S S1 := by
  have H := wp_up (F := fun n (S1 : St) m => f_X3_covers_b40 N n x (jj a) (jj b) u v (jj (11 - m)) S1) (P := fun m S1 => 0 ≤ m ∧ FX (fun f _ => f = 300) S S1 ∧ ∀ i : Int, 12 - m ≤ i → i ≤ 12 → gI S1 300 0 i.toNat = cov t a b u v m.toNat i) (Q := fun r => r.1 = cov t a b u v 12 0 ∧ FX (fun f _ => f = 300) S r.2) (E := 12) (by
    intro n S1 ⟨m0, F, h⟩
    simp only [f_X3_covers_b40]
    rw [if_pos (show jj (11 - 12) < 0 by decide)]
    exact wp_some ⟨h 0 (by decide) (by decide), F⟩) (by
    intro n S1 m hm ⟨m0, F, h⟩ ih
    have fin : ∀ w, w = cov t a b u v (m + 1).toNat (11 - m) → wp (f_X3_covers_b40 N n x (jj a) (jj b) u v (jj (11 - (m + 1))) (sI S1 300 0 (11 - m).toNat w)) (fun r => r.1 = cov t a b u v 12 0 ∧ FX (fun f _ => f = 300) S r.2) := by
      intro w hw
      refine ih _ ⟨by omega, FX_sI F rfl, fun i p q => ?_⟩
      rw [gI_sI]
      by_cases z : i = 11 - m
      · rw [if_pos ⟨rfl, rfl, by rw [z]⟩, hw, z]
      · rw [if_neg (fun e => z (by have := e.2.2; omega)), cov_up m0, if_neg z]
        exact h i (by omega) q
    have mn : ∀ d : Int, 1 ≤ d → d ≤ 6 → ∃ e : Int, (if jj (11 - m) + jj d < 12 then jj (11 - m) + jj d else 12) = jj e ∧ 12 - m ≤ e ∧ e ≤ 12 ∧ cov t a b u v m.toNat e = cov t a b u v m.toNat (11 - m + d) := by
      intro d d0 d1
      rw [jj_add]
      by_cases z : 11 - m + d < 12
      · exact ⟨11 - m + d, by rw [if_pos (show jj (11 - m + d) < 12 by rw [show (12 : Int32) = jj 12 from rfl, jj_lt (by omega) (by omega) (by omega) (by omega)]; exact z)], by omega, by omega, rfl⟩
      · exact ⟨12, by rw [if_neg (show ¬ jj (11 - m + d) < 12 by rw [show (12 : Int32) = jj 12 from rfl, jj_lt (by omega) (by omega) (by omega) (by omega)]; exact z)]; rfl, by omega, by omega, by rw [cov_top _ _ (by decide), cov_top _ _ (by omega)]⟩
    have tg := tb_get hT (c := 11 - m) (by omega) (by omega)
    have t01 := tb_01 hT (c := 11 - m) (by omega) (by omega)
    simp only [f_X3_covers_b40]
    rw [if_neg (show ¬ jj (11 - m) < 0 by rw [show (0 : Int32) = jj 0 from rfl, jj_lt (by omega) (by omega) (by omega) (by omega)]; omega), tg, show jj (11 - m) + (-1 : Int32) = jj (11 - (m + 1)) from by rw [show (-1 : Int32) = jj (-1) from rfl, jj_add, show 11 - m + -1 = 11 - (m + 1) by omega]]
    have cu := cov_up (t := t) (a := a) (b := b) (u := u) (v := v) m0 (11 - m)
    rw [if_pos rfl] at cu
    by_cases z : t (11 - m) = 0
    · rw [z, if_pos (show jj 0 = 0 by decide), show jj (11 - m) + (1 : Int32) = jj (12 - m) from by rw [show (1 : Int32) = jj 1 from rfl, jj_add, show 11 - m + 1 = 12 - m by omega], chk_true (jj_inb (by omega) (by omega) (by omega)), chk_true (jj_inb (by omega) (by omega) (by omega)), jj_nat (a := 11 - m) (by omega) (by omega), jj_nat (a := 12 - m) (by omega) (by omega), h (12 - m) (by omega) (by omega)]
      rw [if_pos z, show 11 - m + 1 = 12 - m by omega] at cu
      exact fin _ cu.symm
    · have z1 : t (11 - m) = 1 := by omega
      rw [if_neg z] at cu
      obtain ⟨e1, q1, q2, q3, q4⟩ := mn a a0 a1
      obtain ⟨e2, p1, p2, p3, p4⟩ := mn b b0 b1
      rw [z1, if_neg (show ¬ jj 1 = 0 by decide), q1, p1]
      simp only [lt]
      rw [chk_true (jj_inb (by omega) (by omega) (by omega)), chk_true (jj_inb (by omega) (by omega) (by omega)), chk_true (jj_inb (by omega) (by omega) (by omega)), jj_nat (a := e1) (by omega) (by omega), jj_nat (a := e2) (by omega) (by omega), jj_nat (a := 11 - m) (by omega) (by omega), h e1 q2 q3, h e2 p2 p3, q4, p4]
      exact fin _ cu.symm) 12 N 0 S (by decide) (by omega) ⟨by decide, FX_refl _ _, fun i p q => by
    have : i = 12 := by omega
    subst this
    exact h12⟩
  obtain ⟨⟨r, S1⟩, e, e1, e2⟩ := H
  have e1 : r = _ := e1
  subst e1
  exact ⟨S1, e, e2⟩
theorem le_or {x y : Int32} : (if x ≤ y then x else y) = if x < y then x else y := by
  by_cases h : x < y
  · rw [if_pos h, if_pos (Int32.le_of_lt h)]
  · rw [if_neg h]
    by_cases h2 : x ≤ y
    · rw [if_pos h2]
      exact Int32.le_antisymm h2 (Int32.not_lt.1 h)
    · rw [if_neg h2]
theorem r_cov {S : St} {N : Nat} {t : Int → Int} {a b : Int} {x3 u v : Int32} (hT : ∀ c : Int, 0 ≤ c → c < 12 → gI S 1000 0 (23 + c).toNat = jj (t c) ∧ (t c = 0 ∨ t c = 1)) (a0 : 1 ≤ a) (a1 : a ≤ 6) (b0 : 1 ≤ b) (b1 : b ≤ 6) (hN : 40 < N) (hu : u = if x3 = 0 then 1 else jj a + 2) (hv : v = if x3 = 0 then 1 else jj b + 2) : ∃ S1, f_X10_patches_b26 N N (jj a) (jj b) x3 (jj 18) S = some (cov t a b u v 12 0, S1) ∧ FX (fun f _ => f = 1028) S S1 := by
  have H := wp_up (F := fun n (S1 : St) m => f_X10_patches_b26 N n (jj a) (jj b) x3 (jj (18 - m)) S1) (P := fun m S1 => 0 ≤ m ∧ FX (fun f _ => f = 1028) S S1 ∧ ∀ i : Int, 18 - m < i → i ≤ 18 → gI S1 1028 0 i.toNat = cov t a b u v (m - 7).toNat i) (Q := fun r => r.1 = cov t a b u v 12 0 ∧ FX (fun f _ => f = 1028) S r.2) (E := 19) (by
    intro n S1 ⟨m0, F, h⟩
    simp only [f_X10_patches_b26]
    rw [if_pos (show jj (18 - 19) < 0 by decide)]
    exact wp_some ⟨h 0 (by decide) (by decide), F⟩) (by
    intro n S1 m hm ⟨m0, F, h⟩ ih
    have dn : jj (18 - m) + (-1 : Int32) = jj (18 - (m + 1)) := by rw [show (-1 : Int32) = jj (-1) from rfl, jj_add, show 18 - m + -1 = 18 - (m + 1) by omega]
    simp only [f_X10_patches_b26]
    rw [if_neg (show ¬ jj (18 - m) < 0 by rw [show (0 : Int32) = jj 0 from rfl, jj_lt (by omega) (by omega) (by omega) (by omega)]; omega), chk_true (jj_inb (by omega) (by omega) (by omega)), jj_nat (a := 18 - m) (by omega) (by omega), dn]
    simp only [lt]
    by_cases w : m < 7
    · rw [if_neg (show ¬ jj (18 - m) < 12 by rw [show (12 : Int32) = jj 12 from rfl, jj_lt (by omega) (by omega) (by omega) (by omega)]; omega)]
      refine ih _ ⟨by omega, FX_sI F rfl, fun i p q => ?_⟩
      rw [gI_sI, show (m + 1 - 7).toNat = 0 by omega]
      by_cases z : i = 18 - m
      · rw [if_pos ⟨rfl, rfl, by rw [z]⟩]
        rfl
      · rw [if_neg (fun e => z (by have := e.2.2; omega)), h i (by omega) q, show (m - 7).toNat = 0 by omega]
    · have fin : ∀ S2 w, FX (fun f _ => f = 1028) S S2 → (∀ i : Int, 18 - m < i → i ≤ 18 → gI S2 1028 0 i.toNat = cov t a b u v (m - 7).toNat i) → w = cov t a b u v (m - 7 + 1).toNat (18 - m) → wp (f_X10_patches_b26 N n (jj a) (jj b) x3 (jj (18 - (m + 1))) (sI S2 1028 0 (18 - m).toNat w)) (fun r => r.1 = cov t a b u v 12 0 ∧ FX (fun f _ => f = 1028) S r.2) := by
        intro S2 w F2 h2 hw
        refine ih _ ⟨by omega, FX_sI F2 rfl, fun i p q => ?_⟩
        rw [gI_sI, show m + 1 - 7 = m - 7 + 1 by omega]
        by_cases z : i = 18 - m
        · rw [if_pos ⟨rfl, rfl, by rw [z]⟩, hw, z]
        · rw [if_neg (fun e => z (by have := e.2.2; omega)), cov_up (by omega), if_neg (by omega)]
          exact h2 i (by omega) q
      have F2 : FX (fun f _ => f = 1028) S (sI S1 1028 0 (18 - m).toNat 0) := FX_sI F rfl
      have h2 : ∀ i : Int, 18 - m < i → i ≤ 18 → gI (sI S1 1028 0 (18 - m).toNat 0) 1028 0 i.toNat = cov t a b u v (m - 7).toNat i := by
        intro i p q
        rw [gI_sI, if_neg (fun e => by have := e.2.2; omega)]
        exact h i p q
      generalize sI S1 1028 0 (18 - m).toNat 0 = S2 at F2 h2
      have cu := cov_up (t := t) (a := a) (b := b) (u := u) (v := v) (m := m - 7) (by omega) (18 - m)
      rw [if_pos (show 18 - m = 11 - (m - 7) by omega)] at cu
      obtain ⟨tg, t01⟩ := hT (18 - m) (by omega) (by omega)
      have tg2 := (F2.1 1000 0 (23 + (18 - m)).toNat (by decide)).trans tg
      rw [if_pos (show jj (18 - m) < 12 by rw [show (12 : Int32) = jj 12 from rfl, jj_lt (by omega) (by omega) (by omega) (by omega)]; omega), jj_add, chk_true (jj_inb (by omega) (by omega) (by omega)), jj_nat (a := 18 - m + a) (by omega) (by omega), h2 (18 - m + a) (by omega) (by omega)]
      have tail : ∀ p r : Int32, p = u + cov t a b u v (m - 7).toNat (18 - m + a) → r = v + cov t a b u v (m - 7).toNat (18 - m + b) → ∀ s0 s1, s1 + s0 = r → wp (f_X10_patches_b92 (f_X10_patches_b26 N n) N (jj a) (jj b) x3 (jj (18 - m)) p s0 s1 S2) (fun r => r.1 = cov t a b u v 12 0 ∧ FX (fun f _ => f = 1028) S r.2) := by
        intro p r hp hr s0 s1 hs
        simp only [f_X10_patches_b92, lt]
        rw [hs, dn, show (23 : Int32) + jj (18 - m) = jj (23 + (18 - m)) from jj_add 23 _, chk_true (jj_inb (by omega) (by omega) (by omega)), jj_nat (a := 23 + (18 - m)) (by omega) (by omega), tg2]
        by_cases z : t (18 - m) = 0
        · rw [z, if_pos (show jj 0 = 0 by decide), show jj (18 - m) + (1 : Int32) = jj (18 - m + 1) from jj_add _ 1, chk_true (jj_inb (by omega) (by omega) (by omega)), chk_true (jj_inb (by omega) (by omega) (by omega)), jj_nat (a := 18 - m) (by omega) (by omega), jj_nat (a := 18 - m + 1) (by omega) (by omega), h2 (18 - m + 1) (by omega) (by omega)]
          rw [if_pos z] at cu
          exact fin S2 _ F2 h2 cu.symm
        · have z1 : t (18 - m) = 1 := by omega
          rw [if_neg z, ← hp, ← hr, ← le_or] at cu
          rw [z1, if_neg (show ¬ jj 1 = 0 by decide), chk_true (jj_inb (by omega) (by omega) (by omega)), chk_true (jj_inb (by omega) (by omega) (by omega)), jj_nat (a := 18 - m) (by omega) (by omega)]
          by_cases y : r ≤ p
          · rw [if_pos y] at cu
            rw [if_pos y]
            exact fin S2 _ F2 h2 cu.symm
          · rw [if_neg y] at cu
            rw [if_neg y]
            exact fin S2 _ F2 h2 cu.symm
      by_cases y : x3 = 0
      · rw [if_pos y] at hu hv
        rw [if_pos y]
        simp only [f_X10_patches_b69, lt]
        rw [jj_add, chk_true (jj_inb (by omega) (by omega) (by omega)), jj_nat (a := 18 - m + b) (by omega) (by omega), h2 (18 - m + b) (by omega) (by omega), if_pos y]
        exact tail _ _ (by rw [Int32.add_comm, ← hu]) rfl _ _ (by rw [Int32.add_comm, ← hv])
      · rw [if_neg y] at hu hv
        rw [if_neg y]
        simp only [f_X10_patches_b69, lt]
        rw [jj_add (18 - m) b, chk_true (jj_inb (by omega) (by omega) (by omega)), jj_nat (a := 18 - m + b) (by omega) (by omega), h2 (18 - m + b) (by omega) (by omega), if_neg y]
        exact tail _ _ (by rw [Int32.add_comm, ← hu]) rfl _ _ (by rw [Int32.add_comm, ← hv])) 19 N 0 S (by decide) (by omega) ⟨by decide, FX_refl _ _, fun i p q => by omega⟩
  obtain ⟨⟨r, S1⟩, e, e1, e2⟩ := H
  have e1 : r = _ := e1
  subst e1
  exact ⟨S1, e, e2⟩
