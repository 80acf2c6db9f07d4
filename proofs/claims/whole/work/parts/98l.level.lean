/-! CALL: level. -/
def tgt (q : Int32) (i : Int) : Int32 := if (q - q / (12 : Int32) * (12 : Int32)) ≤ jj i then q / (12 : Int32) + (0 : Int32) else q / (12 : Int32) + (1 : Int32)
theorem x_fill {S : St} {N : Nat} (q : Int32) : ∀ (m n : Nat) (k : Int) (S1 : St), k + m = 12 → m < n → 0 ≤ k → FX (fun f _ => f = 300) S S1 → (∀ i : Int, 0 ≤ i → i < k → gI S1 300 0 i.toNat = tgt q i) → ∃ S2, FX (fun f _ => f = 300) S S2 ∧ (∀ i : Int, 0 ≤ i → i < 12 → gI S2 300 0 i.toNat = tgt q i) ∧ f_X3_wayToLevel_b10 N 0 n q (jj k) S1 = (bnd (f_X3_way_cr N 0 S2 ) fun q2 => some (q2, S2)) := by
  intro m
  induction m with
  | zero =>
    intro n k S1 e hn k0 F h
    obtain ⟨n, rfl⟩ : ∃ n', n = n' + 1 := ⟨n - 1, by omega⟩
    have : k = 12 := by omega
    subst this
    refine ⟨S1, F, h, ?_⟩
    simp only [f_X3_wayToLevel_b10]
    rw [if_pos (show (12 : Int32) ≤ jj 12 by rw [jj_of]; exact Int32.le_refl _)]
  | succ m ih =>
    intro n k S1 e hn k0 F h
    obtain ⟨n, rfl⟩ : ∃ n', n = n' + 1 := ⟨n - 1, by omega⟩
    have hk2 : ¬ 12 ≤ k := by omega
    have st : ∀ v, v = tgt q k → ∃ S2, FX (fun f _ => f = 300) S S2 ∧ (∀ i : Int, 0 ≤ i → i < 12 → gI S2 300 0 i.toNat = tgt q i) ∧ f_X3_wayToLevel_b10 N 0 n q (jj (k + 1)) (sI S1 300 0 k.toNat v) = (bnd (f_X3_way_cr N 0 S2 ) fun q2 => some (q2, S2)) := by
      intro v hv
      refine ih n (k + 1) _ (by omega) (by omega) (by omega) (FX_sI F rfl) (fun i a b => ?_)
      rw [gI_sI]
      by_cases w : i = k
      · rw [if_pos ⟨rfl, rfl, by rw [w]⟩, hv, w]
      · rw [if_neg (fun z => w (by have := z.2.2; omega))]
        exact h i a (by omega)
    simp only [f_X3_wayToLevel_b10]
    rw [if_neg (show ¬ (12 : Int32) ≤ jj k by rw [show (12 : Int32) = jj 12 from rfl, jj_le (by omega) (by omega) (by omega) (by omega)]; exact hk2)]
    by_cases w : (q - q / (12 : Int32) * (12 : Int32)) ≤ jj k
    · rw [if_pos w, chk_true (by rw [show (13 : Nat) = 13 from rfl]; exact jj_inb k0 (by omega) (by omega)), jj_nat (by omega) (by omega)]
      simp only [lt]
      rw [show jj k + (1 : Int32) = jj (k + 1) from jj_add k 1]
      exact st _ (by unfold tgt; rw [if_pos w])
    · rw [if_neg w, chk_true (by rw [show (13 : Nat) = 13 from rfl]; exact jj_inb k0 (by omega) (by omega)), jj_nat (by omega) (by omega)]
      simp only [lt]
      rw [show jj k + (1 : Int32) = jj (k + 1) from jj_add k 1]
      exact st _ (by unfold tgt; rw [if_neg w])
theorem k_level {S : St} {N : Nat} {T : Int} (hN : 4000 < N) (t0 : 0 ≤ T) (t1 : T < 512) (hI : INV T S) : TWO (fun S => f_X9_level N S) (fun S => bnd (f_X10_level N S) fun q => some (q, S)) T S := by
  obtain ⟨c, h1, h2, h3, h4⟩ := shp t0 t1 hI
  have e1 := q_sum h1 (show 20 < N by omega) (show (0 : Int) ≤ 0 by decide) (show (0 : Int) ≤ 12 by decide) (by decide)
  obtain ⟨S2, F, h, e2⟩ := x_fill (S := S) (N := N) (jj (pre c (12 : Int).toNat - pre c (0 : Int).toNat)) 12 N 0 S (by decide) (by omega) (by decide) (FX_refl _ _) (fun i a b => by omega)
  have c1 : CC S2 0 c := fun i a b => (F.1 400 0 _ (by decide)).trans (h1 i a b)
  have c2 : CA S2 c := fun i a b => (F.1 1000 0 _ (by decide)).trans (h2 i a b)
  have e3 := q_doughOf c2 (show 20 < N by omega) (a := 0) (m := 12) (by decide) (by decide) (by decide)
  generalize hq : jj (pre c (12 : Int).toNat - pre c (0 : Int).toNat) = q at e1 e2 h
  have := two_rule (F := fun n (a : Int32 × Int32) k => f_X3_way_cr_b7 N 0 n a.1 a.2 (jj k) S2) (G := fun n (a : Int32 × Int32) k => f_X10_level_b15 N n q a.2 a.1 (jj k) S2) (P := fun k a => 0 ≤ k) (Q := fun r => True) (E := 12) (by
    intro n n' a k0
    simp only [f_X3_way_cr_b7, f_X10_level_b15]
    rw [if_pos (show (12 : Int32) ≤ jj 12 by rw [jj_of]; exact Int32.le_refl _), if_pos (show (12 : Int32) ≤ jj 12 by rw [jj_of]; exact Int32.le_refl _)]
    exact ⟨_, rfl, rfl, trivial⟩) (by
    intro n n' a k hk k0 ih
    have hk2 : ¬ (12 : Int32) ≤ jj k := by
      rw [show (12 : Int32) = jj 12 from rfl, jj_le (by omega) (by omega) (by omega) (by omega)]
      omega
    have x1 := c1 k k0 hk
    have x2 := h k k0 hk
    have y1 := c2 k k0 hk
    simp only [f_X3_way_cr_b7, f_X10_level_b15]
    rw [if_neg hk2, if_neg hk2, chk_true (jj_inb k0 (by omega) (by omega)), chk_true (jj_inb k0 (by omega) (by omega)), show (11 : Int32) + jj k = jj (11 + k) from jj_add 11 k, chk_true (jj_inb (by omega) (by omega) (by omega)), jj_nat (a := k) (by omega) (by omega), jj_nat (a := 11 + k) (by omega) (by omega), x1, x2, y1]
    simp only [lt, f_X10_level_b52, size_of, bnd]
    rw [show jj k + (1 : Int32) = jj (k + 1) from jj_add k 1]
    unfold tgt
    by_cases w : (q - q / (12 : Int32) * (12 : Int32)) ≤ jj k
    · rw [if_pos w, if_pos w, show jj (c k) - (q / 12 + 0) = jj (c k) - q / 12 - 0 by rw [Int32.add_zero, Int32.sub_zero]]
      exact ih (_, _) (by omega)
    · rw [if_neg w, if_neg w, show jj (c k) - (q / 12 + 1) = jj (c k) - q / 12 - 1 by rw [Int32.sub_sub]]
      exact ih (_, _) (by omega)) 12 N N 0 (0, 0) (by decide) (by omega) (by omega) (by decide)
  obtain ⟨r, e4, e5, -⟩ := this
  refine ⟨r, S2, S2, ?_, ?_, SCR_of t0 t1 hI (FX_sub F (fun f j q => Or.inl q))⟩
  · show f_X9_level N S = _
    unfold f_X9_level f_X3_wayToLevel
    rw [show (0 : Int32) = jj 0 from rfl, show (12 : Int32) = jj 12 from rfl, bnd_of e1, e2]
    have e4' : f_X3_way_cr N 0 S2 = some r := e4
    rw [bnd_of e4', bnd_of rfl]
  · show (bnd (f_X10_level N S2) fun q => some (q, S2)) = _
    have : f_X10_level N S2 = some r := by
      unfold f_X10_level
      rw [show (0 : Int32) = jj 0 from rfl, show (12 : Int32) = jj 12 from rfl, bnd_of e3]
      have : jj (pre c (0 + 12 : Int).toNat - pre c (0 : Int).toNat) = q := hq
      rw [this]
      exact e5
    rw [bnd_of this]
