/-! which: where two sheets differ. -/
theorem i32_dist (x y t : Int32) : (x ||| y) &&& t = (x &&& t) ||| (y &&& t) := by
  apply Int32.toBitVec.inj
  simp only [Int32.toBitVec_and, Int32.toBitVec_or]
  ext i hi
  simp only [BitVec.getElem_and, BitVec.getElem_or]
  cases x.toBitVec[i] <;> cases y.toBitVec[i] <;> cases t.toBitVec[i] <;> rfl
theorem i32_or0 (x y : Int32) : x ||| y = 0 ↔ x = 0 ∧ y = 0 := by
  constructor
  · intro h
    have e1 : x &&& (x ||| y) = x := by
      apply Int32.toBitVec.inj
      simp only [Int32.toBitVec_and, Int32.toBitVec_or]
      ext i hi
      simp only [BitVec.getElem_and, BitVec.getElem_or]
      cases x.toBitVec[i] <;> cases y.toBitVec[i] <;> rfl
    have e2 : y &&& (x ||| y) = y := by
      apply Int32.toBitVec.inj
      simp only [Int32.toBitVec_and, Int32.toBitVec_or]
      ext i hi
      simp only [BitVec.getElem_and, BitVec.getElem_or]
      cases x.toBitVec[i] <;> cases y.toBitVec[i] <;> rfl
    rw [h, Int32.and_zero] at e1 e2
    exact ⟨e1.symm, e2.symm⟩
  · rintro ⟨rfl, rfl⟩
    decide
theorem bit_ne {c : Int} (h : 0 ≤ c) (h2 : c < 12) : ¬ ((1 : Int32) <<< (jj c &&& 31)) = 0 := by
  have : ∀ n : Fin 12, ¬ ((1 : Int32) <<< (jj n.val &&& 31)) = 0 := by decide
  have q := this ⟨c.toNat, by omega⟩
  simp only [Int.toNat_of_nonneg h] at q
  exact q
theorem x_unlike {S : St} {N j k : Nat} {a b : Int → Int} {ea eb : Int} (hN : 4000 < N) (h1 : CC S j a) (h2 : CC S k b) (b1 : CB a) (b2 : CB b) (g1 : gI S 405 j 0 = jj ea) (g2 : gI S 405 k 0 = jj eb) (ha : 0 ≤ ea ∧ ea ≤ 100000000) (hb : 0 ≤ eb ∧ eb ≤ 100000000) : ∃ x, f_X4_unlike N j k S = some x ∧ (x = 0 ↔ (∀ c : Int, 0 ≤ c → c < 12 → a c = b c) ∧ ea = eb) ∧ ∀ t : Int32, ((4096 : Int32) &&& t = 0 ∨ ea = eb) → (∀ c : Int, 0 ≤ c → c < 12 → a c ≠ b c → ((1 : Int32) <<< (jj c &&& 31)) &&& t = 0) → x &&& t = 0 := by
  have loop : ∀ x0 : Int32, (x0 = 0 ↔ ea = eb) → (∀ t : Int32, ((4096 : Int32) &&& t = 0 ∨ ea = eb) → x0 &&& t = 0) → wp (f_X4_unlike_b21 N j k N x0 (jj 0) S) (fun x => (x = 0 ↔ (∀ c : Int, 0 ≤ c → c < 12 → a c = b c) ∧ ea = eb) ∧ ∀ t : Int32, ((4096 : Int32) &&& t = 0 ∨ ea = eb) → (∀ c : Int, 0 ≤ c → c < 12 → a c ≠ b c → ((1 : Int32) <<< (jj c &&& 31)) &&& t = 0) → x &&& t = 0) := by
    intro x0 hx0 ht0
    refine wp_up (F := fun n (x : Int32) i => f_X4_unlike_b21 N j k n x (jj i) S) (P := fun i x => 0 ≤ i ∧ (x = 0 ↔ (∀ c : Int, 0 ≤ c → c < i → a c = b c) ∧ ea = eb) ∧ ∀ t : Int32, ((4096 : Int32) &&& t = 0 ∨ ea = eb) → (∀ c : Int, 0 ≤ c → c < i → a c ≠ b c → ((1 : Int32) <<< (jj c &&& 31)) &&& t = 0) → x &&& t = 0) (E := 12) ?_ ?_ 12 N 0 x0 (by decide) (by omega) ⟨by decide, ⟨fun q => ⟨fun c p r => by omega, hx0.1 q⟩, fun q => hx0.2 q.2⟩, fun t q _ => ht0 t q⟩
    · intro n x ⟨i0, q1, q2⟩
      simp only [f_X4_unlike_b21]
      rw [if_pos (show (12 : Int32) ≤ jj 12 by rw [jj_of]; exact Int32.le_refl _)]
      exact wp_some ⟨q1, q2⟩
    · intro n x i hi ⟨i0, q1, q2⟩ ih
      have y1 := b1 i i0 hi
      have y2 := b2 i i0 hi
      simp only [f_X4_unlike_b21, lt]
      rw [if_neg (show ¬ (12 : Int32) ≤ jj i by rw [show (12 : Int32) = jj 12 from rfl, jj_le (by omega) (by omega) (by omega) (by omega)]; omega), chk_true (jj_inb i0 (by omega) (by omega)), chk_true (jj_inb i0 (by omega) (by omega)), jj_nat (a := i) (by omega) (by omega), h1 i i0 hi, h2 i i0 hi, show jj i + (1 : Int32) = jj (i + 1) from jj_add i 1]
      by_cases z : a i = b i
      · rw [if_pos (show jj (a i) = jj (b i) by rw [z])]
        refine ih x ⟨by omega, ⟨fun q => ⟨fun c p r => ?_, (q1.1 q).2⟩, fun q => q1.2 ⟨fun c p r => q.1 c p (by omega), q.2⟩⟩, fun t w1 w2 => q2 t w1 (fun c p r => w2 c p (by omega))⟩
        by_cases y : c = i
        · rw [y]; exact z
        · exact (q1.1 q).1 c p (by omega)
      · rw [if_neg (show ¬ jj (a i) = jj (b i) by rw [jj_eq (by omega) (by omega) (by omega) (by omega)]; exact z)]
        refine ih _ ⟨by omega, ⟨fun q => absurd ((i32_or0 _ _).1 q).2 (bit_ne i0 hi), fun q => absurd (q.1 i i0 (by omega)) z⟩, fun t w1 w2 => ?_⟩
        rw [i32_dist, q2 t w1 (fun c p r => w2 c p (by omega)), w2 i i0 (by omega) z]
        decide
  unfold f_X4_unlike
  rw [g1, g2]
  by_cases z : ea = eb
  · rw [if_pos (show jj ea = jj eb by rw [z])]
    obtain ⟨x, e, q⟩ := loop 0 ⟨fun _ => z, fun _ => rfl⟩ (fun t _ => Int32.zero_and)
    exact ⟨x, e, q⟩
  · rw [if_neg (show ¬ jj ea = jj eb by rw [jj_eq (by omega) (by omega) (by omega) (by omega)]; exact z)]
    obtain ⟨x, e, q⟩ := loop 4096 ⟨fun w => absurd w (by decide), fun w => absurd w z⟩ (fun t w => w.elim id (fun y => absurd y z))
    exact ⟨x, e, q⟩
