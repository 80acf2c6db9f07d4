/-! THE FIRST STATE. -/
def A0 : Int → Int := fun i => if i = 3 then -1 else if i = 7 then 281 else if 11 ≤ i ∧ i < 23 then 20 else 0
def i_row (k : Int) : Int → Int := fun i => if i = 3 then -1 else if i = 7 then 281 else if 11 ≤ i ∧ i < 11 + k then 20 else 0
theorem i_row_12 : i_row 12 = A0 := rfl
theorem i_init {N : Nat} (hN : 4000 < N) : ∃ S', f_X10_initb N S00 = some S' ∧ (AR 1000 S' A0 ∧ AR 1001 S' A0 ∧ FX (fun f _ => f = 1000 ∨ f = 1001) S00 S') := by
  have e0 : f_X10_initb N S00 = f_X10_init_b142 N N (jj 0) (sI (sI S00 1000 0 7 (281 : Int32)) 1000 0 3 (-1 : Int32)) := by
    rw [show jj 0 = (0 : Int32) from by decide]
    unfold f_X10_initb
    rfl
  rw [e0]
  refine wp_up (F := fun n S1 k => f_X10_init_b142 N n (jj k) S1) (P := fun k S1 => 0 ≤ k ∧ FX (fun f _ => f = 1000) S00 S1 ∧ ∀ i : Int, 0 ≤ i → i < 3015 → gI S1 1000 0 i.toNat = jj (i_row k i)) (E := 12) ?_ ?_ 12 N 0 _ (by omega) (by omega) ⟨by omega, FX_sI (FX_sI (FX_refl _ _) rfl) rfl, fun i a b => ?_⟩
  · intro n S1 ⟨k0, F1, h⟩
    rw [f_X10_init_b142]
    rw [if_pos (show (12 : Int32) ≤ jj 12 by decide)]
    obtain ⟨S', e, h1, F2⟩ := r_copy_ai (A := A0) hN (fun k a b => by rw [h k a b, i_row_12])
    refine ⟨S', ?_, fun k a b => ?_, h1, FX_trans (FX_sub F1 (fun f _ z => Or.inl z)) (FX_sub F2 (fun f _ z => Or.inr z))⟩
    · rw [bnd_of e]
    · rw [F2.1 1000 0 _ (by omega), h k a b, i_row_12]
  · intro n S1 k hk ⟨k0, F1, h⟩ ih
    have hk2 : ¬ 12 ≤ k := by omega
    simp only [f_X10_init_b142]
    simp (disch := omega) only [jj_of, jj_add, jj_sub, jj_mul, jj_neg, jj_le, jj_lt, jj_eq, jj_nat, chk_true (jj_inb _ _ _), chk_true (jj_nz _ _ _), lt, if_true, if_false, reduceIte, hk2]
    refine ih _ ⟨by omega, FX_sI F1 rfl, fun i a b => ?_⟩
    rw [gI_sI]
    by_cases w : i = 11 + k
    · rw [if_pos ⟨rfl, rfl, by rw [w]⟩]
      unfold i_row
      rw [if_neg (show ¬ i = 3 by omega), if_neg (show ¬ i = 7 by omega), if_pos (show 11 ≤ i ∧ i < 11 + (k + 1) by omega)]
    · rw [if_neg (fun z => w (by have := z.2.2; omega)), h i a b]
      unfold i_row
      by_cases c : 11 ≤ i ∧ i < 11 + k
      · rw [if_pos c, if_pos (show 11 ≤ i ∧ i < 11 + (k + 1) by omega)]
      · rw [if_neg c, if_neg (show ¬ (11 ≤ i ∧ i < 11 + (k + 1)) by omega)]
  · rw [gI_sI]
    by_cases c : i = 3
    · rw [if_pos ⟨rfl, rfl, by rw [c]; rfl⟩]
      unfold i_row
      rw [if_pos c]
      decide
    · rw [if_neg (fun z => c (by have := z.2.2; omega)), gI_sI]
      by_cases d : i = 7
      · rw [if_pos ⟨rfl, rfl, by rw [d]; rfl⟩]
        unfold i_row
        rw [if_neg c, if_pos d]
        decide
      · rw [if_neg (fun z => d (by have := z.2.2; omega))]
        unfold i_row
        rw [if_neg c, if_neg d, if_neg (show ¬ (11 ≤ i ∧ i < 11 + 0) by omega)]
        show (0 : Int32) = jj 0
        decide
theorem A0_cell {c : Int} (h : 0 ≤ c) (h2 : c < 12) : A0 (11 + c) = 20 := by
  unfold A0
  rw [if_neg (show ¬ 11 + c = 3 by omega), if_neg (show ¬ 11 + c = 7 by omega), if_pos (show 11 ≤ 11 + c ∧ 11 + c < 23 by omega)]
theorem A0_hi {c : Int} (h : 23 ≤ c) : A0 c = 0 := by
  unfold A0
  rw [if_neg (show ¬ c = 3 by omega), if_neg (show ¬ c = 7 by omega), if_neg (show ¬ (11 ≤ c ∧ c < 23) by omega)]
theorem A0_0 : A0 0 = 0 := by decide
theorem A0_1 : A0 1 = 0 := by decide
theorem A0_2 : A0 2 = 0 := by decide
theorem A0_3 : A0 3 = -1 := by decide
theorem A0_4 : A0 4 = 0 := by decide
theorem A0_5 : A0 5 = 0 := by decide
theorem A0_6 : A0 6 = 0 := by decide
theorem A0_7 : A0 7 = 281 := by decide
theorem A0_8 : A0 8 = 0 := by decide
theorem A0_9 : A0 9 = 0 := by decide
theorem A0_10 : A0 10 = 0 := by decide
theorem jz0 : (0 : Int32) = jj 0 := by decide
theorem jm1 : (-1 : Int32) = jj (-1) := by decide
theorem i_wld {R : St} (w : Nat) (G : ∀ f j i, f ≠ 1000 → f ≠ 1001 → gI R f j i = gI S00 f j i) : WLD R w A0 := by
  have Z : ∀ f j i, f ≠ 1000 → f ≠ 1001 → gI S00 f j i = 0 → gI R f j i = jj 0 := fun f j i a b c => by rw [G f j i a b, c]; exact jz0
  refine ⟨⟨?_, ?_, ?_, ?_, ?_, fun h a b => ?_, fun k a b => ?_⟩, ⟨⟨fun c a b => ?_, ⟨0, by decide, ?_, fun c hc => ?_⟩, ?_, ?_⟩, ?_, ?_, fun t a b => ?_, fun _ => ⟨0, ?_, by decide, by decide, by rw [A0_10]; rfl, fun i a b => ?_⟩⟩, ?_, 0, by decide, by decide, ?_, fun k a b => ?_⟩
  · rw [A0_0]; exact Z _ _ _ (by decide) (by decide) rfl
  · rw [A0_1]; exact Z _ _ _ (by decide) (by decide) rfl
  · rw [A0_2]; exact Z _ _ _ (by decide) (by decide) rfl
  · rw [A0_3, G _ _ _ (by decide) (by decide)]; exact jm1
  · rw [A0_5]; exact Z _ _ _ (by decide) (by decide) rfl
  · rw [A0_0] at b; omega
  · rw [A0_5] at b; omega
  · rw [A0_cell a b, G _ _ _ (by decide) (by decide)]; show (20 : Int32) = jj 20; decide
  · exact Z _ _ _ (by decide) (by decide) rfl
  · show A0 (23 + (c : Int)) = _
    rw [A0_hi (by omega), Nat.zero_testBit]; rfl
  · rw [A0_9]; exact Z _ _ _ (by decide) (by decide) rfl
  · rw [A0_6]; exact Z _ _ _ (by decide) (by decide) rfl
  · rw [A0_8]; exact Z _ _ _ (by decide) (by decide) rfl
  · rw [A0_7, G _ _ _ (by decide) (by decide)]; show (281 : Int32) = jj 281; decide
  · have e : hmA A0 t = -2 := by
      unfold hmA
      rw [A0_1, if_neg (show ¬ t < 0 by omega)]
    rw [e, G _ _ _ (by decide) (by decide)]; show (-2 : Int32) = jj (-2); decide
  · exact Z _ _ _ (by decide) (by decide) rfl
  · rw [A0_10] at b; omega
  · rw [A0_4]; exact Z _ _ _ (by decide) (by decide) rfl
  · exact Z _ _ _ (by decide) (by decide) rfl
  · rw [A0_4] at b; omega
theorem i_num : NUM A0 (MT 0) := by
  refine ⟨⟨⟨fun c a b => by rw [A0_cell a b]; decide, fun c a b => Or.inl (A0_hi (by omega)), by decide, by decide, ?_, by decide, by decide, by decide, by decide, by decide, by decide, fun i a b => by rw [A0_10] at b; omega⟩, ⟨by decide, by decide, fun t a b => by rw [A0_1] at b; omega⟩, ⟨by decide, by decide, fun t a b => by rw [A0_0] at b; omega⟩, by decide⟩, by decide, by decide, by decide, by decide, by decide, by decide, by decide, by decide, fun t a b => by rw [A0_1] at b; omega, fun t a b => by rw [A0_5] at b; omega, fun t a b => by rw [A0_4] at b; omega⟩
  have e : pre (fun c => A0 (11 + c)) 12 = 240 := by decide +kernel
  rw [e, A0_8, A0_9]
  decide
theorem i_evm {R : St} {sort m : Int} : EVM R (-1) sort m none := by
  intro S1 N nv cs w top hN _ _ _ _ w0 w1 t1
  refine ⟨S1, ?_, FX_refl _ _⟩
  have hq : f_X10_says N S1 (jj (-1)) (jj sort) (jj w) (jj top) = f_X10_says_b63 N (jj w) (jj top) S1 := by
    obtain ⟨n, rfl⟩ : ∃ n, N = n + 1 := ⟨N - 1, by omega⟩
    unfold f_X10_says
    rw [f_X10_says_b3]
    exact if_pos (show jj (-1) < (0 : Int32) by decide)
  rw [hq]
  unfold f_X10_says_b63
  rw [jj_long (by omega) (by omega), bnd_of (r_cut (by omega) (by omega) (by omega) t1), if_neg (show ¬ w < 0 by omega), if_neg (show ¬ top < w by omega)]
  rfl
theorem i_inv {R : St} (h0 : AR 1000 R A0) (h1 : AR 1001 R A0) (F : FX (fun f _ => f = 1000 ∨ f = 1001) S00 R) : INV 0 R := by
  have G : ∀ f j i, f ≠ 1000 → f ≠ 1001 → gI R f j i = gI S00 f j i := fun f j i a b => F.1 f j i (by omega)
  have Z : ∀ f j i, f ≠ 1000 → f ≠ 1001 → gI S00 f j i = 0 → gI R f j i = jj 0 := fun f j i a b c => by rw [G f j i a b, c]; exact jz0
  have gr : ∀ w t, gR R 807 w t = 0 := fun w t => F.2.2.1 807 w t (by omega)
  refine ⟨A0, A0, h0, h1, i_wld 0 G, i_wld 1 G, i_num, i_num, fun j hj => ⟨0, Z _ _ _ (by decide) (by decide) rfl, by decide, by decide⟩, ?_, ⟨0, fun _ => 0, Z _ _ _ (by decide) (by decide) rfl, Z _ _ _ (by decide) (by decide) rfl, by decide, by decide, fun i a b => by omega⟩, Or.inl ⟨G _ _ _ (by decide) (by decide), G _ _ _ (by decide) (by decide), G _ _ _ (by decide) (by decide)⟩, ⟨fun _ => none, fun _ => none, fun L a b => ?_⟩, fun L a b => ?_, Int.le_refl _, fun L a b => ?_, fun w t _ _ => Or.inl (gr w t), fun n _ => ?_⟩
  · rw [G _ _ _ (by decide) (by decide)]; show (1 : Int32) = jj 1; decide
  · rw [A0_2] at b
    have eL : L = -1 := by omega
    subst eL
    refine ⟨⟨⟨1, ?_, rfl⟩, 1, ?_, rfl⟩, i_evm, i_evm⟩
    · unfold f_X8_movesOf
      exact if_pos (show jj (-1) < (0 : Int32) by decide)
    · unfold f_X8_tearsOf
      exact if_pos (show jj (-1) < (0 : Int32) by decide)
  · rw [A0_2] at b; omega
  · rw [A0_2] at b; omega
  · show R.2.2.2.1 n = none
    rw [F.2.2.2]; rfl
theorem pure_true : PURE := by
  intro xs sL hs
  have hN : 200000000 < 200000001 := by decide
  obtain ⟨r0, e, h0, h1, F⟩ := i_init (N := 200000001) (Nat.lt_trans (by decide) hN)
  obtain ⟨r, hr⟩ := law_loop (xs := xs) hN hs 512 0 r0 rfl (i_inv h0 h1 F)
  have hr : f_L_law_b18 xs sL 200000001 513 (jj (6 * ((0 : Nat) : Int))) r0 = some ((1 : Int32), r) := hr
  rw [show jj (6 * ((0 : Nat) : Int)) = (0 : Int32) from by decide] at hr
  exact ⟨200000001, r0, r, e, hr⟩
