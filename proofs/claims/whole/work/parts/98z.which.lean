/-! which: the row it starts from; the reference's test. -/
def IMG (A B : Int → Int) : Int → Int := fun i => if (11 ≤ i ∧ i < 35) ∨ i = 9 then B i else A i
def LKE (X A : Int → Int) : Prop := (∀ i : Int, 11 ≤ i → i < 35 → X i = A i) ∧ X 9 = A 9
theorem IMG_OKS {A B : Int → Int} {M : Int} (hA : OKS A M) (hB : OKS B M) (hM : 2 * M ≤ 100000000) : OKS (IMG A B) (2 * M) := by
  have in1 : ∀ c : Int, 0 ≤ c → c < 12 → IMG A B (11 + c) = B (11 + c) := fun c a b => if_pos (Or.inl (by omega))
  have in2 : ∀ c : Int, 0 ≤ c → c < 12 → IMG A B (23 + c) = B (23 + c) := fun c a b => if_pos (Or.inl (by omega))
  have out : ∀ i : Int, i < 9 ∨ i = 10 ∨ 35 ≤ i → IMG A B i = A i := fun i a => if_neg (by omega)
  have i9 : IMG A B 9 = B 9 := if_pos (Or.inr rfl)
  obtain ⟨⟨a1, a2, a3, a4, a5, a6, a7, a8, a9, a10, a11, a12⟩, ⟨t1, t2, t3⟩, ⟨u1, u2, u3⟩, m⟩ := hA
  obtain ⟨⟨b1, b2, b3, b4, b5, -⟩, -⟩ := hB
  have pa := (pre_pos (f := fun c => A (11 + c)) 12 (fun i q q2 => a1 i q (by omega))).1
  have pe : ∀ m : Nat, m ≤ 12 → pre (fun c => IMG A B (11 + c)) m = pre (fun c => B (11 + c)) m := by
    intro m
    induction m with
    | zero => intro _; rfl
    | succ m ih =>
      intro hm
      show pre (fun c => IMG A B (11 + c)) m + IMG A B (11 + (m : Int)) = pre (fun c => B (11 + c)) m + B (11 + (m : Int))
      rw [ih (by omega), in1 m (by omega) (by omega)]
  refine ⟨⟨fun c a b => by rw [in1 c a b]; exact b1 c a b, fun c a b => by rw [in2 c a b]; exact b2 c a b, by rw [i9]; exact b3, by rw [out 8 (by decide)]; exact a4, ?_, by rw [out 6 (by decide)]; exact a6, by rw [out 6 (by decide)]; exact a7, by rw [out 7 (by decide)]; exact a8, by rw [out 7 (by decide)]; exact a9, by rw [out 10 (by decide)]; exact a10, by rw [out 10 (by decide)]; exact a11, ?_⟩, ⟨by rw [out 1 (by decide)]; exact t1, by rw [out 1 (by decide)]; exact t2, fun t a b => ?_⟩, ⟨by rw [out 0 (by decide)]; exact u1, by rw [out 0 (by decide)]; exact u2, fun t a b => ?_⟩, hM⟩
  · rw [pe 12 (by decide), i9, out 8 (by decide)]
    omega
  · intro i a b
    rw [out 10 (by decide)] at b
    have := a12 i a b
    unfold bkA at *
    rw [out _ (by omega), out _ (by omega)]
    exact this
  · rw [out 1 (by decide)] at b
    rw [out _ (by omega)]
    exact t3 t a b
  · rw [out 0 (by decide)] at b
    rw [out _ (by omega)]
    exact u3 t a b
theorem and_01 (x : Int32) (h : x = 0 ∨ x = 1) : x &&& 1 = x ∧ x &&& 0 = 0 ∧ 1 &&& x = x := by
  rcases h with rfl | rfl <;> decide
theorem r_isMade {S : St} {N : Nat} {A B : Int → Int} {M h code : Int} {em et : Sem} {L : Nat} (hN : 4000 < N) (hO : OKS (IMG A B) M) (hC : RC S A em et) (hB : AR 1001 S B) (h0 : 0 ≤ h ∧ h < A 0) (c0 : 0 ≤ code) (c1 : code < 24 ^ L) (c2 : code ≤ 100000) (hL : L ≤ 3) (nA : ∀ i : Int, 9 ≤ i → i < 35 → i ≠ 10 → 0 ≤ A i ∧ A i ≤ 100000000) : ∃ v S', f_X10_isMade N S (jj h) (jj code) (jj (L : Int)) = some (v, S') ∧ RC S' A em et ∧ FX (fun f _ => f = 1000 ∨ (1020 ≤ f ∧ f ≤ 1025)) S S' ∧ ((v = 0 ∧ ¬ ∃ X, RUN em et h L (IMG A B) code = some X ∧ LKE X A) ∨ (v = 1 ∧ ∃ X, RUN em et h L (IMG A B) code = some X ∧ LKE X A)) := by
  have out : ∀ i : Int, i < 9 ∨ i = 10 ∨ 35 ≤ i → IMG A B i = A i := fun i a => if_neg (by omega)
  obtain ⟨S1, e1, a1, w1, F1⟩ := r_setAside hN hC.1
  have A1 := FX_AR F1 (f := 1000) (by omega) hC.1
  have B1 := FX_AR F1 (f := 1001) (by omega) hB
  unfold f_X10_isMade
  rw [bnd_of e1]
  have H := wp_up (F := fun n (S2 : St) k => f_X10_isMade_b8 N n (jj h) (jj code) (jj (L : Int)) (jj k) S2) (P := fun k S2 => 11 ≤ k ∧ FX (fun f _ => f = 1000) S1 S2 ∧ AR 1000 S2 (fun i => if 11 ≤ i ∧ i < k then B i else A i)) (Q := fun q => RC q.2 A em et ∧ FX (fun f _ => f = 1000 ∨ (1020 ≤ f ∧ f ≤ 1025)) S q.2 ∧ ((q.1 = 0 ∧ ¬ ∃ X, RUN em et h L (IMG A B) code = some X ∧ LKE X A) ∨ (q.1 = 1 ∧ ∃ X, RUN em et h L (IMG A B) code = some X ∧ LKE X A))) (E := 35) (by
    intro n S2 ⟨k0, F2, R2⟩
    have g9 : gI S2 1001 0 9 = jj (B 9) := (F2.1 1001 0 9 (by decide)).trans (B1 9 (by decide) (by decide))
    have R3 : AR 1000 (sI S2 1000 0 9 (jj (B 9))) (IMG A B) := AR_ext (AR_set R2 (k := 9) (v := B 9) (by decide)) (fun i a b => by
      unfold IMG
      rw [UP_at]
      by_cases z : i = 9
      · rw [if_pos z, if_pos (Or.inr z), z]
      · rw [if_neg z]
        by_cases y : 11 ≤ i ∧ i < 35
        · rw [if_pos y, if_pos (Or.inl y)]
        · rw [if_neg y, if_neg (by omega)])
    have F3 : FX (fun f _ => f = 1000) S1 (sI S2 1000 0 9 (jj (B 9))) := FX_sI F2 rfl
    simp only [f_X10_isMade_b8, lt]
    rw [if_pos (show (35 : Int32) ≤ jj 35 by rw [jj_of]; exact Int32.le_refl _), g9]
    generalize sI S2 1000 0 9 (jj (B 9)) = S3 at R3 F3
    obtain ⟨v, S4, X, e4, R4, O4, g4, F4, cs⟩ := r_are (S := S3) (N := N) (A := IMG A B) (M := M) (h := h) (em := em) (et := et) (L := L) (code := code) hN hO (by rw [out 3 (by decide)]; exact RLW_of hC.2.1 (fun i => (F3.1 1002 0 i (by decide)).trans (F1.1 1002 0 i (by omega)))) ((F3.1 1023 0 0 (by decide)).trans w1) (by rw [out 0 (by decide)]; exact h0) c0 c2 hL L N 0 (IMG A B) S3 (by omega) (by decide) (by omega) hO (fun _ _ => rfl) R3 (FX_refl _ _)
    rw [Int.emod_eq_of_lt c0 c1] at cs
    have a4 : ASD S4 A := fun k a b => (F4.1 1025 0 _ (by unfold STF; omega)).trans ((F3.1 1025 0 _ (by decide)).trans (a1 k a b))
    rw [are_6 hN hL, bnd_of e4]
    have v01 : v = 0 ∨ v = 1 := by
      rcases cs with ⟨q, _⟩ | ⟨q, _⟩
      · exact Or.inr q
      · exact Or.inl q
    obtain ⟨S5, e5, R5, w5, F5⟩ := r_putBack hN R4 a4
    have FF : FX (fun f _ => f = 1000 ∨ (1020 ≤ f ∧ f ≤ 1025)) S S5 := FX_trans (FX_sub F1 (fun f _ q => by omega)) (FX_trans (FX_sub F3 (fun f _ q => by omega)) (FX_trans (FX_sub F4 (fun f _ q => by unfold STF at q; omega)) (FX_sub F5 (fun f _ q => by omega))))
    have RC5 : RC S5 A em et := ⟨AR_ext R5 (fun i a b => by
      by_cases z : 6 ≤ i ∧ i < 41
      · rw [if_pos z]
      · rw [if_neg z, g4 i (by omega), out i (by omega)]), RLW_of hC.2.1 (fun i => FF.1 1002 0 i (by omega)), w5⟩
    have nX : ∀ i : Int, 9 ≤ i → i < 35 → i ≠ 10 → 0 ≤ X i ∧ X i ≤ 100000000 := by
      intro i a b d
      have rb := OKR_RB O4.1 O4.2.2.2
      by_cases z : i = 9
      · rw [z]; exact ⟨rb.2.2.1, rb.2.2.2.1⟩
      · by_cases y : i < 23
        · have := rb.1 (i - 11) (by omega) (by omega)
          rw [show 11 + (i - 11) = i by omega] at this
          exact this
        · have := rb.2.1 (i - 23) (by omega) (by omega)
          rw [show 23 + (i - 23) = i by omega] at this
          omega
    refine wp_up (F := fun n (x : Int32) k => f_X10_isMade_b62 N n x (jj k) S4) (P := fun k x => 11 ≤ k ∧ ((x = 1 ∧ v = 1 ∧ ∀ i : Int, 11 ≤ i → i < k → X i = A i) ∨ (x = 0 ∧ ¬ (v = 1 ∧ ∀ i : Int, 11 ≤ i → i < k → X i = A i)))) (E := 35) ?_ ?_ 24 N 11 v (by decide) (by omega) ⟨by decide, by
      rcases v01 with z | z
      · exact Or.inr ⟨z, fun q => by rw [z] at q; exact absurd q.1 (by decide)⟩
      · exact Or.inl ⟨z, z, fun i a b => by omega⟩⟩
    · intro n x ⟨k1, hx⟩
      have x9 : gI S4 1000 0 9 = jj (X 9) := R4 9 (by decide) (by decide)
      have y9 : gI S4 1025 0 9 = jj (A 9) := a4 9 (by decide) (by decide)
      have n1 := nX 9 (by decide) (by decide) (by decide)
      have n2 := nA 9 (by decide) (by decide) (by decide)
      simp only [f_X10_isMade_b62]
      rw [if_pos (show (35 : Int32) ≤ jj 35 by rw [jj_of]; exact Int32.le_refl _), x9, y9]
      have no : ∀ (hn : ¬ (v = 1 ∧ LKE X A)), ¬ ∃ X, RUN em et h L (IMG A B) code = some X ∧ LKE X A := by
        rintro hn ⟨X', rX, lk⟩
        rcases cs with ⟨q1, q2⟩ | ⟨q1, q2⟩
        · rw [q2] at rX
          have := Option.some.inj rX
          subst this
          exact hn ⟨q1, lk⟩
        · rw [q2] at rX
          exact absurd rX (by simp)
      have x01 : x = 0 ∨ x = 1 := by
        rcases hx with ⟨q, _⟩ | ⟨q, _⟩
        · exact Or.inr q
        · exact Or.inl q
      by_cases z : X 9 = A 9
      · rw [if_pos (show jj (X 9) = jj (A 9) by rw [z])]
        unfold f_X10_isMade_b126
        simp only [lt]
        rw [(and_01 x x01).1, bnd_of e5]
        rcases hx with ⟨q, q1, q2⟩ | ⟨q, q1⟩
        · rw [q]
          rcases cs with ⟨r1, r2⟩ | ⟨r1, r2⟩
          · exact wp_some ⟨RC5, FF, Or.inr ⟨rfl, X, r2, q2, z⟩⟩
          · rw [q1] at r1; exact absurd r1 (by decide)
        · rw [q]
          exact wp_some ⟨RC5, FF, Or.inl ⟨rfl, no (fun w => q1 ⟨w.1, w.2.1⟩)⟩⟩
      · rw [if_neg (show ¬ jj (X 9) = jj (A 9) by rw [jj_eq (by omega) (by omega) (by omega) (by omega)]; exact z)]
        unfold f_X10_isMade_b126
        simp only [lt]
        rw [(and_01 x x01).2.1, bnd_of e5]
        exact wp_some ⟨RC5, FF, Or.inl ⟨rfl, no (fun w => z w.2.2)⟩⟩
    · intro n x k hk ⟨k1, hx⟩ ih
      have xk := R4 k (by omega) (by omega)
      have yk := a4 k (by omega) (by omega)
      have n1 := nX k (by omega) (by omega) (by omega)
      have n2 := nA k (by omega) (by omega) (by omega)
      have x01 : x = 0 ∨ x = 1 := by
        rcases hx with ⟨q, _⟩ | ⟨q, _⟩
        · exact Or.inr q
        · exact Or.inl q
      simp only [f_X10_isMade_b62, lt]
      rw [if_neg (show ¬ (35 : Int32) ≤ jj k by rw [show (35 : Int32) = jj 35 from rfl, jj_le (by omega) (by omega) (by omega) (by omega)]; omega), chk_true (jj_inb (by omega) (by omega) (by omega)), chk_true (jj_inb (by omega) (by omega) (by omega)), jj_nat (a := k) (by omega) (by omega), xk, yk, (and_01 x x01).1, (and_01 x x01).2.1, show jj k + (1 : Int32) = jj (k + 1) from jj_add k 1]
      by_cases z : X k = A k
      · rw [if_pos (show jj (X k) = jj (A k) by rw [z])]
        refine ih x ⟨by omega, ?_⟩
        rcases hx with ⟨q, q1, q2⟩ | ⟨q, q1⟩
        · refine Or.inl ⟨q, q1, fun i a b => ?_⟩
          by_cases y : i = k
          · rw [y]; exact z
          · exact q2 i a (by omega)
        · exact Or.inr ⟨q, fun w => q1 ⟨w.1, fun i a b => w.2 i a (by omega)⟩⟩
      · rw [if_neg (show ¬ jj (X k) = jj (A k) by rw [jj_eq (by omega) (by omega) (by omega) (by omega)]; exact z)]
        exact ih 0 ⟨by omega, Or.inr ⟨rfl, fun w => z (w.2 k (by omega) (by omega))⟩⟩) (by
    intro n S2 k hk ⟨k0, F2, R2⟩ ih
    have g := (F2.1 1001 0 k.toNat (by decide)).trans (B1 k (by omega) (by omega))
    simp only [f_X10_isMade_b8, lt]
    rw [if_neg (show ¬ (35 : Int32) ≤ jj k by rw [show (35 : Int32) = jj 35 from rfl, jj_le (by omega) (by omega) (by omega) (by omega)]; omega), chk_true (jj_inb (by omega) (by omega) (by omega)), chk_true (jj_inb (by omega) (by omega) (by omega)), jj_nat (a := k) (by omega) (by omega), g, show jj k + (1 : Int32) = jj (k + 1) from jj_add k 1]
    refine ih _ ⟨by omega, FX_sI F2 rfl, AR_ext (AR_set R2 (by omega)) (fun i a b => ?_)⟩
    rw [UP_at]
    by_cases z : i = k
    · rw [if_pos z, if_pos (by omega), z]
    · rw [if_neg z]
      by_cases y : 11 ≤ i ∧ i < k
      · rw [if_pos y, if_pos (by omega)]
      · rw [if_neg y, if_neg (by omega)]) 24 N 11 S1 (by decide) (by omega) ⟨by decide, FX_refl _ _, AR_ext A1 (fun i a b => by rw [if_neg (by omega)])⟩
  obtain ⟨⟨v, S'⟩, e, q⟩ := H
  exact ⟨v, S', e, q⟩
