/-! The reference's test of a code. -/
def RUN (em et : Sem) (h : Int) : Nat → (Int → Int) → Int → Option (Int → Int)
  | 0, A, _ => some A
  | r + 1, A, c => if 0 < A (11 + (c / 24 ^ r) / 2) then RUN em et h r (ST0 em et A h (c / 24 ^ r)) (c % 24 ^ r) else none
def tsub (A B : Int → Int) : Prop := ∀ i : Int, 0 ≤ i → i < 12 → A (23 + i) = 1 → B (23 + i) = 1
theorem ST0_tsub {em et : Sem} {A : Int → Int} {h w : Int} (w0 : 0 ≤ w) (w1 : w < 24) : tsub A (ST0 em et A h w) := by
  intro i a b q
  have e : ST0 em et A h w = STR em et (sgA A) A h (w / 2) (w % 2) := by
    unfold ST0 STW
    exact if_pos rfl
  rw [e]
  rcases STR_torn (em := em) (et := et) (sg := sgA A) (A := A) (h := h) (c := w / 2) (rt := w % 2) (by omega) (by omega) (by omega) i a b with z | ⟨_, z, _⟩
  · rw [z]; exact q
  · omega
theorem run_ok {em et : Sem} {h M : Int} (h0 : 0 ≤ h ∧ h < 4) : ∀ (r : Nat) (A : Int → Int) (c : Int) (B : Int → Int), OKS A M → 0 ≤ c → c < 24 ^ r → RUN em et h r A c = some B → OKS B M ∧ tsub A B := by
  intro r
  induction r with
  | zero =>
    intro A c B hO _ _ e
    have : A = B := Option.some.inj e
    subst this
    exact ⟨hO, fun _ _ _ q => q⟩
  | succ r ih =>
    intro A c B hO c0 c1 e
    obtain ⟨d1, d2, d3, d4⟩ := dig_b c0 c1
    have e : (if 0 < A (11 + (c / 24 ^ r) / 2) then RUN em et h r (ST0 em et A h (c / 24 ^ r)) (c % 24 ^ r) else none) = some B := e
    by_cases q : 0 < A (11 + (c / 24 ^ r) / 2)
    · rw [if_pos q] at e
      obtain ⟨o, t⟩ := ih _ _ B (ST0_OKS hO h0 d1 d2) d3 d4 e
      exact ⟨o, fun i a b z => t i a b (ST0_tsub d1 d2 i a b z)⟩
    · rw [if_neg q] at e
      exact absurd e (by simp)
theorem pth_run {em et : Sem} {h lim M : Int} (h0 : 0 ≤ h ∧ h < 4) : ∀ (r : Nat) (A : Int → Int) (c : Int), OKS A M → 0 ≤ c → c < 24 ^ r → (PTH em et h lim r A c ↔ ∃ B, RUN em et h r A c = some B ∧ wth A B ∧ cntA B lim = 0) := by
  intro r
  induction r with
  | zero =>
    intro A c _ _ _
    exact ⟨fun p => ⟨A, rfl, fun _ _ _ => rfl, p⟩, fun ⟨B, e, _, z⟩ => by
      have : A = B := Option.some.inj e
      subst this
      exact z⟩
  | succ r ih =>
    intro A c hO c0 c1
    obtain ⟨d1, d2, d3, d4⟩ := dig_b c0 c1
    have hO2 := ST0_OKS (em := em) (et := et) (h := h) hO h0 d1 d2
    have hi := ih _ _ hO2 d3 d4
    constructor
    · intro ⟨p1, p2, p3⟩
      obtain ⟨B, e, w, z⟩ := hi.1 p3
      exact ⟨B, (if_pos p1).trans e, fun i a b => (w i a b).trans (p2 i a b), z⟩
    · rintro ⟨B, e, w, z⟩
      have e : (if 0 < A (11 + (c / 24 ^ r) / 2) then RUN em et h r (ST0 em et A h (c / 24 ^ r)) (c % 24 ^ r) else none) = some B := e
      by_cases q : 0 < A (11 + (c / 24 ^ r) / 2)
      · rw [if_pos q] at e
        obtain ⟨o, t⟩ := run_ok h0 r _ _ B hO2 d3 d4 e
        have k : wth A (ST0 em et A h (c / 24 ^ r)) := by
          intro i a b
          have x1 := hO.1.2.1 i a b
          have x2 := hO2.1.2.1 i a b
          have x3 := t i a b
          have x4 := ST0_tsub (em := em) (et := et) (A := A) (h := h) d1 d2 i a b
          have x5 := w i a b
          rcases x1 with x1 | x1
          · rcases x2 with x2 | x2
            · rw [x1, x2]
            · have := x3 x2
              omega
          · rw [x4 x1, x1]
        exact ⟨q, k, hi.2 ⟨B, e, fun i a b => (w i a b).trans (k i a b).symm, z⟩⟩
      · rw [if_neg q] at e
        exact absurd e (by simp)
theorem dig_mid {r : Nat} (hr : r ≤ 2) (c : Int) : (c / 24 ^ r) % 24 = (c % 24 ^ (r + 1)) / 24 ^ r ∧ (c % 24 ^ (r + 1)) % 24 ^ r = c % 24 ^ r := by
  match r, hr with
  | 0, _ => show c / 1 % 24 = c % 24 / 1 ∧ c % 24 % 1 = c % 1; omega
  | 1, _ => show c / 24 % 24 = c % 576 / 24 ∧ c % 576 % 24 = c % 24; omega
  | 2, _ => show c / 576 % 24 = c % 13824 / 576 ∧ c % 13824 % 576 = c % 576; omega
theorem r_are {S : St} {N : Nat} {A : Int → Int} {M h : Int} {em et : Sem} {L : Nat} {code : Int} (hN : 4000 < N) (hO : OKS A M) (hE : RLW S (A 3) em et) (h23 : gI S 1023 0 0 = jj 0) (h0 : 0 ≤ h ∧ h < A 0) (c0 : 0 ≤ code) (c1 : code ≤ 100000) (hL : L ≤ 3) : ∀ (r n : Nat) (k : Int) (A1 : Int → Int) (S1 : St), k + r = L → 0 ≤ k → r < n → OKS A1 M → AG0 A A1 → AR 1000 S1 A1 → FX STF S S1 → ∃ v S2 B, f_X10_areStroked_b28 N n (jj h) (jj code) (jj L) (jj (24 ^ (r - 1))) (jj k) S1 = some (v, S2) ∧ AR 1000 S2 B ∧ OKS B M ∧ AG0 A B ∧ FX STF S S2 ∧ ((v = 1 ∧ RUN em et h r A1 (code % 24 ^ r) = some B) ∨ (v = 0 ∧ RUN em et h r A1 (code % 24 ^ r) = none)) := by
  have h04 := hO.2.2.1.2.1
  intro r
  induction r with
  | zero =>
    intro n k A1 S1 hk k0 hn O1 g1 R1 F1
    obtain ⟨n, rfl⟩ : ∃ n', n = n' + 1 := ⟨n - 1, by omega⟩
    simp only [f_X10_areStroked_b28]
    rw [if_pos (show jj (L : Int) ≤ jj k by rw [show (L : Int) = k by omega]; exact Int32.le_refl _)]
    exact ⟨1, S1, A1, rfl, R1, O1, g1, F1, Or.inl ⟨rfl, rfl⟩⟩
  | succ r ih =>
    intro n k A1 S1 hk k0 hn O1 g1 R1 F1
    obtain ⟨n, rfl⟩ : ∃ n', n = n' + 1 := ⟨n - 1, by omega⟩
    have pw : (24 : Int) ^ r = 1 ∧ r = 0 ∨ (24 : Int) ^ r = 24 ∧ r = 1 ∨ (24 : Int) ^ r = 576 ∧ r = 2 := by
      match r, (show r ≤ 2 by omega) with
      | 0, _ => exact Or.inl ⟨rfl, rfl⟩
      | 1, _ => exact Or.inr (Or.inl ⟨rfl, rfl⟩)
      | 2, _ => exact Or.inr (Or.inr ⟨rfl, rfl⟩)
    have p0 := pow24 r
    have dm := dig_mid (show r ≤ 2 by omega) code
    have cq : 0 ≤ code / 24 ^ r := Int.ediv_nonneg c0 (by omega)
    have cq2 : code / 24 ^ r ≤ 100000 := by
      rcases pw with ⟨e, _⟩ | ⟨e, _⟩ | ⟨e, _⟩ <;> rw [e] <;> omega
    simp only [f_X10_areStroked_b28]
    rw [show r + 1 - 1 = r by omega, if_neg (show ¬ jj (L : Int) ≤ jj k by rw [jj_le (by omega) (by omega) (by omega) (by omega)]; omega), chk_true (show nz (jj (24 ^ r)) = true by rcases pw with ⟨e, _⟩ | ⟨e, _⟩ | ⟨e, _⟩ <;> rw [e] <;> decide), jj_div c0 (by omega) p0 (by omega), show jj (code / 24 ^ r) - jj (code / 24 ^ r) / (24 : Int32) * (24 : Int32) = jj (code / 24 ^ r % 24) from jj_rem (b := 24) cq (by omega) (by decide) (by decide)]
    have nxt : ∀ S2 B, OKS B M → AG0 A B → AR 1000 S2 B → FX STF S S2 → ∃ v S3 B', (if jj (24 ^ r) ≤ (1 : Int32) then lt (jj k + 1) fun v2 => f_X10_areStroked_b28 N n (jj h) (jj code) (jj L) 1 v2 S2 else lt (jj (24 ^ r) / (24 : Int32)) fun v3 => lt (jj k + 1) fun v4 => f_X10_areStroked_b28 N n (jj h) (jj code) (jj L) v3 v4 S2) = some (v, S3) ∧ AR 1000 S3 B' ∧ OKS B' M ∧ AG0 A B' ∧ FX STF S S3 ∧ ((v = 1 ∧ RUN em et h r B (code % 24 ^ r) = some B') ∨ (v = 0 ∧ RUN em et h r B (code % 24 ^ r) = none)) := by
      intro S2 B O2 g2 R2 F2
      simp only [lt]
      rw [show jj k + (1 : Int32) = jj (k + 1) from jj_add k 1]
      obtain ⟨v, S3, B', e, q⟩ := ih n (k + 1) B S2 (by omega) (by omega) (by omega) O2 g2 R2 F2
      refine ⟨v, S3, B', ?_, q⟩
      rw [← e]
      rcases pw with ⟨e, z⟩ | ⟨e, z⟩ | ⟨e, z⟩
      · rw [e, if_pos (by decide), z]; rfl
      · rw [e, if_neg (by decide), z]; rfl
      · rw [e, if_neg (by decide), z]; rfl
    have rn : RUN em et h (r + 1) A1 (code % 24 ^ (r + 1)) = if 0 < A1 (11 + (code / 24 ^ r % 24) / 2) then RUN em et h r (ST0 em et A1 h (code / 24 ^ r % 24)) (code % 24 ^ r) else none := by
      show (if 0 < A1 (11 + (code % 24 ^ (r + 1) / 24 ^ r) / 2) then RUN em et h r (ST0 em et A1 h (code % 24 ^ (r + 1) / 24 ^ r)) (code % 24 ^ (r + 1) % 24 ^ r) else none) = _
      rw [← dm.1, dm.2]
    generalize hw : code / 24 ^ r % 24 = w at *
    have w0 : 0 ≤ w := by omega
    have w1 : w < 24 := by omega
    by_cases q : 0 < A1 (11 + w / 2)
    · obtain ⟨S2, e2, R2, F2⟩ := r_tried1 (S := S) (A := A) (h := h) (w := w) (em := em) (et := et) hN (by rw [g1 3 (by decide)]; exact RLW_of hE (fun i => F1.1 1002 0 i (by unfold STF; omega))) O1 R1 ((F1.1 1023 0 0 (by unfold STF; omega)).trans h23) (by rw [g1 0 (by decide)]; exact h0) w0 w1 q
      rw [bnd_of e2, if_neg (show ¬ jj 1 = (0 : Int32) by decide), rn, if_pos q]
      exact nxt S2 _ (ST0_OKS O1 ⟨h0.1, by omega⟩ w0 w1) (AG0_trans g1 (ST0_AG0 w0 w1)) R2 (FX_trans F1 F2)
    · rw [bnd_of (r_tried0 O1 R1 w0 w1 q), if_pos (show jj 0 = (0 : Int32) from rfl), rn, if_neg q]
      exact ⟨0, S1, A1, rfl, R1, O1, g1, F1, Or.inr ⟨rfl, rfl⟩⟩
