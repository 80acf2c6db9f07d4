theorem tb_new {x y : Int32} {g h : Int → Int} (hx : TB x g) (hy : TB y h) : TB (y &&& (x ^^^ (-1))) (fun c => if h c = 1 ∧ g c = 0 then 1 else 0) := by
  obtain ⟨m, hm, rfl, hg⟩ := hx
  obtain ⟨n, hn, rfl, hh⟩ := hy
  have key : ∀ d : Fin 12, (4095 : Nat).testBit d.val = true := by decide +kernel
  refine ⟨n &&& (4095 ^^^ m), Nat.lt_of_le_of_lt Nat.and_le_left hn, jj_andnot hn hm, fun c hc => ?_⟩
  have k := key ⟨c, hc⟩
  simp only at k
  dsimp only
  rw [hg c hc, hh c hc, Nat.testBit_and, Nat.testBit_xor, k]
  cases n.testBit c <;> cases m.testBit c <;> rfl
theorem cnt0 {B : Int → Int} {lim : Int} : cntA B lim = 0 ↔ ∀ i : Int, 0 ≤ i → i < 12 → B (11 + i) ≤ lim := by
  have : ∀ m : Nat, (pre (abv B lim) m = 0 ↔ ∀ i : Int, 0 ≤ i → i < m → B (11 + i) ≤ lim) := by
    intro m
    induction m with
    | zero => exact ⟨fun _ i a b => by omega, fun _ => rfl⟩
    | succ m ih =>
      have hb := pre_le (f := abv B lim) (fun i => by unfold abv; split <;> omega) m
      have e : pre (abv B lim) (m + 1) = pre (abv B lim) m + (if B (11 + (m : Int)) ≤ lim then 0 else 1) := rfl
      rw [e]
      constructor
      · intro h i a b
        by_cases q : B (11 + (m : Int)) ≤ lim
        · rw [if_pos q] at h
          by_cases z : i = m
          · rw [z]; exact q
          · exact (ih.1 (by omega)) i a (by omega)
        · rw [if_neg q] at h
          omega
      · intro h
        rw [if_pos (h m (by omega) (by omega)), ih.2 (fun i a b => h i a (by omega))]
        rfl
  exact this 12
theorem mx_lim {c : Int → Int} {lim : Int} (l0 : 0 ≤ lim) : mxf c ≤ lim ↔ ∀ i : Int, 0 ≤ i → i < 12 → c i ≤ lim := by
  obtain ⟨h0, h1, h2⟩ := @mxf_MX c
  constructor
  · intro h i a b
    have := h1 i a b
    omega
  · intro h
    rcases h2 with e | ⟨i, a, b, e⟩
    · omega
    · rw [e]; exact h i a b
theorem are_6 {S : St} {N : Nat} {L : Nat} {h code : Int32} (hN : 4000 < N) (hL : L ≤ 3) : f_X10_areStroked N S h code (jj (L : Int)) = f_X10_areStroked_b28 N N h code (jj (L : Int)) (jj (24 ^ (L - 1))) (jj 0) S := by
  unfold f_X10_areStroked
  have : ∀ n, 4 ≤ n → f_X10_areStroked_b6 N n h code (jj (L : Int)) 1 1 S = f_X10_areStroked_b28 N N h code (jj (L : Int)) (jj (24 ^ (L - 1))) (jj 0) S := by
    intro n hn
    obtain ⟨n, rfl⟩ : ∃ n', n = n' + 3 := ⟨n - 3, by omega⟩
    match L, hL with
    | 0, _ =>
      simp only [f_X10_areStroked_b6, lt]
      rw [if_pos (by decide)]; rfl
    | 1, _ =>
      simp only [f_X10_areStroked_b6, lt]
      rw [if_pos (by decide)]; rfl
    | 2, _ =>
      simp only [f_X10_areStroked_b6, lt]
      rw [if_neg (by decide), if_pos (by decide)]; rfl
    | 3, _ =>
      simp only [f_X10_areStroked_b6, lt]
      rw [if_neg (by decide), if_neg (by decide), if_pos (by decide)]; rfl
  exact this N (by omega)
theorem r_isPlan {S : St} {N : Nat} {A : Int → Int} {M h lim code : Int} {em et : Sem} {L : Nat} (hN : 4000 < N) (hO : OKS A M) (hC : RC S A em et) (h0 : 0 ≤ h ∧ h < A 0) (l0 : 0 ≤ lim) (l1 : lim ≤ 9999) (c0 : 0 ≤ code) (c1 : code < 24 ^ L) (c2 : code ≤ 100000) (hL : L ≤ 3) : ∃ v S', f_X10_isPlan N S (jj h) (jj code) (jj (L : Int)) (jj lim) = some (v, S') ∧ RC S' A em et ∧ FX (fun f _ => f = 1000 ∨ (1020 ≤ f ∧ f ≤ 1025)) S S' ∧ ((v = 0 ∧ ¬ PTH em et h lim L A code) ∨ (v = 1 ∧ PTH em et h lim L A code)) := by
  have h04 := hO.2.2.1.2.1
  obtain ⟨x, ex, tx⟩ := r_torn hN hC.1 hO.1.2.1
  obtain ⟨S1, e1, a1, w1, F1⟩ := r_setAside hN hC.1
  have A1 := FX_AR F1 (f := 1000) (by omega) hC.1
  obtain ⟨v, S2, B, e2, R2, O2, g2, F2, cs⟩ := r_are (S := S1) (N := N) (A := A) (M := M) (h := h) (em := em) (et := et) (L := L) (code := code) hN hO (RLW_of hC.2.1 (fun i => F1.1 1002 0 i (by omega))) w1 h0 c0 c2 hL L N 0 A S1 (by omega) (by decide) (by omega) hO (fun _ _ => rfl) A1 (FX_refl _ _)
  rw [Int.emod_eq_of_lt c0 c1] at cs
  obtain ⟨S3, e3, R3, w3, F3⟩ := r_putBack hN R2 (fun k a b => (F2.1 1025 0 _ (by unfold STF; omega)).trans (a1 k a b))
  have FF : FX (fun f _ => f = 1000 ∨ (1020 ≤ f ∧ f ≤ 1025)) S S3 := FX_trans (FX_sub F1 (fun f _ q => by omega)) (FX_trans (FX_sub F2 (fun f _ q => by unfold STF at q; omega)) (FX_sub F3 (fun f _ q => by omega)))
  have RC3 : RC S3 A em et := ⟨AR_ext R3 (fun i a b => by
    by_cases z : 6 ≤ i ∧ i < 41
    · rw [if_pos z]
    · rw [if_neg z, g2 i (by omega)]), RLW_of hC.2.1 (fun i => FF.1 1002 0 i (by omega)), w3⟩
  have pr := pth_run (em := em) (et := et) (h := h) (lim := lim) (M := M) ⟨h0.1, by omega⟩ L A code hO c0 c1
  have no : ¬ PTH em et h lim L A code → f_X10_isPlan_b48 N S2 = some (0, S3) := fun _ => by
    unfold f_X10_isPlan_b48 f_X10_isPlan_b49
    rw [bnd_of e3]
    rfl
  unfold f_X10_isPlan
  rw [bnd_of ex, bnd_of e1, are_6 hN hL, bnd_of e2]
  rcases cs with ⟨v1, cr⟩ | ⟨v0, cr⟩
  · rw [v1, if_neg (show ¬ (1 : Int32) = 0 by decide)]
    obtain ⟨y, ey, ty⟩ := r_torn hN R2 O2.1.2.1
    have tn := tb_new tx ty
    have ts := (run_ok ⟨h0.1, by omega⟩ L A code B hO c0 c1 cr).2
    have iff1 : (y &&& (x ^^^ (-1)) = 0) ↔ wth A B := by
      have := tb_one tn (tb_zero (g := fun _ => 0) (fun _ _ _ => rfl))
      rw [show (0 : Int32) = jj 0 from rfl, this]
      constructor
      · intro q i a b
        have q : (if B (23 + i) = 1 ∧ A (23 + i) = 0 then (1 : Int) else 0) = 0 := q i a b
        have b1 := hO.1.2.1 i a b
        have b2 := O2.1.2.1 i a b
        have b3 := ts i a b
        by_cases z : B (23 + i) = 1 ∧ A (23 + i) = 0
        · rw [if_pos z] at q; omega
        · omega
      · intro q i a b
        have q := q i a b
        exact if_neg (by omega)
    have mo := r_most O2 R2 hN
    have mb := MX_b12 O2
    have ml := mx_lim (c := fun i => B (11 + i)) l0
    have c0' := @cnt0 B lim
    rw [bnd_of ey]
    by_cases q : y &&& (x ^^^ (-1)) = 0
    · rw [if_pos q, show (0 : Int32) = jj 0 from rfl, show (12 : Int32) = jj 12 from rfl, bnd_of mo]
      by_cases z : mxf (fun i => B (11 + i)) ≤ lim
      · rw [if_neg (show ¬ jj lim < jj (mxf (fun i => B (11 + i))) by rw [jj_lt (by omega) (by omega) (by omega) (by omega)]; omega)]
        refine ⟨1, S3, ?_, RC3, FF, Or.inr ⟨rfl, pr.2 ⟨B, cr, iff1.1 q, c0'.2 (ml.1 z)⟩⟩⟩
        unfold f_X10_isPlan_b49
        rw [bnd_of e3]
        rfl
      · have np : ¬ PTH em et h lim L A code := fun p => by
          obtain ⟨B', cr', _, cz⟩ := pr.1 p
          rw [cr] at cr'
          have := Option.some.inj cr'
          subst this
          exact z (ml.2 (c0'.1 cz))
        rw [if_pos (show jj lim < jj (mxf (fun i => B (11 + i))) by rw [jj_lt (by omega) (by omega) (by omega) (by omega)]; omega), no np]
        exact ⟨0, S3, rfl, RC3, FF, Or.inl ⟨rfl, np⟩⟩
    · have np : ¬ PTH em et h lim L A code := fun p => by
        obtain ⟨B', cr', wt, _⟩ := pr.1 p
        rw [cr] at cr'
        have := Option.some.inj cr'
        subst this
        exact q (iff1.2 wt)
      rw [if_neg q, no np]
      exact ⟨0, S3, rfl, RC3, FF, Or.inl ⟨rfl, np⟩⟩
  · have np : ¬ PTH em et h lim L A code := fun p => by
      obtain ⟨B', cr', _⟩ := pr.1 p
      rw [cr] at cr'
      exact absurd cr' (by simp)
    rw [v0, if_pos rfl, no np]
    exact ⟨0, S3, rfl, RC3, FF, Or.inl ⟨rfl, np⟩⟩
theorem r_87 {S : St} {N : Nat} {y : Int} {L : Int} (y0 : 0 ≤ y) (y1 : y ≤ 2) (yL : y < L) (L1 : L ≤ 3) : ∀ (m n : Nat) (c : Int), m ≤ 2 → m < n → 0 ≤ c → c ≤ 100000 → f_X10_plan_b87 N n (jj y) (jj L) (jj c) (jj (y + m)) S = some (jj (c / 24 ^ m % 24), S) := by
  intro m
  induction m with
  | zero =>
    intro n c _ hn c0 c1
    obtain ⟨n, rfl⟩ : ∃ n', n = n' + 1 := ⟨n - 1, by omega⟩
    simp only [f_X10_plan_b87]
    rw [if_pos (show jj (y + ((0 : Nat) : Int)) ≤ jj y by rw [jj_le (by omega) (by omega) (by omega) (by omega)]; omega), if_neg (show ¬ jj L ≤ jj y by rw [jj_le (by omega) (by omega) (by omega) (by omega)]; omega), show jj c - jj c / (24 : Int32) * (24 : Int32) = jj (c % 24) from jj_rem (b := 24) c0 (by omega) (by decide) (by decide), show (24 : Int) ^ 0 = 1 from rfl, Int.ediv_one]
  | succ m ih =>
    intro n c hm hn c0 c1
    obtain ⟨n, rfl⟩ : ∃ n', n = n' + 1 := ⟨n - 1, by omega⟩
    simp only [f_X10_plan_b87, lt]
    rw [if_neg (show ¬ jj (y + ((m + 1 : Nat) : Int)) ≤ jj y by rw [jj_le (by omega) (by omega) (by omega) (by omega)]; omega), show jj c / (24 : Int32) = jj (c / 24) from jj_div (b := 24) c0 (by omega) (by decide) (by decide), show jj (y + ((m + 1 : Nat) : Int)) + (-1 : Int32) = jj (y + (m : Int)) from by rw [show (-1 : Int32) = jj (-1) from rfl, jj_add]; refine congrArg jj ?_; omega, ih n (c / 24) (by omega) (by omega) (by omega) (by omega)]
    match m, (show m ≤ 1 by omega) with
    | 0, _ => show some (jj (c / 24 / 1 % 24), S) = some (jj (c / 24 % 24), S); rw [Int.ediv_one]
    | 1, _ =>
      show some (jj (c / 24 / 24 % 24), S) = some (jj (c / 576 % 24), S)
      rw [show c / 24 / 24 = c / 576 by omega]
