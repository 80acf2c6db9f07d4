/-! TOKENS: the reference's next one. -/
def BYR (R : St) (b : Nat → Nat) (n : Nat) : Prop := gI R 1004 0 0 = ii n ∧ (∀ i, i < n → gI R 1003 0 i = ii (b i)) ∧ n ≤ 300 ∧ ∀ i, b i < 256
def NXF (f _j : Nat) : Prop := 1007 ≤ f ∧ f ≤ 1011
theorem BYR_FX {P : Nat → Nat → Prop} {R R1 : St} {b : Nat → Nat} {n : Nat} (h : FX P R R1) (p3 : ¬ P 1003 0) (p4 : ¬ P 1004 0) (hB : BYR R b n) : BYR R1 b n := ⟨(h.1 1004 0 0 p4).trans hB.1, fun i hi => (h.1 1003 0 i p3).trans (hB.2.1 i hi), hB.2.2⟩
theorem bat_in {R : St} {b : Nat → Nat} {n p : Nat} (hB : BYR R b n) (h : p < n) : f_X10_byteAt R (ii p) = some (ii (b p)) := by
  obtain ⟨h1, h2, h3, h4⟩ := hB
  unfold f_X10_byteAt
  rw [h1, if_neg (show ¬ ii n ≤ ii p by rw [ii_le (by omega) (by omega)]; omega), chk_true (inb_ii (by omega) (by omega)), ii_nat (by omega), h2 p h]
theorem bat_out {R : St} {b : Nat → Nat} {n p : Nat} (hB : BYR R b n) (h : n ≤ p) (hp : p ≤ 1000) : f_X10_byteAt R (ii p) = some (-1) := by
  obtain ⟨h1, h2, h3, h4⟩ := hB
  unfold f_X10_byteAt
  rw [h1, if_pos (show ii n ≤ ii p by rw [ii_le (by omega) (by omega)]; omega)]
theorem rd_dig {N : Nat} {b : Nat → Nat} {n : Nat} : ∀ (m p a fuel : Nat) (R : St), p + m = n → m < fuel → BYR R b n → gI R 1007 0 0 = ii p → gI R 1010 0 0 = ii a → a ≤ 1000000 → ∃ R2, f_X10_nextToken_b85 N fuel R = some R2 ∧ gI R2 1007 0 0 = ii (sc b isDb n p) ∧ gI R2 1010 0 0 = ii (nre b (n - p) p a) ∧ FX (fun f _ => f = 1007 ∨ f = 1010) R R2 := by
  intro m
  induction m with
  | zero =>
    intro p a fuel R hp hf hB h7 h10 ha
    have n300 := hB.2.2.1
    obtain ⟨fuel, rfl⟩ : ∃ f', fuel = f' + 1 := ⟨fuel - 1, by omega⟩
    rw [f_X10_nextToken_b85, h7, bnd_of (bat_out hB (by omega) (by omega)), bnd_of (show f_X10_isFigure R (-1) = some 0 from rfl), if_pos rfl, sc_end (by omega), show n - p = 0 by omega]
    exact ⟨R, rfl, h7, h10, FX_refl _ _⟩
  | succ m ih =>
    intro p a fuel R hp hf hB h7 h10 ha
    have n300 := hB.2.2.1
    obtain ⟨fuel, rfl⟩ : ∃ f', fuel = f' + 1 := ⟨fuel - 1, by omega⟩
    have hb := hB.2.2.2 p
    rw [f_X10_nextToken_b85, h7, bnd_of (bat_in hB (by omega)), bnd_of (dig_R hb), show n - p = n - (p + 1) + 1 by omega]
    have en : nre b (n - (p + 1) + 1) p a = if isDb (b p) = true then nre b (n - (p + 1)) (p + 1) (if a ≤ 99999 then 10 * a + b p - 48 else a) else a := rfl
    rw [en]
    by_cases q : isDb (b p) = true
    · have hd := isDb_b q
      have l9 : (ii a ≤ (99999 : Int32)) = (a ≤ 99999) := ii_le (b := 99999) (by omega) (by decide)
      have step : ∀ v : Nat, v ≤ 1000000 → (if a ≤ 99999 then 10 * a + b p - 48 else a) = v → ∃ R2, f_X10_nextToken_b135 (f_X10_nextToken_b85 N fuel) N (ii v) R = some R2 ∧ gI R2 1007 0 0 = ii (sc b isDb n p) ∧ gI R2 1010 0 0 = ii (nre b (n - (p + 1)) (p + 1) (if a ≤ 99999 then 10 * a + b p - 48 else a)) ∧ FX (fun f _ => f = 1007 ∨ f = 1010) R R2 := by
        intro v hv ev
        unfold f_X10_nextToken_b135
        simp only [lt]
        rw [show gI (sI R 1010 0 0 (ii v)) 1007 0 0 = ii p from by rw [gI_sI, if_neg (by omega)]; exact h7, show ii p + (1 : Int32) = ii (p + 1) from ii_add p 1, ev, sc_go (by omega) q]
        have F : FX (fun f _ => f = 1007 ∨ f = 1010) R (sI (sI R 1010 0 0 (ii v)) 1007 0 0 (ii (p + 1))) := FX_sI (FX_sI (FX_refl _ _) (Or.inr rfl)) (Or.inl rfl)
        obtain ⟨R2, e2, a2, b2, F2⟩ := ih (p + 1) v fuel (sI (sI R 1010 0 0 (ii v)) 1007 0 0 (ii (p + 1))) (by omega) (by omega) (BYR_FX F (by omega) (by omega) hB) (by rw [gI_sI, if_pos ⟨rfl, rfl, rfl⟩]) (by rw [gI_sI, if_neg (by omega), gI_sI, if_pos ⟨rfl, rfl, rfl⟩]) hv
        exact ⟨R2, e2, a2, b2, FX_trans F F2⟩
      rw [if_pos q, if_neg (show ¬ (1 : Int32) = 0 by decide), h10, if_pos q]
      by_cases z : a ≤ 99999
      · rw [if_pos (l9.mpr z), bnd_of (bat_in hB (by omega)), show (10 : Int32) * ii a + ii (b p) - (48 : Int32) = ii (10 * a + b p - 48) from by rw [show (10 : Int32) = ii 10 from rfl, show (48 : Int32) = ii 48 from rfl, ii_mul, ii_add, ii_sub (by omega)]]
        exact step _ (by omega) (if_pos z)
      · rw [if_neg (fun y => z (l9.mp y))]
        exact step _ ha (if_neg z)
    · rw [if_neg q, if_pos rfl, if_neg q, sc_no (by omega) q]
      exact ⟨R, rfl, h7, h10, FX_refl _ _⟩
theorem rd_let {N : Nat} {b : Nat → Nat} {n s : Nat} : ∀ (m p fuel : Nat) (R : St), p + m = n → m < fuel → s ≤ p → BYR R b n → gI R 1007 0 0 = ii p → gL R 1011 0 0 = ll (wn (seg b s (p - s)).reverse) → ∃ R2, f_X10_nextToken_b168 N fuel R = some R2 ∧ gI R2 1007 0 0 = ii (sc b isLb n p) ∧ gL R2 1011 0 0 = ll (wn (seg b s (sc b isLb n p - s)).reverse) ∧ FX (fun f _ => f = 1007 ∨ f = 1011) R R2 := by
  intro m
  induction m with
  | zero =>
    intro p fuel R hp hf hs hB h7 h11
    have n300 := hB.2.2.1
    obtain ⟨fuel, rfl⟩ : ∃ f', fuel = f' + 1 := ⟨fuel - 1, by omega⟩
    rw [f_X10_nextToken_b168, h7, bnd_of (bat_out hB (by omega) (by omega)), bnd_of (show f_X10_isLetterByte R (-1) = some 0 from rfl), if_pos rfl, sc_end (by omega)]
    exact ⟨R, rfl, h7, h11, FX_refl _ _⟩
  | succ m ih =>
    intro p fuel R hp hf hs hB h7 h11
    have n300 := hB.2.2.1
    obtain ⟨fuel, rfl⟩ : ∃ f', fuel = f' + 1 := ⟨fuel - 1, by omega⟩
    have hb := hB.2.2.2 p
    rw [f_X10_nextToken_b168, h7, bnd_of (bat_in hB (by omega)), bnd_of (let_R hb)]
    by_cases q : isLb (b p) = true
    · have wb' : wn (seg b s (p - s)).reverse ≤ 1152921504606846976 := wn_b _ (fun x hx => seg_mem b (P := fun x => x < 256) (p - s) s (fun i _ _ => hB.2.2.2 i) x (List.mem_reverse.mp hx))
      have sn : (seg b s (p + 1 - s)).reverse = b p :: (seg b s (p - s)).reverse := by
        rw [show p + 1 - s = p - s + 1 by omega, seg_snoc, List.reverse_append, show s + (p - s) = p by omega]
        rfl
      have ew : wn (seg b s (p + 1 - s)).reverse = if 281474976710656 ≤ wn (seg b s (p - s)).reverse then 1152921504606846976 else wn (seg b s (p - s)).reverse * 256 + b p := by rw [sn]; rfl
      have step : ∀ v : Int64, v = ll (wn (seg b s (p + 1 - s)).reverse) → ∃ R2, f_X10_nextToken_b218 (f_X10_nextToken_b168 N fuel) N v R = some R2 ∧ gI R2 1007 0 0 = ii (sc b isLb n p) ∧ gL R2 1011 0 0 = ll (wn (seg b s (sc b isLb n p - s)).reverse) ∧ FX (fun f _ => f = 1007 ∨ f = 1011) R R2 := by
        intro v hv
        unfold f_X10_nextToken_b218
        simp only [lt]
        rw [show gI (sL R 1011 0 0 v) 1007 0 0 = ii p from h7, show ii p + (1 : Int32) = ii (p + 1) from ii_add p 1, sc_go (by omega) q]
        have F : FX (fun f _ => f = 1007 ∨ f = 1011) R (sI (sL R 1011 0 0 v) 1007 0 0 (ii (p + 1))) := FX_sI (FX_sL (FX_refl _ _) (Or.inr rfl)) (Or.inl rfl)
        obtain ⟨R2, e2, a2, b2, F2⟩ := ih (p + 1) fuel (sI (sL R 1011 0 0 v) 1007 0 0 (ii (p + 1))) (by omega) (by omega) (by omega) (BYR_FX F (by omega) (by omega) hB) (by rw [gI_sI, if_pos ⟨rfl, rfl, rfl⟩]) (by rw [gL_sI, gL_sL, if_pos ⟨rfl, rfl, rfl⟩]; exact hv)
        exact ⟨R2, e2, a2, b2, FX_trans F F2⟩
      have c48 : (lg_cmp (ll (wn (seg b s (p - s)).reverse) >>> ((48 : Int32).toInt64 &&& 63)) (0 : Int64) = (0 : Int32)) = (wn (seg b s (p - s)).reverse / 281474976710656 = 0) := by
        rw [cmp_zero, ll_shr48 (by omega)]
        refine propext ⟨fun e => ll_inj (by omega) (by decide) e, fun e => by rw [e]; rfl⟩
      rw [if_pos q, if_neg (show ¬ (1 : Int32) = 0 by decide), h11]
      by_cases z : wn (seg b s (p - s)).reverse / 281474976710656 = 0
      · rw [if_pos (c48.mpr z), bnd_of (bat_in hB (by omega)), ii_long (by omega), ll_cat hb]
        exact step _ (by rw [ew, if_neg (by omega)])
      · rw [if_neg (fun y => z (c48.mp y))]
        exact step _ (by rw [ew, if_pos (by omega)]; rfl)
    · rw [if_neg q, if_pos rfl, sc_no (by omega) q]
      exact ⟨R, rfl, h7, h11, FX_refl _ _⟩
def sgs (x : Nat) : Bool := decide (x = 35 ∨ x = 40 ∨ x = 41 ∨ x = 42 ∨ x = 43 ∨ x = 45 ∨ x = 47 ∨ x = 58 ∨ x = 59 ∨ x = 60 ∨ x = 61 ∨ x = 62)
theorem sgs_R (S : St) {x : Nat} (h : x < 256) : f_X10_isSign S (ii x) = some (if sgs x = true then 1 else 0) := by
  have key : ∀ x : Fin 256, f_X10_isSign ((fun _ _ _ => 0, fun _ _ _ => 0, fun _ _ _ => 0, fun _ => none, 0) : St) (ii x.val) = some (if sgs x.val = true then 1 else 0) := by decide +kernel
  exact key ⟨x, h⟩
/-- the token's fields at a place -/
def TKF (b : Nat → Nat) (n p : Nat) (R : St) : Prop := if n ≤ p then gI R 1009 0 0 = ii 0 else if isLb (b p) = true then gI R 1009 0 0 = ii 2 ∧ gL R 1011 0 0 = ll (wn (seg b p (sc b isLb n p - p)).reverse) else if isDb (b p) = true then gI R 1009 0 0 = ii 1 ∧ gI R 1010 0 0 = ii (nre b (n - p) p 0) else if eqb b n p = true then gI R 1009 0 0 = ii (if b p = 60 then 4 else 5) else gI R 1009 0 0 = ii (if sgs (b p) = true then b p else 3)
theorem rd_next {N : Nat} {b : Nat → Nat} {n : Nat} (hN : 4000 < N) : ∀ (m p fuel : Nat) (R : St), p + m = n → m < fuel → BYR R b n → gI R 1007 0 0 = ii p → ∃ R2, f_X10_nextToken_b0 N fuel R = some R2 ∧ gI R2 1008 0 0 = ii (sc b isKb n p) ∧ gI R2 1007 0 0 = ii (if n ≤ sc b isKb n p then n else tken b n (sc b isKb n p)) ∧ TKF b n (sc b isKb n p) R2 ∧ FX NXF R R2 := by
  intro m
  induction m with
  | zero =>
    intro p fuel R hp hf hB h7
    have n300 := hB.2.2.1
    obtain ⟨fuel, rfl⟩ : ∃ f', fuel = f' + 1 := ⟨fuel - 1, by omega⟩
    have hB4 : BYR (sI R 1008 0 0 (ii p)) b n := BYR_FX (P := fun f _ => f = 1008) (FX_sI (FX_refl _ _) rfl) (by omega) (by omega) hB
    rw [f_X10_nextToken_b0, h7, bnd_of (bat_out hB (by omega) (by omega)), if_neg (show ¬ (-1 : Int32) = 32 by decide), bnd_of (bat_out hB (by omega) (by omega)), if_neg (show ¬ (-1 : Int32) = 10 by decide)]
    simp only [lt]
    rw [show gI (sI R 1008 0 0 (ii p)) 1007 0 0 = ii p from by rw [gI_sI, if_neg (by omega)]; exact h7, bnd_of (bat_out hB4 (by omega) (by omega)), if_neg (show ¬ (0 : Int32) ≤ -1 by decide), sc_end (by omega)]
    refine ⟨_, rfl, ?_, ?_, ?_, FX_sI (FX_sI (FX_refl _ _) (by unfold NXF; omega)) (by unfold NXF; omega)⟩
    · rw [gI_sI, if_neg (by omega), gI_sI, if_pos ⟨rfl, rfl, rfl⟩]
    · rw [gI_sI, if_neg (by omega), gI_sI, if_neg (by omega), if_pos (by omega), h7, show p = n by omega]
    · unfold TKF
      rw [if_pos (by omega), gI_sI, if_pos ⟨rfl, rfl, rfl⟩]
      rfl
  | succ m ih =>
    intro p fuel R hp hf hB h7
    have n300 := hB.2.2.1
    obtain ⟨fuel, rfl⟩ : ∃ f', fuel = f' + 1 := ⟨fuel - 1, by omega⟩
    have hb := hB.2.2.2 p
    have b32 : (ii (b p) = (32 : Int32)) = (b p = 32) := ii_eq (b := 32) (by omega) (by decide)
    have b10 : (ii (b p) = (10 : Int32)) = (b p = 10) := ii_eq (b := 10) (by omega) (by decide)
    have skip : isKb (b p) = true → ∃ R2, f_X10_nextToken_b26 (f_X10_nextToken_b0 N fuel) N R = some R2 ∧ gI R2 1008 0 0 = ii (sc b isKb n p) ∧ gI R2 1007 0 0 = ii (if n ≤ sc b isKb n p then n else tken b n (sc b isKb n p)) ∧ TKF b n (sc b isKb n p) R2 ∧ FX NXF R R2 := by
      intro z
      unfold f_X10_nextToken_b26
      simp only [lt]
      rw [h7, show ii p + (1 : Int32) = ii (p + 1) from ii_add p 1, sc_go (by omega) z]
      have F : FX NXF R (sI R 1007 0 0 (ii (p + 1))) := FX_sI (FX_refl _ _) (by unfold NXF; omega)
      obtain ⟨R2, e2, a2, c2, d2, F2⟩ := ih (p + 1) fuel _ (by omega) (by omega) (BYR_FX F (by unfold NXF; omega) (by unfold NXF; omega) hB) (by rw [gI_sI, if_pos ⟨rfl, rfl, rfl⟩])
      exact ⟨R2, e2, a2, c2, d2, FX_trans F F2⟩
    rw [f_X10_nextToken_b0, h7, bnd_of (bat_in hB (by omega))]
    by_cases q1 : b p = 32
    · rw [if_pos (b32.mpr q1)]
      exact skip (decide_eq_true (Or.inl q1))
    · rw [if_neg (fun z => q1 (b32.mp z)), bnd_of (bat_in hB (by omega))]
      by_cases q2 : b p = 10
      · rw [if_pos (b10.mpr q2)]
        exact skip (decide_eq_true (Or.inr q2))
      · have nk : ¬ isKb (b p) = true := fun z => by have := of_decide_eq_true z; omega
        have F4 : FX (fun f _ => f = 1008) R (sI R 1008 0 0 (ii p)) := FX_sI (FX_refl _ _) rfl
        have hB4 : BYR (sI R 1008 0 0 (ii p)) b n := BYR_FX F4 (by omega) (by omega) hB
        have h74 : gI (sI R 1008 0 0 (ii p)) 1007 0 0 = ii p := by rw [gI_sI, if_neg (by omega)]; exact h7
        have h84 : gI (sI R 1008 0 0 (ii p)) 1008 0 0 = ii p := by rw [gI_sI, if_pos ⟨rfl, rfl, rfl⟩]
        rw [if_neg (fun z => q2 (b10.mp z)), sc_no (by omega) nk]
        simp only [lt]
        generalize sI R 1008 0 0 (ii p) = R4 at F4 hB4 h74 h84
        have g0 : (0 : Int32) ≤ ii (b p) := by rw [show (0 : Int32) = ii 0 from rfl, ii_le (by omega) (by omega)]; omega
        have FN : ∀ {R5 : St}, FX NXF R4 R5 → FX NXF R R5 := fun h => FX_trans (FX_sub F4 (fun f _ z => by unfold NXF; omega)) h
        rw [h74, bnd_of (bat_in hB4 (by omega)), if_pos g0, bnd_of (dig_R hb), if_neg (show ¬ n ≤ p by omega)]
        unfold tken
        by_cases qd : isDb (b p) = true
        · have nl : ¬ isLb (b p) = true := fun z => by have := of_decide_eq_true z; have := isDb_b qd; omega
          rw [if_pos qd, if_neg (show ¬ (1 : Int32) = 0 by decide), if_neg nl, if_pos qd]
          have F6 : FX (fun f _ => f = 1009 ∨ f = 1010) R4 (sI (sI R4 1009 0 0 1) 1010 0 0 0) := FX_sI (FX_sI (FX_refl _ _) (Or.inl rfl)) (Or.inr rfl)
          obtain ⟨R2, e2, a2, c2, F2⟩ := rd_dig (N := N) (b := b) (n := n) (n - p) p 0 N (sI (sI R4 1009 0 0 1) 1010 0 0 0) (by omega) (by omega) (BYR_FX F6 (by omega) (by omega) hB4) (by rw [gI_sI, if_neg (by omega), gI_sI, if_neg (by omega)]; exact h74) (by rw [gI_sI, if_pos ⟨rfl, rfl, rfl⟩]; rfl) (by decide)
          refine ⟨R2, e2, ?_, a2, ?_, FN (FX_trans (FX_sub F6 (fun f _ z => by unfold NXF; omega)) (FX_sub F2 (fun f _ z => by unfold NXF; omega)))⟩
          · rw [F2.1 1008 0 0 (by omega), gI_sI, if_neg (by omega), gI_sI, if_neg (by omega)]; exact h84
          · unfold TKF
            rw [if_neg (show ¬ n ≤ p by omega), if_neg nl, if_pos qd]
            refine ⟨?_, c2⟩
            rw [F2.1 1009 0 0 (by omega), gI_sI, if_neg (by omega), gI_sI, if_pos ⟨rfl, rfl, rfl⟩]; rfl
        · rw [if_neg qd, if_pos rfl, bnd_of (let_R hb)]
          by_cases ql : isLb (b p) = true
          · rw [if_pos ql, if_neg (show ¬ (1 : Int32) = 0 by decide), if_pos ql]
            have F6 : FX (fun f _ => f = 1009 ∨ f = 1011) R4 (sL (sI R4 1009 0 0 2) 1011 0 0 0) := FX_sL (FX_sI (FX_refl _ _) (Or.inl rfl)) (Or.inr rfl)
            obtain ⟨R2, e2, a2, c2, F2⟩ := rd_let (N := N) (b := b) (n := n) (s := p) (n - p) p N (sL (sI R4 1009 0 0 2) 1011 0 0 0) (by omega) (by omega) (by omega) (BYR_FX F6 (by omega) (by omega) hB4) (by rw [gI_sL, gI_sI, if_neg (by omega)]; exact h74) (by rw [gL_sL, if_pos ⟨rfl, rfl, rfl⟩, Nat.sub_self]; rfl)
            refine ⟨R2, e2, ?_, a2, ?_, FN (FX_trans (FX_sub F6 (fun f _ z => by unfold NXF; omega)) (FX_sub F2 (fun f _ z => by unfold NXF; omega)))⟩
            · rw [F2.1 1008 0 0 (by omega), gI_sL, gI_sI, if_neg (by omega)]; exact h84
            · unfold TKF
              rw [if_neg (show ¬ n ≤ p by omega), if_pos ql]
              refine ⟨?_, c2⟩
              rw [F2.1 1009 0 0 (by omega), gI_sL, gI_sI, if_pos ⟨rfl, rfl, rfl⟩]; rfl
          · rw [if_neg ql, if_pos rfl, if_neg ql, if_neg qd, bnd_of (sgs_R R4 hb)]
            have b60 : (ii (b p) = (60 : Int32)) = (b p = 60) := ii_eq (b := 60) (by omega) (by decide)
            have b62 : (ii (b p) = (62 : Int32)) = (b p = 62) := ii_eq (b := 62) (by omega) (by decide)
            have body : ∀ v : Nat, v = (if sgs (b p) = true then b p else 3) → ∃ R2, f_X10_nextToken_b247 N (ii (b p)) (ii v) R4 = some R2 ∧ gI R2 1008 0 0 = ii p ∧ gI R2 1007 0 0 = ii (if eqb b n p = true then p + 2 else p + 1) ∧ (if eqb b n p = true then gI R2 1009 0 0 = ii (if b p = 60 then 4 else 5) else gI R2 1009 0 0 = ii (if sgs (b p) = true then b p else 3)) ∧ FX NXF R R2 := by
              intro v hv
              unfold f_X10_nextToken_b247
              simp only [lt]
              rw [show gI (sI R4 1009 0 0 (ii v)) 1007 0 0 = ii p from by rw [gI_sI, if_neg (by omega)]; exact h74, show ii p + (1 : Int32) = ii (p + 1) from ii_add p 1]
              have F6 : FX (fun f _ => f = 1009 ∨ f = 1007) R4 (sI (sI R4 1009 0 0 (ii v)) 1007 0 0 (ii (p + 1))) := FX_sI (FX_sI (FX_refl _ _) (Or.inl rfl)) (Or.inr rfl)
              have hB6 := BYR_FX F6 (by omega) (by omega) hB4
              have h76 : gI (sI (sI R4 1009 0 0 (ii v)) 1007 0 0 (ii (p + 1))) 1007 0 0 = ii (p + 1) := by rw [gI_sI, if_pos ⟨rfl, rfl, rfl⟩]
              have h86 : gI (sI (sI R4 1009 0 0 (ii v)) 1007 0 0 (ii (p + 1))) 1008 0 0 = ii p := by rw [gI_sI, if_neg (by omega), gI_sI, if_neg (by omega)]; exact h84
              have h96 : gI (sI (sI R4 1009 0 0 (ii v)) 1007 0 0 (ii (p + 1))) 1009 0 0 = ii v := by rw [gI_sI, if_neg (by omega), gI_sI, if_pos ⟨rfl, rfl, rfl⟩]
              generalize sI (sI R4 1009 0 0 (ii v)) 1007 0 0 (ii (p + 1)) = R6 at F6 hB6 h76 h86 h96
              have F06 : FX NXF R R6 := FN (FX_sub F6 (fun f _ z => by unfold NXF; omega))
              have plain : ¬ eqb b n p = true → ∃ R2, some R6 = some R2 ∧ gI R2 1008 0 0 = ii p ∧ gI R2 1007 0 0 = ii (if eqb b n p = true then p + 2 else p + 1) ∧ (if eqb b n p = true then gI R2 1009 0 0 = ii (if b p = 60 then 4 else 5) else gI R2 1009 0 0 = ii (if sgs (b p) = true then b p else 3)) ∧ FX NXF R R2 := by
                intro ey
                refine ⟨R6, rfl, h86, ?_, ?_, F06⟩
                · rw [if_neg ey]; exact h76
                · rw [if_neg ey, ← hv]; exact h96
              have two : (b p = 60 ∨ b p = 62) → ∃ R2, f_X10_nextToken_b272 N (ii (b p)) R6 = some R2 ∧ gI R2 1008 0 0 = ii p ∧ gI R2 1007 0 0 = ii (if eqb b n p = true then p + 2 else p + 1) ∧ (if eqb b n p = true then gI R2 1009 0 0 = ii (if b p = 60 then 4 else 5) else gI R2 1009 0 0 = ii (if sgs (b p) = true then b p else 3)) ∧ FX NXF R R2 := by
                intro hlg
                unfold f_X10_nextToken_b272
                rw [h76]
                by_cases pn : p + 1 < n
                · have b61 : (ii (b (p + 1)) = (61 : Int32)) = (b (p + 1) = 61) := ii_eq (b := 61) (by have := hB.2.2.2 (p + 1); omega) (by decide)
                  rw [bnd_of (bat_in hB6 pn)]
                  by_cases q61 : b (p + 1) = 61
                  · have ey : eqb b n p = true := decide_eq_true ⟨⟨pn, q61⟩, hlg⟩
                    have fin : ∀ v2 : Nat, v2 = (if b p = 60 then 4 else 5) → ∃ R2, f_X10_nextToken_b297 N (ii v2) R6 = some R2 ∧ gI R2 1008 0 0 = ii p ∧ gI R2 1007 0 0 = ii (if eqb b n p = true then p + 2 else p + 1) ∧ (if eqb b n p = true then gI R2 1009 0 0 = ii (if b p = 60 then 4 else 5) else gI R2 1009 0 0 = ii (if sgs (b p) = true then b p else 3)) ∧ FX NXF R R2 := by
                      intro v2 hv2
                      unfold f_X10_nextToken_b297
                      simp only [lt]
                      rw [show gI (sI R6 1009 0 0 (ii v2)) 1007 0 0 = ii (p + 1) from by rw [gI_sI, if_neg (by omega)]; exact h76, show ii (p + 1) + (1 : Int32) = ii (p + 1 + 1) from ii_add (p + 1) 1]
                      refine ⟨_, rfl, ?_, ?_, ?_, FX_sI (FX_sI F06 (by unfold NXF; omega)) (by unfold NXF; omega)⟩
                      · rw [gI_sI, if_neg (by omega), gI_sI, if_neg (by omega)]; exact h86
                      · rw [gI_sI, if_pos ⟨rfl, rfl, rfl⟩, if_pos ey]
                      · rw [if_pos ey, gI_sI, if_neg (by omega), gI_sI, if_pos ⟨rfl, rfl, rfl⟩, hv2]
                    rw [if_pos (b61.mpr q61)]
                    by_cases q60 : b p = 60
                    · rw [if_pos (b60.mpr q60)]
                      exact fin 4 (if_pos q60).symm
                    · rw [if_neg (fun z => q60 (b60.mp z))]
                      exact fin 5 (if_neg q60).symm
                  · rw [if_neg (fun z => q61 (b61.mp z))]
                    exact plain (fun z => q61 (of_decide_eq_true z).1.2)
                · rw [bnd_of (bat_out hB6 (by omega) (by omega)), if_neg (by decide)]
                  exact plain (fun z => pn (of_decide_eq_true z).1.1)
              by_cases q60 : b p = 60
              · rw [if_pos (b60.mpr q60)]
                exact two (Or.inl q60)
              · rw [if_neg (fun z => q60 (b60.mp z))]
                by_cases q62 : b p = 62
                · rw [if_pos (b62.mpr q62)]
                  exact two (Or.inr q62)
                · rw [if_neg (fun z => q62 (b62.mp z))]
                  exact plain (fun z => by have := (of_decide_eq_true z).2; omega)
            have tk : ∀ R2, (if eqb b n p = true then gI R2 1009 0 0 = ii (if b p = 60 then 4 else 5) else gI R2 1009 0 0 = ii (if sgs (b p) = true then b p else 3)) → TKF b n p R2 := fun R2 d => by
              unfold TKF
              rw [if_neg (show ¬ n ≤ p by omega), if_neg ql, if_neg qd]
              exact d
            by_cases qs : sgs (b p) = true
            · rw [if_pos qs, if_neg (show ¬ (1 : Int32) = 0 by decide)]
              obtain ⟨R2, x1, x2, x3, x4, x5⟩ := body (b p) (if_pos qs).symm
              exact ⟨R2, x1, x2, x3, tk R2 x4, x5⟩
            · rw [if_neg qs, if_pos rfl]
              obtain ⟨R2, x1, x2, x3, x4, x5⟩ := body 3 (if_neg qs).symm
              exact ⟨R2, x1, x2, x3, tk R2 x4, x5⟩
/-- the token i of the reference -/
def TRR (b : Nat → Nat) (n : Nat) (R : St) (i : Nat) : Prop := BYR R b n ∧ gI R 1008 0 0 = ii (plc b n i) ∧ gI R 1007 0 0 = ii (enp b n (i + 1)) ∧ TKF b n (plc b n i) R
theorem x_next {R : St} {N : Nat} {b : Nat → Nat} {n i : Nat} (hN : 4000 < N) (hB : BYR R b n) (h7 : gI R 1007 0 0 = ii (enp b n i)) : ∃ R', f_X10_nextToken N R = some R' ∧ TRR b n R' i ∧ FX NXF R R' := by
  have e := enp_le (b := b) (n := n) i
  have n300 := hB.2.2.1
  obtain ⟨R2, e2, a2, c2, d2, F2⟩ := rd_next (N := N) hN (n - enp b n i) (enp b n i) N R (by omega) (by omega) hB h7
  exact ⟨R2, e2, ⟨BYR_FX F2 (by unfold NXF; omega) (by unfold NXF; omega) hB, a2, c2, d2⟩, F2⟩
theorem TRR_FX {P : Nat → Nat → Prop} {R R1 : St} {b : Nat → Nat} {n i : Nat} (h : FX P R R1) (p3 : ¬ P 1003 0) (p4 : ¬ P 1004 0) (p : ∀ f, 1007 ≤ f → f ≤ 1011 → ¬ P f 0) (hT : TRR b n R i) : TRR b n R1 i := by
  obtain ⟨h1, h2, h3, h4⟩ := hT
  refine ⟨BYR_FX h p3 p4 h1, (h.1 1008 0 0 (p _ (by omega) (by omega))).trans h2, (h.1 1007 0 0 (p _ (by omega) (by omega))).trans h3, ?_⟩
  unfold TKF at h4 ⊢
  rw [h.1 1009 0 0 (p _ (by omega) (by omega)), h.1 1010 0 0 (p _ (by omega) (by omega)), h.2.1 1011 0 0 (p _ (by omega) (by omega))]
  exact h4
