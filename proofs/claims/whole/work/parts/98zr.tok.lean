/-! TOKENS: what stands where; how the class finds them. -/
def isLb (x : Nat) : Bool := decide ((97 ≤ x ∧ x ≤ 122) ∨ (65 ≤ x ∧ x ≤ 90))
def isDb (x : Nat) : Bool := decide (48 ≤ x ∧ x ≤ 57)
def isKb (x : Nat) : Bool := decide (x = 32 ∨ x = 10)
theorem let_C {S : St} {x : Nat} (h : x < 256) : f_X5_isLetter S (ii x) = some (if isLb x = true then 1 else 0) := by
  unfold isLb
  by_cases q : (97 ≤ x ∧ x ≤ 122) ∨ (65 ≤ x ∧ x ≤ 90)
  · rw [decide_eq_true q, if_pos rfl]; exact (q_letC h).1 q
  · rw [decide_eq_false q, if_neg (by decide)]; exact (q_letC h).2 q
theorem let_R {S : St} {x : Nat} (h : x < 256) : f_X10_isLetterByte S (ii x) = some (if isLb x = true then 1 else 0) := by
  unfold isLb
  by_cases q : (97 ≤ x ∧ x ≤ 122) ∨ (65 ≤ x ∧ x ≤ 90)
  · rw [decide_eq_true q, if_pos rfl]; exact (q_letR h).1 q
  · rw [decide_eq_false q, if_neg (by decide)]; exact (q_letR h).2 q
theorem dig_C {S : St} {x : Nat} (h : x < 256) : f_X5_isDigit S (ii x) = some (if isDb x = true then 1 else 0) := by
  unfold isDb
  by_cases q : 48 ≤ x ∧ x ≤ 57
  · rw [decide_eq_true q, if_pos rfl]; exact (q_digC h).1 q
  · rw [decide_eq_false q, if_neg (by decide)]; exact (q_digC h).2 q
theorem dig_R {S : St} {x : Nat} (h : x < 256) : f_X10_isFigure S (ii x) = some (if isDb x = true then 1 else 0) := by
  unfold isDb
  by_cases q : 48 ≤ x ∧ x ≤ 57
  · rw [decide_eq_true q, if_pos rfl]; exact (q_digR h).1 q
  · rw [decide_eq_false q, if_neg (by decide)]; exact (q_digR h).2 q
def scn (P : Nat → Bool) : Nat → Nat → Nat
  | 0, p => p
  | m + 1, p => if P p = true then scn P m (p + 1) else p
def sc (b : Nat → Nat) (P : Nat → Bool) (n p : Nat) : Nat := scn (fun i => P (b i)) (n - p) p
theorem sc_end {b : Nat → Nat} {P : Nat → Bool} {n p : Nat} (h : n ≤ p) : sc b P n p = p := by
  unfold sc
  rw [show n - p = 0 by omega]
  rfl
theorem sc_go {b : Nat → Nat} {P : Nat → Bool} {n p : Nat} (h : p < n) (h2 : P (b p) = true) : sc b P n p = sc b P n (p + 1) := by
  unfold sc
  rw [show n - p = n - (p + 1) + 1 by omega]
  show (if P (b p) = true then scn (fun i => P (b i)) (n - (p + 1)) (p + 1) else p) = _
  rw [if_pos h2]
theorem sc_no {b : Nat → Nat} {P : Nat → Bool} {n p : Nat} (h : p < n) (h2 : ¬ P (b p) = true) : sc b P n p = p := by
  unfold sc
  rw [show n - p = n - (p + 1) + 1 by omega]
  show (if P (b p) = true then scn (fun i => P (b i)) (n - (p + 1)) (p + 1) else p) = _
  rw [if_neg h2]
theorem sc_ok {b : Nat → Nat} {P : Nat → Bool} {n : Nat} : ∀ (m p : Nat), p + m = n → p ≤ sc b P n p ∧ sc b P n p ≤ n ∧ (∀ i, p ≤ i → i < sc b P n p → P (b i) = true) ∧ (sc b P n p < n → ¬ P (b (sc b P n p)) = true) := by
  intro m
  induction m with
  | zero =>
    intro p h
    rw [sc_end (by omega)]
    exact ⟨by omega, by omega, fun i a c => by omega, fun z => by omega⟩
  | succ m ih =>
    intro p h
    by_cases q : P (b p) = true
    · obtain ⟨h1, h2, h3, h4⟩ := ih (p + 1) (by omega)
      rw [sc_go (by omega) q]
      refine ⟨by omega, h2, fun i a c => ?_, h4⟩
      by_cases z : i = p
      · rw [z]; exact q
      · exact h3 i (by omega) c
    · rw [sc_no (by omega) q]
      exact ⟨by omega, by omega, fun i a c => by omega, fun _ => q⟩
theorem sc_b {b : Nat → Nat} {P : Nat → Bool} {n p : Nat} (h : p ≤ n) : p ≤ sc b P n p ∧ sc b P n p ≤ n ∧ (∀ i, p ≤ i → i < sc b P n p → P (b i) = true) ∧ (sc b P n p < n → ¬ P (b (sc b P n p)) = true) := sc_ok (n - p) p (by omega)
def ncl (b : Nat → Nat) : Nat → Nat → Nat → Nat
  | 0, _, a => a
  | m + 1, p, a => if isDb (b p) = true then ncl b m (p + 1) (if a * 10 + b p - 48 < 10000 then a * 10 + b p - 48 else 10000) else a
def nre (b : Nat → Nat) : Nat → Nat → Nat → Nat
  | 0, _, a => a
  | m + 1, p, a => if isDb (b p) = true then nre b m (p + 1) (if a ≤ 99999 then 10 * a + b p - 48 else a) else a
theorem isDb_b {x : Nat} (h : isDb x = true) : 48 ≤ x ∧ x ≤ 57 := of_decide_eq_true h
theorem num_rel {b : Nat → Nat} : ∀ (m p x y : Nat), ((y ≤ 9999 ∧ x = y) ∨ (9999 < y ∧ x = 10000)) → y ≤ 1000000 → (((nre b m p y ≤ 9999 ∧ ncl b m p x = nre b m p y) ∨ (9999 < nre b m p y ∧ ncl b m p x = 10000)) ∧ nre b m p y ≤ 1000000) := by
  intro m
  induction m with
  | zero => intro p x y h h2; exact ⟨h, h2⟩
  | succ m ih =>
    intro p x y h h2
    rw [show nre b (m + 1) p y = (if isDb (b p) = true then nre b m (p + 1) (if y ≤ 99999 then 10 * y + b p - 48 else y) else y) from rfl, show ncl b (m + 1) p x = (if isDb (b p) = true then ncl b m (p + 1) (if x * 10 + b p - 48 < 10000 then x * 10 + b p - 48 else 10000) else x) from rfl]
    by_cases q : isDb (b p) = true
    · rw [if_pos q, if_pos q]
      have hd := isDb_b q
      refine ih (p + 1) _ _ ?_ ?_
      · by_cases z : y ≤ 99999
        · rw [if_pos z]
          by_cases z2 : x * 10 + b p - 48 < 10000
          · rw [if_pos z2]; omega
          · rw [if_neg z2]; omega
        · rw [if_neg z]
          by_cases z2 : x * 10 + b p - 48 < 10000
          · rw [if_pos z2]; omega
          · rw [if_neg z2]; omega
      · split <;> omega
    · rw [if_neg q, if_neg q]
      exact ⟨h, h2⟩
def BYT (S : St) (b : Nat → Nat) (n : Nat) : Prop := gI S 501 0 0 = ii n ∧ (∀ i, i < n → gI S 500 0 i = ii (b i)) ∧ n ≤ 300 ∧ ∀ i, b i < 256
def adt (S : St) (t : Nat) (k s v : Int32) : St := sI (sI (sI (sI S 502 0 t k) 503 0 t s) 504 0 t v) 505 0 0 (ii (t + 1))
theorem q_adt {S : St} {t : Nat} {k s v : Int32} (h : gI S 505 0 0 = ii t) (ht : t ≤ 300) : f_X5_add S k s v = some (adt S t k s v) := by
  unfold f_X5_add adt
  simp only [lt]
  have e1 : gI (sI S 502 0 t k) 505 0 0 = ii t := by rw [gI_sI, if_neg (by omega)]; exact h
  have e2 : gI (sI (sI S 502 0 t k) 503 0 t s) 505 0 0 = ii t := by rw [gI_sI, if_neg (by omega)]; exact e1
  have e3 : gI (sI (sI (sI S 502 0 t k) 503 0 t s) 504 0 t v) 505 0 0 = ii t := by rw [gI_sI, if_neg (by omega)]; exact e2
  rw [h, if_neg (show ¬ (301 : Int32) ≤ ii t by rw [show (301 : Int32) = ii 301 from rfl, ii_le (by omega) (by omega)]; omega), chk_true (inb_ii (by omega) (by omega)), ii_nat (by omega), e1, chk_true (inb_ii (by omega) (by omega)), ii_nat (by omega), e2, chk_true (inb_ii (by omega) (by omega)), ii_nat (by omega), e3, show ii t + (1 : Int32) = ii (t + 1) from ii_add t 1]
theorem q_takeNumber {S : St} {N : Nat} {b : Nat → Nat} {n s : Nat} (hB : BYT S b n) : ∀ (m p a fuel : Nat), p + m = n → m < fuel → a ≤ 10000 → f_X5_takeNumber_b4 N fuel (ii s) (ii p) (ii a) S = bnd (f_X5_add S 39 (ii s) (ii (ncl b (n - p) p a))) fun q => some (ii (sc b isDb n p), q) := by
  obtain ⟨h1, h2, h3, h4⟩ := hB
  intro m
  induction m with
  | zero =>
    intro p a fuel hp hf ha
    obtain ⟨fuel, rfl⟩ : ∃ f', fuel = f' + 1 := ⟨fuel - 1, by omega⟩
    rw [f_X5_takeNumber_b4, h1, if_pos (show ii n ≤ ii p by rw [ii_le (by omega) (by omega)]; omega), sc_end (by omega), show n - p = 0 by omega]
    rfl
  | succ m ih =>
    intro p a fuel hp hf ha
    obtain ⟨fuel, rfl⟩ : ∃ f', fuel = f' + 1 := ⟨fuel - 1, by omega⟩
    have hb := h4 p
    rw [f_X5_takeNumber_b4, h1, if_neg (show ¬ ii n ≤ ii p by rw [ii_le (by omega) (by omega)]; omega), chk_true (inb_ii (by omega) (by omega)), ii_nat (by omega), h2 p (by omega), bnd_of (dig_C hb)]
    by_cases q : isDb (b p) = true
    · have hd := isDb_b q
      rw [if_pos q, if_neg (show ¬ (1 : Int32) = 0 by decide), chk_true (inb_ii (by omega) (by omega))]
      simp only [lt]
      have e : (if ii a * (10 : Int32) + ii (b p) - (48 : Int32) < (10000 : Int32) then ii a * (10 : Int32) + ii (b p) - (48 : Int32) else (10000 : Int32)) = ii (if a * 10 + b p - 48 < 10000 then a * 10 + b p - 48 else 10000) := by
        have e1 : ii a * (10 : Int32) + ii (b p) - (48 : Int32) = ii (a * 10 + b p - 48) := by
          rw [show (10 : Int32) = ii 10 from rfl, show (48 : Int32) = ii 48 from rfl, ii_mul, ii_add, ii_sub (by omega)]
        rw [e1]
        have e2 : (ii (a * 10 + b p - 48) < (10000 : Int32)) = (a * 10 + b p - 48 < 10000) := ii_lt (b := 10000) (by omega) (by decide)
        by_cases z : a * 10 + b p - 48 < 10000
        · rw [if_pos (e2.mpr z), if_pos z]
        · rw [if_neg (fun y => z (e2.mp y)), if_neg z]; rfl
      rw [e, show ii p + (1 : Int32) = ii (p + 1) from ii_add p 1, ih (p + 1) _ fuel (by omega) (by omega) (by split <;> omega), sc_go (by omega) q, show n - p = n - (p + 1) + 1 by omega]
      show _ = bnd (f_X5_add S 39 (ii s) (ii (if isDb (b p) = true then ncl b (n - (p + 1)) (p + 1) (if a * 10 + b p - 48 < 10000 then a * 10 + b p - 48 else 10000) else a))) _
      rw [if_pos q]
    · rw [if_neg q, if_pos rfl, sc_no (by omega) q, show n - p = n - (p + 1) + 1 by omega]
      show _ = bnd (f_X5_add S 39 (ii s) (ii (if isDb (b p) = true then ncl b (n - (p + 1)) (p + 1) (if a * 10 + b p - 48 < 10000 then a * 10 + b p - 48 else 10000) else a))) _
      rw [if_neg q]
      rfl
theorem q_takeWord {S : St} {N : Nat} {b : Nat → Nat} {n s : Nat} (hB : BYT S b n) : ∀ (m p fuel : Nat), p + m = n → m < fuel → f_X5_takeWord_b2 N fuel (ii s) (ii p) S = f_X5_takeWord_b28 N (ii s) (ii (sc b isLb n p)) S := by
  obtain ⟨h1, h2, h3, h4⟩ := hB
  intro m
  induction m with
  | zero =>
    intro p fuel hp hf
    obtain ⟨fuel, rfl⟩ : ∃ f', fuel = f' + 1 := ⟨fuel - 1, by omega⟩
    rw [f_X5_takeWord_b2, h1, if_pos (show ii n ≤ ii p by rw [ii_le (by omega) (by omega)]; omega), sc_end (by omega)]
  | succ m ih =>
    intro p fuel hp hf
    obtain ⟨fuel, rfl⟩ : ∃ f', fuel = f' + 1 := ⟨fuel - 1, by omega⟩
    rw [f_X5_takeWord_b2, h1, if_neg (show ¬ ii n ≤ ii p by rw [ii_le (by omega) (by omega)]; omega), chk_true (inb_ii (by omega) (by omega)), ii_nat (by omega), h2 p (by omega), bnd_of (let_C (h4 p))]
    by_cases q : isLb (b p) = true
    · rw [if_pos q, if_neg (show ¬ (1 : Int32) = 0 by decide)]
      simp only [lt]
      rw [show ii p + (1 : Int32) = ii (p + 1) from ii_add p 1, ih (p + 1) fuel (by omega) (by omega), sc_go (by omega) q]
    · rw [if_neg q, if_pos rfl, sc_no (by omega) q]
/-- the text of words -/
theorem wch_at : ∀ k, k < 130 → wchN k = ii ((wcat wLs).getD k 0) ∧ (wcat wLs).getD k 0 < 256 := by decide +kernel
theorem wcat_len : (wcat wLs).length = 130 := by decide +kernel
theorem q_wordOf {S : St} {N : Nat} {b : Nat → Nat} {n s e : Nat} (hB : BYT S b n) (hse : s ≤ e) (hen : e ≤ n) : ∀ (m i w fuel : Nat) (x4 : Int32) (r : Option (List Nat)), i + m = 130 → m < fuel → w ≤ 1000 → ((r = none ∧ x4 = -1) ∨ (∃ t, s ≤ t ∧ t ≤ e ∧ x4 = ii t ∧ r = some (seg b t (e - t)))) → w + m ≤ 1000 → f_X5_wordOf_b8 N fuel (ii s) (ii e) (ii w) x4 (ii i) S = some (ii (wlk ((wcat wLs).drop i) (seg b s (e - s)) w r)) := by
  obtain ⟨h1, h2, h3, h4⟩ := hB
  intro m
  induction m with
  | zero =>
    intro i w fuel x4 r hi hf hw hr hwm
    obtain ⟨fuel, rfl⟩ : ∃ f', fuel = f' + 1 := ⟨fuel - 1, by omega⟩
    rw [f_X5_wordOf_b8, if_pos (show (130 : Int32) ≤ ii i by rw [show (130 : Int32) = ii 130 from rfl, ii_le (by omega) (by omega)]; omega), List.drop_eq_nil_of_le (by rw [wcat_len]; omega)]
    rfl
  | succ m ih =>
    intro i w fuel x4 r hi hf hw hr hwm
    obtain ⟨fuel, rfl⟩ : ∃ f', fuel = f' + 1 := ⟨fuel - 1, by omega⟩
    obtain ⟨c1, c2⟩ := wch_at i (by omega)
    have hd : (wcat wLs).drop i = (wcat wLs).getD i 0 :: (wcat wLs).drop (i + 1) := by
      rw [List.drop_eq_getElem_cons (by rw [wcat_len]; omega), List.getD_eq_getElem?_getD, List.getElem?_eq_getElem (by rw [wcat_len]; omega)]
      rfl
    rw [hd]
    generalize hc : (wcat wLs).getD i 0 = c at *
    have ew : wch (ii i) = ii c := by
      unfold wch
      rw [ii_nat (by omega)]
      exact c1
    have c32 : (ii c = (32 : Int32)) = (c = 32) := ii_eq (b := 32) (by omega) (by decide)
    have wl : wlk (c :: (wcat wLs).drop (i + 1)) (seg b s (e - s)) w r = if c = 32 then (if r = some [] then w else wlk ((wcat wLs).drop (i + 1)) (seg b s (e - s)) (w + 1) (some (seg b s (e - s)))) else wlk ((wcat wLs).drop (i + 1)) (seg b s (e - s)) w (wst c r) := rfl
    rw [f_X5_wordOf_b8, if_neg (show ¬ (130 : Int32) ≤ ii i by rw [show (130 : Int32) = ii 130 from rfl, ii_le (by omega) (by omega)]; omega), chk_true (inb_ii (by omega) (by omega)), wl]
    simp only [lt]
    rw [ew, show ii i + (1 : Int32) = ii (i + 1) from ii_add i 1]
    by_cases q : c = 32
    · rw [if_pos (c32.mpr q), if_pos q]
      have again : f_X5_wordOf_b8 N fuel (ii s) (ii e) (ii (w + 1)) (ii s) (ii (i + 1)) S = some (ii (wlk ((wcat wLs).drop (i + 1)) (seg b s (e - s)) (w + 1) (some (seg b s (e - s))))) := ih (i + 1) (w + 1) fuel (ii s) _ (by omega) (by omega) (by omega) (Or.inr ⟨s, Nat.le_refl _, hse, rfl, rfl⟩) (by omega)
      rw [show ii w + (1 : Int32) = ii (w + 1) from ii_add w 1]
      rcases hr with ⟨r0, x0⟩ | ⟨t, t0, t1, x0, r0⟩
      · rw [x0, if_neg (show ¬ (-1 : Int32) = ii e from fun z => by
          have := congrArg Int32.toInt z
          rw [ii_toInt (by omega), show (-1 : Int32).toInt = -1 from rfl] at this
          omega), r0, if_neg (by simp)]
        exact again
      · have et : (ii t = ii e) = (t = e) := ii_eq (by omega) (by omega)
        by_cases z : t = e
        · rw [x0, if_pos (et.mpr z), r0, z, Nat.sub_self, if_pos (show some (seg b e 0) = some [] from rfl)]
        · have ne : ¬ seg b t (e - t) = [] := fun y => by
            have := congrArg List.length y
            rw [seg_len] at this
            simp only [List.length_nil] at this
            omega
          rw [x0, if_neg (fun y => z (et.mp y)), r0, if_neg (fun y => ne (Option.some.inj y))]
          exact again
    · rw [if_neg (fun z => q (c32.mp z)), if_neg q]
      have none_ : f_X5_wordOf_b8 N fuel (ii s) (ii e) (ii w) (-1) (ii (i + 1)) S = some (ii (wlk ((wcat wLs).drop (i + 1)) (seg b s (e - s)) w none)) := ih (i + 1) w fuel (-1) none (by omega) (by omega) hw (Or.inl ⟨rfl, rfl⟩) (by omega)
      rcases hr with ⟨r0, x0⟩ | ⟨t, t0, t1, x0, r0⟩
      · rw [x0, if_pos (by decide), r0]
        exact none_
      · have l0 : ¬ ii t < (0 : Int32) := by rw [show (0 : Int32) = ii 0 from rfl, ii_lt (by omega) (by omega)]; omega
        have et : (ii e ≤ ii t) = (e ≤ t) := ii_le (by omega) (by omega)
        rw [x0, if_neg l0, r0]
        by_cases z : e ≤ t
        · rw [if_pos (et.mpr z), show e - t = 0 by omega]
          exact none_
        · have sg : seg b t (e - t) = b t :: seg b (t + 1) (e - (t + 1)) := by
            rw [show e - t = e - (t + 1) + 1 by omega]
            rfl
          have bc : (ii (b t) = ii c) = (b t = c) := ii_eq (by have := h4 t; omega) (by omega)
          rw [if_neg (fun y => z (et.mp y)), chk_true (inb_ii (by omega) (by omega)), ii_nat (by omega), h2 t (by omega), sg]
          show _ = some (ii (wlk ((wcat wLs).drop (i + 1)) (seg b s (e - s)) w (if b t = c then some (seg b (t + 1) (e - (t + 1))) else none)))
          by_cases y : b t = c
          · rw [if_pos (bc.mpr y), if_pos y, show ii t + (1 : Int32) = ii (t + 1) from ii_add t 1]
            exact ih (i + 1) w fuel _ _ (by omega) (by omega) hw (Or.inr ⟨t + 1, by omega, by omega, rfl, rfl⟩) (by omega)
          · rw [if_neg (fun u => y (bc.mp u)), if_neg y]
            exact none_
theorem wLs_32 : ∀ wd ∈ wLs, ∀ x ∈ wd, x ≠ 32 := by decide +kernel
theorem x_wordOf {S : St} {N : Nat} {b : Nat → Nat} {n s e : Nat} (hN : 4000 < N) (hB : BYT S b n) (hse : s ≤ e) (hen : e ≤ n) : f_X5_wordOf N S (ii s) (ii e) = some (ii (wkind (seg b s (e - s)))) := by
  have := q_wordOf (N := N) hB hse hen 130 0 0 N (ii s) (some (seg b s (e - s))) (by decide) (by omega) (by decide) (Or.inr ⟨s, Nat.le_refl _, hse, rfl, rfl⟩) (by decide)
  unfold f_X5_wordOf wkind
  rw [← wlk_all wLs 0 wLs_32]
  exact this
