/-! TOKENS: the stream; the class finds it. -/
def eqb (b : Nat → Nat) (n p : Nat) : Bool := decide ((p + 1 < n ∧ b (p + 1) = 61) ∧ (b p = 60 ∨ b p = 62))
def tken (b : Nat → Nat) (n p : Nat) : Nat := if isLb (b p) = true then sc b isLb n p else if isDb (b p) = true then sc b isDb n p else if eqb b n p = true then p + 2 else p + 1
def sgk (x : Nat) : Nat := if x = 35 then 31 else if x = 40 then 36 else if x = 41 then 37 else if x = 42 then 34 else if x = 43 then 32 else if x = 45 then 33 else if x = 47 then 35 else if x = 59 then 38 else if x = 60 then 28 else if x = 61 then 30 else if x = 62 then 29 else 41
def tkd (b : Nat → Nat) (n p : Nat) : Nat := if n ≤ p then 40 else if isLb (b p) = true then wkind (seg b p (sc b isLb n p - p)) else if isDb (b p) = true then 39 else if eqb b n p = true then (if b p = 60 then 26 else 27) else sgk (b p)
def tnm (b : Nat → Nat) (n p : Nat) : Nat := if n ≤ p then 0 else if isLb (b p) = true then 0 else if isDb (b p) = true then ncl b (n - p) p 0 else 0
def enp (b : Nat → Nat) (n : Nat) : Nat → Nat
  | 0 => 0
  | i + 1 => if n ≤ sc b isKb n (enp b n i) then n else tken b n (sc b isKb n (enp b n i))
def plc (b : Nat → Nat) (n i : Nat) : Nat := sc b isKb n (enp b n i)
theorem tken_b {b : Nat → Nat} {n p : Nat} (h : p < n) : p < tken b n p ∧ tken b n p ≤ n := by
  unfold tken
  by_cases q : isLb (b p) = true
  · rw [if_pos q, sc_go h q]
    have := sc_b (b := b) (P := isLb) (n := n) (p := p + 1) (by omega)
    omega
  · rw [if_neg q]
    by_cases q2 : isDb (b p) = true
    · rw [if_pos q2, sc_go h q2]
      have := sc_b (b := b) (P := isDb) (n := n) (p := p + 1) (by omega)
      omega
    · rw [if_neg q2]
      by_cases q3 : eqb b n p = true
      · rw [if_pos q3]
        have := (of_decide_eq_true q3).1.1
        omega
      · rw [if_neg q3]; omega
theorem enp_le {b : Nat → Nat} {n : Nat} : ∀ i, enp b n i ≤ n := by
  intro i
  induction i with
  | zero => exact Nat.zero_le _
  | succ i ih =>
    unfold enp
    by_cases q : n ≤ sc b isKb n (enp b n i)
    · rw [if_pos q]; exact Nat.le_refl _
    · rw [if_neg q]; exact (tken_b (by omega)).2
theorem plc_b {b : Nat → Nat} {n : Nat} (i : Nat) : enp b n i ≤ plc b n i ∧ plc b n i ≤ n := by
  have := sc_b (b := b) (P := isKb) (enp_le (b := b) (n := n) i)
  exact ⟨this.1, this.2.1⟩
theorem enp_next {b : Nat → Nat} {n i : Nat} (h : plc b n i < n) : enp b n (i + 1) = tken b n (plc b n i) := by
  show (if n ≤ sc b isKb n (enp b n i) then n else tken b n (sc b isKb n (enp b n i))) = _
  rw [if_neg (by show ¬ n ≤ plc b n i; omega)]
  rfl
theorem enp_end {b : Nat → Nat} {n i : Nat} (h : n ≤ plc b n i) : enp b n (i + 1) = n := if_pos h
theorem enp_ge {b : Nat → Nat} {n : Nat} : ∀ i, (∀ j, j < i → plc b n j < n) → i ≤ enp b n i := by
  intro i
  induction i with
  | zero => intro _; exact Nat.zero_le _
  | succ i ih =>
    intro h
    rw [enp_next (h i (by omega))]
    have h1 := ih (fun j hj => h j (by omega))
    have h2 := plc_b (b := b) (n := n) i
    have h3 := tken_b (b := b) (h i (by omega))
    omega
theorem sgk_C (S : St) {x : Nat} (h : x < 256) : f_X5_signOf S (ii x) = some (ii (sgk x)) := by
  have key : ∀ x : Fin 256, f_X5_signOf ((fun _ _ _ => 0, fun _ _ _ => 0, fun _ _ _ => 0, fun _ => none, 0) : St) (ii x.val) = some (ii (sgk x.val)) := by decide +kernel
  exact key ⟨x, h⟩
theorem x_takeToken {S : St} {N : Nat} {b : Nat → Nat} {n p t : Nat} (hN : 4000 < N) (hB : BYT S b n) (hp : p < n) (ht : gI S 505 0 0 = ii t) (ht2 : t ≤ 300) : f_X5_takeToken N S (ii p) = some (ii (tken b n p), adt S t (ii (tkd b n p)) (ii p) (ii (tnm b n p))) := by
  obtain ⟨h1, h2, h3, h4⟩ := id hB
  have hb := h4 p
  have ek : tkd b n p = if isLb (b p) = true then wkind (seg b p (sc b isLb n p - p)) else if isDb (b p) = true then 39 else if eqb b n p = true then (if b p = 60 then 26 else 27) else sgk (b p) := if_neg (by omega)
  have en : tnm b n p = if isLb (b p) = true then 0 else if isDb (b p) = true then ncl b (n - p) p 0 else 0 := if_neg (by omega)
  rw [ek, en]
  unfold f_X5_takeToken tken
  rw [chk_true (inb_ii (by omega) (by omega)), ii_nat (by omega), h2 p hp, bnd_of (let_C hb)]
  by_cases q : isLb (b p) = true
  · have sb := sc_b (b := b) (P := isLb) (n := n) (p := p) (by omega)
    rw [if_pos q, if_pos q, if_pos q, if_pos q, if_neg (show ¬ (1 : Int32) = 0 by decide)]
    unfold f_X5_takeWord
    rw [q_takeWord hB (n - p) p N (by omega) (by omega)]
    unfold f_X5_takeWord_b28
    rw [bnd_of (x_wordOf hN hB sb.1 sb.2.1), bnd_of (q_adt ht ht2)]
    rfl
  · rw [if_neg q, if_neg q, if_neg q, if_neg q, if_pos rfl, chk_true (inb_ii (by omega) (by omega)), bnd_of (dig_C hb)]
    by_cases q2 : isDb (b p) = true
    · rw [if_pos q2, if_pos q2, if_pos q2, if_pos q2, if_neg (show ¬ (1 : Int32) = 0 by decide)]
      unfold f_X5_takeNumber
      have := q_takeNumber (N := N) (s := p) hB (n - p) p 0 N (by omega) (by omega) (by decide)
      rw [show (0 : Int32) = ii 0 from rfl, this, bnd_of (q_adt ht ht2)]
      rfl
    · rw [if_neg q2, if_neg q2, if_neg q2, if_neg q2, if_pos rfl, h1, show ii p + (1 : Int32) = ii (p + 1) from ii_add p 1]
      have sign : f_X5_takeToken_b119 N (ii p) S = some (ii (p + 1), adt S t (ii (sgk (b p))) (ii p) (ii 0)) := by
        unfold f_X5_takeToken_b119
        rw [chk_true (inb_ii (by omega) (by omega)), ii_nat (by omega), h2 p hp, bnd_of (sgk_C S hb), bnd_of (q_adt ht ht2), show ii p + (1 : Int32) = ii (p + 1) from ii_add p 1]
        rfl
      have b60 : (ii (b p) = (60 : Int32)) = (b p = 60) := ii_eq (b := 60) (by omega) (by decide)
      have b62 : (ii (b p) = (62 : Int32)) = (b p = 62) := ii_eq (b := 62) (by omega) (by decide)
      have np : (ii n ≤ ii (p + 1)) = (n ≤ p + 1) := ii_le (by omega) (by omega)
      unfold f_X5_takeToken_b63 f_X5_takeToken_b64
      rw [if_pos rfl]
      by_cases q3 : n ≤ p + 1
      · rw [if_pos (np.mpr q3), if_neg (show ¬ eqb b n p = true from fun z => by have := (of_decide_eq_true z).1.1; omega), if_neg (show ¬ eqb b n p = true from fun z => by have := (of_decide_eq_true z).1.1; omega)]
        exact sign
      · have b61 : (ii (b (p + 1)) = (61 : Int32)) = (b (p + 1) = 61) := ii_eq (b := 61) (by have := h4 (p + 1); omega) (by decide)
        rw [if_neg (fun z => q3 (np.mp z)), chk_true (inb_ii (by omega) (by omega)), ii_nat (by omega), h2 (p + 1) (by omega)]
        by_cases q4 : b (p + 1) = 61
        · rw [if_pos (b61.mpr q4), if_neg (show ¬ (1 : Int32) = 0 by decide), chk_true (inb_ii (by omega) (by omega)), ii_nat (by omega), h2 p hp]
          have two : ∀ k : Nat, f_X5_takeToken_b110 N (ii p) (ii k) S = some (ii (p + 2), adt S t (ii k) (ii p) (ii 0)) := fun k => by
            unfold f_X5_takeToken_b110
            rw [bnd_of (q_adt ht ht2), show ii p + (2 : Int32) = ii (p + 2) from ii_add p 2]
            rfl
          unfold f_X5_takeToken_b91
          rw [chk_true (inb_ii (by omega) (by omega)), ii_nat (by omega), h2 p hp]
          by_cases q5 : b p = 60
          · have ey : eqb b n p = true := decide_eq_true ⟨⟨by omega, q4⟩, Or.inl q5⟩
            rw [if_pos (b60.mpr q5), if_pos (b60.mpr q5), if_pos ey, if_pos ey, if_pos q5]
            exact two 26
          · rw [if_neg (fun z => q5 (b60.mp z)), chk_true (inb_ii (by omega) (by omega))]
            by_cases q6 : b p = 62
            · have ey : eqb b n p = true := decide_eq_true ⟨⟨by omega, q4⟩, Or.inr q6⟩
              rw [if_pos (b62.mpr q6), if_neg (fun z => q5 (b60.mp z)), if_pos ey, if_pos ey, if_neg q5]
              exact two 27
            · have ey : ¬ eqb b n p = true := fun z => by have := (of_decide_eq_true z).2; omega
              rw [if_neg (fun z => q6 (b62.mp z)), if_neg ey, if_neg ey]
              exact sign
        · have ey : ¬ eqb b n p = true := fun z => q4 (of_decide_eq_true z).1.2
          rw [if_neg (fun z => q4 (b61.mp z)), if_neg ey, if_neg ey]
          exact sign
/-- the arrays of tokens so far -/
def TKS (S : St) (b : Nat → Nat) (n t : Nat) : Prop := gI S 505 0 0 = ii t ∧ ∀ j, j < t → gI S 502 0 j = ii (tkd b n (plc b n j)) ∧ gI S 503 0 j = ii (plc b n j) ∧ gI S 504 0 j = ii (tnm b n (plc b n j))
def TKP (f _j : Nat) : Prop := 502 ≤ f ∧ f ≤ 505
theorem TKS_add {S : St} {b : Nat → Nat} {n t : Nat} (h : TKS S b n t) : TKS (adt S t (ii (tkd b n (plc b n t))) (ii (plc b n t)) (ii (tnm b n (plc b n t)))) b n (t + 1) := by
  refine ⟨by unfold adt; rw [gI_sI, if_pos ⟨rfl, rfl, rfl⟩], fun j hj => ?_⟩
  unfold adt
  by_cases z : j = t
  · subst z
    refine ⟨?_, ?_, ?_⟩
    · rw [gI_sI, if_neg (by omega), gI_sI, if_neg (by omega), gI_sI, if_neg (by omega), gI_sI, if_pos ⟨rfl, rfl, rfl⟩]
    · rw [gI_sI, if_neg (by omega), gI_sI, if_neg (by omega), gI_sI, if_pos ⟨rfl, rfl, rfl⟩]
    · rw [gI_sI, if_neg (by omega), gI_sI, if_pos ⟨rfl, rfl, rfl⟩]
  · obtain ⟨a, b', c⟩ := h.2 j (by omega)
    refine ⟨?_, ?_, ?_⟩
    · rw [gI_sI, if_neg (by omega), gI_sI, if_neg (by omega), gI_sI, if_neg (by omega), gI_sI, if_neg (by omega)]; exact a
    · rw [gI_sI, if_neg (by omega), gI_sI, if_neg (by omega), gI_sI, if_neg (by omega), gI_sI, if_neg (by omega)]; exact b'
    · rw [gI_sI, if_neg (by omega), gI_sI, if_neg (by omega), gI_sI, if_neg (by omega), gI_sI, if_neg (by omega)]; exact c
theorem FX_adt {S S1 : St} {t : Nat} {k s v : Int32} (h : FX TKP S S1) : FX TKP S (adt S1 t k s v) := FX_sI (FX_sI (FX_sI (FX_sI h (by unfold TKP; omega)) (by unfold TKP; omega)) (by unfold TKP; omega)) (by unfold TKP; omega)
theorem BYT_FX {S S1 : St} {b : Nat → Nat} {n : Nat} (h : FX TKP S S1) (hB : BYT S b n) : BYT S1 b n := ⟨(h.1 501 0 0 (by unfold TKP; omega)).trans hB.1, fun i hi => (h.1 500 0 i (by unfold TKP; omega)).trans (hB.2.1 i hi), hB.2.2⟩
theorem x_findTokens {S : St} {N : Nat} {b : Nat → Nat} {n : Nat} (hN : 4000 < N) (hB : BYT S b n) : ∀ (m p t fuel : Nat) (S1 : St), p + m = n → m < fuel → FX TKP S S1 → TKS S1 b n t → t ≤ p → sc b isKb n p = plc b n t → (∀ j, j < t → plc b n j < n) → ∃ S2 t2, f_X5_findTokens_b7 N fuel (ii p) S1 = some S2 ∧ FX TKP S S2 ∧ t2 ≤ 300 ∧ TKS S2 b n (t2 + 1) ∧ plc b n t2 = n ∧ ∀ j, j < t2 → plc b n j < n := by
  have n300 := hB.2.2.1
  intro m
  induction m using Nat.strongRecOn with
  | ind m ih =>
    intro p t fuel S1 hp hf F1 hK htp hsc hall
    obtain ⟨fuel, rfl⟩ : ∃ f', fuel = f' + 1 := ⟨fuel - 1, by omega⟩
    have hB1 := BYT_FX F1 hB
    obtain ⟨h1, h2, h3, h4⟩ := id hB1
    have hb := h4 p
    have np : (ii n ≤ ii p) = (n ≤ p) := ii_le (by omega) (by omega)
    rw [f_X5_findTokens_b7, h1]
    by_cases q : n ≤ p
    · have pn : plc b n t = n := by rw [← hsc, sc_end q]; omega
      rw [if_pos (np.mpr q), bnd_of (q_adt hK.1 (by omega))]
      refine ⟨_, t, rfl, FX_adt F1, by omega, ?_, pn, hall⟩
      have := TKS_add hK
      rw [show tkd b n (plc b n t) = 40 from if_pos (by omega), show tnm b n (plc b n t) = 0 from if_pos (by omega), pn] at this
      exact this
    · have b32 : (ii (b p) = (32 : Int32)) = (b p = 32) := ii_eq (b := 32) (by omega) (by decide)
      have b10 : (ii (b p) = (10 : Int32)) = (b p = 10) := ii_eq (b := 10) (by omega) (by decide)
      have skip : isKb (b p) = true → ∃ S2 t2, f_X5_findTokens_b7 N fuel (ii p + 1) S1 = some S2 ∧ FX TKP S S2 ∧ t2 ≤ 300 ∧ TKS S2 b n (t2 + 1) ∧ plc b n t2 = n ∧ ∀ j, j < t2 → plc b n j < n := by
        intro z
        rw [show ii p + (1 : Int32) = ii (p + 1) from ii_add p 1]
        exact ih (m - 1) (by omega) (p + 1) t fuel S1 (by omega) (by omega) F1 hK (by omega) (by rw [← hsc, sc_go (by omega) z]) hall
      rw [if_neg (fun z => q (np.mp z)), chk_true (inb_ii (by omega) (by omega)), ii_nat (by omega), h2 p (by omega)]
      by_cases q1 : b p = 32
      · rw [if_pos (b32.mpr q1)]
        exact skip (decide_eq_true (Or.inl q1))
      · rw [if_neg (fun z => q1 (b32.mp z)), chk_true (inb_ii (by omega) (by omega))]
        by_cases q2 : b p = 10
        · rw [if_pos (b10.mpr q2)]
          exact skip (decide_eq_true (Or.inr q2))
        · have nk : ¬ isKb (b p) = true := fun z => by have := of_decide_eq_true z; omega
          have pp : plc b n t = p := by rw [← hsc, sc_no (by omega) nk]
          have tb := tken_b (b := b) (n := n) (p := p) (by omega)
          rw [if_neg (fun z => q2 (b10.mp z)), bnd_of (x_takeToken hN hB1 (by omega) hK.1 (by omega))]
          simp only [lt]
          have mx : (if ii p + (1 : Int32) < ii (tken b n p) then ii (tken b n p) else ii p + 1) = ii (tken b n p) := by
            rw [show ii p + (1 : Int32) = ii (p + 1) from ii_add p 1]
            have l : (ii (p + 1) < ii (tken b n p)) = (p + 1 < tken b n p) := ii_lt (by omega) (by omega)
            by_cases z : p + 1 < tken b n p
            · rw [if_pos (l.mpr z)]
            · rw [if_neg (fun y => z (l.mp y)), show tken b n p = p + 1 by omega]
          rw [mx]
          have hK2 := TKS_add hK
          rw [pp] at hK2
          refine ih (n - tken b n p) (by omega) (tken b n p) (t + 1) fuel _ (by omega) (by omega) (FX_adt F1) hK2 (by omega) ?_ (fun j hj => ?_)
          · show _ = sc b isKb n (enp b n (t + 1))
            rw [enp_next (by omega), pp]
          · by_cases z : j = t
            · rw [z]; omega
            · exact hall j (by omega)
