/-! TOKENS: what the reference can tell of one. -/
def cdk (q : Nat) : Nat := if q = 26 then 4 else if q = 27 then 5 else if q = 28 then 60 else if q = 29 then 62 else if q = 30 then 61 else if q = 31 then 35 else if q = 32 then 43 else if q = 33 then 45 else if q = 34 then 42 else if q = 35 then 47 else if q = 36 then 40 else if q = 37 then 41 else if q = 38 then 59 else if q = 39 then 1 else 0
theorem cdk_f : ∀ q, q < 41 → 26 ≤ q → (0 = cdk q ↔ 40 = q) ∧ (1 = cdk q ↔ 39 = q) ∧ (4 = cdk q ↔ 26 = q) ∧ (5 = cdk q ↔ 27 = q) ∧ cdk q ≠ 2 ∧ cdk q < 256 := by decide +kernel
theorem cdk_s : ∀ x : Fin 256, ∀ q : Fin 41, 26 ≤ q.val → ((if sgs x.val = true then x.val else 3) = cdk q.val ↔ sgk x.val = q.val) := by decide +kernel
theorem sgk_b : ∀ x : Fin 256, 28 ≤ sgk x.val ∧ sgk x.val ≤ 41 ∧ sgk x.val ≠ 39 ∧ sgk x.val ≠ 40 ∧ (if sgs x.val = true then x.val else 3) ≠ 2 ∧ (if sgs x.val = true then x.val else 3) < 256 := by decide +kernel
theorem tkd_in {b : Nat → Nat} {n p : Nat} (h : p < n) : tkd b n p = if isLb (b p) = true then wkind (seg b p (sc b isLb n p - p)) else if isDb (b p) = true then 39 else if eqb b n p = true then (if b p = 60 then 26 else 27) else sgk (b p) := if_neg (by omega)
theorem wkind_b (l : List Nat) : wkind l = 41 ∨ wkind l < 26 := by
  rcases wkind_lt l with q | ⟨q, _⟩
  · exact Or.inl q
  · exact Or.inr q
theorem TKF_in {b : Nat → Nat} {n p : Nat} {R : St} (h : p < n) : TKF b n p R = if isLb (b p) = true then gI R 1009 0 0 = ii 2 ∧ gL R 1011 0 0 = ll (wn (seg b p (sc b isLb n p - p)).reverse) else if isDb (b p) = true then gI R 1009 0 0 = ii 1 ∧ gI R 1010 0 0 = ii (nre b (n - p) p 0) else if eqb b n p = true then gI R 1009 0 0 = ii (if b p = 60 then 4 else 5) else gI R 1009 0 0 = ii (if sgs (b p) = true then b p else 3) := if_neg (by omega)
/-- every token is one of five sorts -/
theorem tk_five {b : Nat → Nat} {n p : Nat} {R : St} (hb : ∀ i, b i < 256) (h : TKF b n p R) : (n ≤ p ∧ tkd b n p = 40 ∧ gI R 1009 0 0 = ii 0) ∨ (p < n ∧ isLb (b p) = true ∧ tkd b n p = wkind (seg b p (sc b isLb n p - p)) ∧ gI R 1009 0 0 = ii 2 ∧ gL R 1011 0 0 = ll (wn (seg b p (sc b isLb n p - p)).reverse)) ∨ (p < n ∧ ¬ isLb (b p) = true ∧ isDb (b p) = true ∧ tkd b n p = 39 ∧ gI R 1009 0 0 = ii 1 ∧ gI R 1010 0 0 = ii (nre b (n - p) p 0)) ∨ (∃ c : Nat, p < n ∧ c < 256 ∧ c ≠ 2 ∧ gI R 1009 0 0 = ii c ∧ 26 ≤ tkd b n p ∧ tkd b n p ≠ 39 ∧ tkd b n p ≠ 40 ∧ tkd b n p ≤ 41 ∧ ∀ q, q < 41 → 26 ≤ q → (c = cdk q ↔ tkd b n p = q)) := by
  by_cases q : n ≤ p
  · refine Or.inl ⟨q, if_pos q, ?_⟩
    unfold TKF at h
    rw [if_pos q] at h
    exact h
  · have hp : p < n := by omega
    rw [TKF_in hp] at h
    rw [tkd_in hp]
    by_cases ql : isLb (b p) = true
    · rw [if_pos ql] at h
      rw [if_pos ql]
      exact Or.inr (Or.inl ⟨hp, ql, rfl, h.1, h.2⟩)
    · rw [if_neg ql] at h
      rw [if_neg ql]
      by_cases qd : isDb (b p) = true
      · rw [if_pos qd] at h
        rw [if_pos qd]
        exact Or.inr (Or.inr (Or.inl ⟨hp, ql, qd, rfl, h.1, h.2⟩))
      · rw [if_neg qd] at h
        rw [if_neg qd]
        by_cases qe : eqb b n p = true
        · rw [if_pos qe] at h
          rw [if_pos qe]
          by_cases q60 : b p = 60
          · rw [if_pos q60] at h
            rw [if_pos q60]
            exact Or.inr (Or.inr (Or.inr ⟨4, hp, by decide, by decide, h, by decide, by decide, by decide, by decide, fun q a c => (cdk_f q a c).2.2.1⟩))
          · rw [if_neg q60] at h
            rw [if_neg q60]
            exact Or.inr (Or.inr (Or.inr ⟨5, hp, by decide, by decide, h, by decide, by decide, by decide, by decide, fun q a c => (cdk_f q a c).2.2.2.1⟩))
        · rw [if_neg qe] at h
          rw [if_neg qe]
          obtain ⟨s1, s2, s3, s4, s5, s6⟩ := sgk_b ⟨b p, hb p⟩
          simp only at s1 s2 s3 s4 s5 s6
          exact Or.inr (Or.inr (Or.inr ⟨_, hp, s6, s5, h, by omega, s3, s4, s2, fun q a c => cdk_s ⟨b p, hb p⟩ ⟨q, a⟩ c⟩))
theorem o_is {b : Nat → Nat} {n i : Nat} {R : St} (h : TRR b n R i) {q : Nat} (q0 : 26 ≤ q) (q1 : q < 41) : (gI R 1009 0 0 = ii (cdk q)) = (tkd b n (plc b n i) = q) := by
  obtain ⟨hB, -, -, hT⟩ := h
  obtain ⟨f0, f1, f4, f5, f2, fb⟩ := cdk_f q q1 q0
  rcases tk_five hB.2.2.2 hT with ⟨a1, a2, a3⟩ | ⟨a1, a2, a3, a4, a5⟩ | ⟨a1, a2, a3, a4, a5, a6⟩ | ⟨c, a1, a2, a3, a4, a5, a6, a7, a8, a9⟩
  · rw [a3, a2, ii_eq (by omega) (by omega)]; exact propext f0
  · rw [a4, a3, ii_eq (by omega) (by omega)]
    have := wkind_b (seg b (plc b n i) (sc b isLb n (plc b n i) - plc b n i))
    exact propext ⟨fun z => by omega, fun z => by omega⟩
  · rw [a5, a4, ii_eq (by omega) (by omega)]; exact propext f1
  · rw [a4, ii_eq (by omega) (by omega)]; exact propext (a9 q q1 q0)
theorem seg_let {b : Nat → Nat} {n p : Nat} (hb : ∀ i, b i < 256) (h : p < n) : ∀ x ∈ seg b p (sc b isLb n p - p), 65 ≤ x ∧ x < 256 := by
  have s := sc_b (b := b) (P := isLb) (n := n) (p := p) (by omega)
  refine seg_mem b (P := fun x => 65 ≤ x ∧ x < 256) _ _ (fun i a c => ⟨?_, hb i⟩)
  have := of_decide_eq_true (s.2.2.1 i a (by omega))
  omega
theorem wn_le {l : List Nat} (h : ∀ x ∈ l, 65 ≤ x ∧ x < 256) : wn l.reverse ≤ 1152921504606846976 := wn_b _ (fun x hx => (h x (List.mem_reverse.mp hx)).2)
theorem lw_eq {l : List Nat} (h : ∀ x ∈ l, 65 ≤ x ∧ x < 256) {k : Nat} (hk : k < 26) (h18 : k ≠ 18) : (lg_cmp (ll (wn l.reverse)) (ll (wv k)) = (0 : Int32)) = (wkind l = k) := by
  have b1 := wn_le h
  have b2 := wv_b k hk h18
  rw [cmp_zero]
  exact propext ⟨fun e => (wv_iff h hk h18).1 (ll_inj (by omega) (by omega) e), fun e => by rw [(wv_iff h hk h18).2 e]⟩
theorem o_word {b : Nat → Nat} {n i : Nat} {R : St} (h : TRR b n R i) {k : Nat} (hk : k < 26) (h18 : k ≠ 18) : f_X10_isWord R (ll (wv k)) = some (if tkd b n (plc b n i) = k then 1 else 0) := by
  obtain ⟨hB, -, -, hT⟩ := h
  unfold f_X10_isWord
  have no2 : ∀ c : Nat, c < 256 → c ≠ 2 → ¬ ii c = (2 : Int32) := fun c hc h2 => by rw [show (2 : Int32) = ii 2 from rfl, ii_eq (by omega) (by omega)]; exact h2
  rcases tk_five hB.2.2.2 hT with ⟨a1, a2, a3⟩ | ⟨a1, a2, a3, a4, a5⟩ | ⟨a1, a2, a3, a4, a5, a6⟩ | ⟨c, a1, a2, a3, a4, a5, a6, a7, a8, a9⟩
  · rw [a3, a2, if_neg (no2 0 (by decide) (by decide)), if_neg (by omega)]
  · have e := lw_eq (seg_let hB.2.2.2 a1) hk h18
    rw [a4, if_pos (show ii 2 = 2 from rfl), a5, a3]
    by_cases z : wkind (seg b (plc b n i) (sc b isLb n (plc b n i) - plc b n i)) = k
    · rw [if_pos (e.mpr z), if_pos z]
    · rw [if_neg (fun y => z (e.mp y)), if_neg z]
  · rw [a5, a4, if_neg (no2 1 (by decide) (by decide)), if_neg (by omega)]
  · rw [a4, if_neg (no2 c a2 a3), if_neg (by omega)]
theorem o_num {b : Nat → Nat} {n i : Nat} {R : St} (h : TRR b n R i) (h39 : tkd b n (plc b n i) = 39) : ∃ m : Nat, gI R 1010 0 0 = ii m ∧ m ≤ 1000000 ∧ ((m ≤ 9999 ∧ tnm b n (plc b n i) = m) ∨ (9999 < m ∧ tnm b n (plc b n i) = 10000)) := by
  obtain ⟨hB, -, -, hT⟩ := h
  rcases tk_five hB.2.2.2 hT with ⟨a1, a2, a3⟩ | ⟨a1, a2, a3, a4, a5⟩ | ⟨a1, a2, a3, a4, a5, a6⟩ | ⟨c, a1, a2, a3, a4, a5, a6, a7, a8, a9⟩
  · omega
  · have := wkind_b (seg b (plc b n i) (sc b isLb n (plc b n i) - plc b n i)); omega
  · have e : tnm b n (plc b n i) = ncl b (n - plc b n i) (plc b n i) 0 := by
      unfold tnm
      rw [if_neg (by omega), if_neg a2, if_pos a3]
    have := num_rel (b := b) (n - plc b n i) (plc b n i) 0 0 (Or.inl ⟨by decide, rfl⟩) (by decide)
    rw [e]
    exact ⟨_, a6, this.2, this.1⟩
  · omega
theorem q_w2 {S : St} {a b : Nat} (ha : a < 256) (hb : b < 256) : f_X10_w2 S (ii a) (ii b) = some (ll (a * 256 + b)) := by
  unfold f_X10_w2
  rw [ii_long (by omega), ii_long (by omega), ll_cat hb]
theorem q_w3 {S : St} {a b c : Nat} (ha : a < 256) (hb : b < 256) (hc : c < 256) : f_X10_w3 S (ii a) (ii b) (ii c) = some (ll ((a * 256 + b) * 256 + c)) := by
  unfold f_X10_w3
  rw [bnd_of (q_w2 ha hb), ii_long (by omega), ll_cat hc]
theorem q_w4 {S : St} {a b c d : Nat} (ha : a < 256) (hb : b < 256) (hc : c < 256) (hd : d < 256) : f_X10_w4 S (ii a) (ii b) (ii c) (ii d) = some (ll (((a * 256 + b) * 256 + c) * 256 + d)) := by
  unfold f_X10_w4
  rw [bnd_of (q_w3 ha hb hc), ii_long (by omega), ll_cat hd]
theorem q_w5 {S : St} {a b c d e : Nat} (ha : a < 256) (hb : b < 256) (hc : c < 256) (hd : d < 256) (he : e < 256) : f_X10_w5 S (ii a) (ii b) (ii c) (ii d) (ii e) = some (ll ((((a * 256 + b) * 256 + c) * 256 + d) * 256 + e)) := by
  unfold f_X10_w5
  rw [bnd_of (q_w4 ha hb hc hd), ii_long (by omega), ll_cat he]
theorem q_w6 {S : St} {a b c d e f : Nat} (ha : a < 256) (hb : b < 256) (hc : c < 256) (hd : d < 256) (he : e < 256) (hf : f < 256) : f_X10_w6 S (ii a) (ii b) (ii c) (ii d) (ii e) (ii f) = some (ll (((((a * 256 + b) * 256 + c) * 256 + d) * 256 + e) * 256 + f)) := by
  unfold f_X10_w6
  rw [bnd_of (q_w5 ha hb hc hd he), ii_long (by omega), ll_cat hf]
theorem cw_moves (R : St) : f_X10_w5 R (109 : Int32) (111 : Int32) (118 : Int32) (101 : Int32) (115 : Int32) = some (ll (wv 0)) := by
  rw [show wv 0 = ((((109 * 256 + 111) * 256 + 118) * 256 + 101) * 256 + 115) from by decide +kernel]
  exact q_w5 (by decide) (by decide) (by decide) (by decide) (by decide)
theorem cw_tears (R : St) : f_X10_w5 R (116 : Int32) (101 : Int32) (97 : Int32) (114 : Int32) (115 : Int32) = some (ll (wv 1)) := by
  rw [show wv 1 = ((((116 * 256 + 101) * 256 + 97) * 256 + 114) * 256 + 115) from by decide +kernel]
  exact q_w5 (by decide) (by decide) (by decide) (by decide) (by decide)
theorem cw_hand (R : St) : f_X10_w4 R (104 : Int32) (97 : Int32) (110 : Int32) (100 : Int32) = some (ll (wv 2)) := by
  rw [show wv 2 = (((104 * 256 + 97) * 256 + 110) * 256 + 100) from by decide +kernel]
  exact q_w4 (by decide) (by decide) (by decide) (by decide)
theorem cw_dough (R : St) : f_X10_w5 R (100 : Int32) (111 : Int32) (117 : Int32) (103 : Int32) (104 : Int32) = some (ll (wv 3)) := by
  rw [show wv 3 = ((((100 * 256 + 111) * 256 + 117) * 256 + 103) * 256 + 104) from by decide +kernel]
  exact q_w5 (by decide) (by decide) (by decide) (by decide) (by decide)
theorem cw_town (R : St) : f_X10_w4 R (116 : Int32) (111 : Int32) (119 : Int32) (110 : Int32) = some (ll (wv 4)) := by
  rw [show wv 4 = (((116 * 256 + 111) * 256 + 119) * 256 + 110) from by decide +kernel]
  exact q_w4 (by decide) (by decide) (by decide) (by decide)
theorem cw_left (R : St) : f_X10_w4 R (108 : Int32) (101 : Int32) (102 : Int32) (116 : Int32) = some (ll (wv 5)) := by
  rw [show wv 5 = (((108 * 256 + 101) * 256 + 102) * 256 + 116) from by decide +kernel]
  exact q_w4 (by decide) (by decide) (by decide) (by decide)
theorem cw_right (R : St) : f_X10_w5 R (114 : Int32) (105 : Int32) (103 : Int32) (104 : Int32) (116 : Int32) = some (ll (wv 6)) := by
  rw [show wv 6 = ((((114 * 256 + 105) * 256 + 103) * 256 + 104) * 256 + 116) from by decide +kernel]
  exact q_w5 (by decide) (by decide) (by decide) (by decide) (by decide)
theorem cw_trim (R : St) : f_X10_w4 R (116 : Int32) (114 : Int32) (105 : Int32) (109 : Int32) = some (ll (wv 7)) := by
  rw [show wv 7 = (((116 * 256 + 114) * 256 + 105) * 256 + 109) from by decide +kernel]
  exact q_w4 (by decide) (by decide) (by decide) (by decide)
theorem cw_patch (R : St) : f_X10_w5 R (112 : Int32) (97 : Int32) (116 : Int32) (99 : Int32) (104 : Int32) = some (ll (wv 8)) := by
  rw [show wv 8 = ((((112 * 256 + 97) * 256 + 116) * 256 + 99) * 256 + 104) from by decide +kernel]
  exact q_w5 (by decide) (by decide) (by decide) (by decide) (by decide)
theorem cw_turn (R : St) : f_X10_w4 R (116 : Int32) (117 : Int32) (114 : Int32) (110 : Int32) = some (ll (wv 9)) := by
  rw [show wv 9 = (((116 * 256 + 117) * 256 + 114) * 256 + 110) from by decide +kernel]
  exact q_w4 (by decide) (by decide) (by decide) (by decide)
theorem cw_at (R : St) : f_X10_w2 R (97 : Int32) (116 : Int32) = some (ll (wv 10)) := by
  rw [show wv 10 = (97 * 256 + 116) from by decide +kernel]
  exact q_w2 (by decide) (by decide)
theorem cw_by (R : St) : f_X10_w2 R (98 : Int32) (121 : Int32) = some (ll (wv 11)) := by
  rw [show wv 11 = (98 * 256 + 121) from by decide +kernel]
  exact q_w2 (by decide) (by decide)
theorem cw_then (R : St) : f_X10_w4 R (116 : Int32) (104 : Int32) (101 : Int32) (110 : Int32) = some (ll (wv 12)) := by
  rw [show wv 12 = (((116 * 256 + 104) * 256 + 101) * 256 + 110) from by decide +kernel]
  exact q_w4 (by decide) (by decide) (by decide) (by decide)
theorem cw_else (R : St) : f_X10_w4 R (101 : Int32) (108 : Int32) (115 : Int32) (101 : Int32) = some (ll (wv 13)) := by
  rw [show wv 13 = (((101 * 256 + 108) * 256 + 115) * 256 + 101) from by decide +kernel]
  exact q_w4 (by decide) (by decide) (by decide) (by decide)
theorem cw_end (R : St) : f_X10_w3 R (101 : Int32) (110 : Int32) (100 : Int32) = some (ll (wv 14)) := by
  rw [show wv 14 = ((101 * 256 + 110) * 256 + 100) from by decide +kernel]
  exact q_w3 (by decide) (by decide) (by decide)
theorem cw_if (R : St) : f_X10_w2 R (105 : Int32) (102 : Int32) = some (ll (wv 15)) := by
  rw [show wv 15 = (105 * 256 + 102) from by decide +kernel]
  exact q_w2 (by decide) (by decide)
theorem cw_cell (R : St) : f_X10_w4 R (99 : Int32) (101 : Int32) (108 : Int32) (108 : Int32) = some (ll (wv 16)) := by
  rw [show wv 16 = (((99 * 256 + 101) * 256 + 108) * 256 + 108) from by decide +kernel]
  exact q_w4 (by decide) (by decide) (by decide) (by decide)
theorem cw_torn (R : St) : f_X10_w4 R (116 : Int32) (111 : Int32) (114 : Int32) (110 : Int32) = some (ll (wv 17)) := by
  rw [show wv 17 = (((116 * 256 + 111) * 256 + 114) * 256 + 110) from by decide +kernel]
  exact q_w4 (by decide) (by decide) (by decide) (by decide)
theorem cw_who (R : St) : f_X10_w3 R (119 : Int32) (104 : Int32) (111 : Int32) = some (ll (wv 19)) := by
  rw [show wv 19 = ((119 * 256 + 104) * 256 + 111) from by decide +kernel]
  exact q_w3 (by decide) (by decide) (by decide)
theorem cw_next (R : St) : f_X10_w4 R (110 : Int32) (101 : Int32) (120 : Int32) (116 : Int32) = some (ll (wv 20)) := by
  rw [show wv 20 = (((110 * 256 + 101) * 256 + 120) * 256 + 116) from by decide +kernel]
  exact q_w4 (by decide) (by decide) (by decide) (by decide)
theorem cw_not (R : St) : f_X10_w3 R (110 : Int32) (111 : Int32) (116 : Int32) = some (ll (wv 21)) := by
  rw [show wv 21 = ((110 * 256 + 111) * 256 + 116) from by decide +kernel]
  exact q_w3 (by decide) (by decide) (by decide)
theorem cw_square (R : St) : f_X10_w6 R (115 : Int32) (113 : Int32) (117 : Int32) (97 : Int32) (114 : Int32) (101 : Int32) = some (ll (wv 22)) := by
  rw [show wv 22 = (((((115 * 256 + 113) * 256 + 117) * 256 + 97) * 256 + 114) * 256 + 101) from by decide +kernel]
  exact q_w6 (by decide) (by decide) (by decide) (by decide) (by decide) (by decide)
theorem cw_sheet (R : St) : f_X10_w5 R (115 : Int32) (104 : Int32) (101 : Int32) (101 : Int32) (116 : Int32) = some (ll (wv 23)) := by
  rw [show wv 23 = ((((115 * 256 + 104) * 256 + 101) * 256 + 101) * 256 + 116) from by decide +kernel]
  exact q_w5 (by decide) (by decide) (by decide) (by decide) (by decide)
theorem cw_or (R : St) : f_X10_w2 R (111 : Int32) (114 : Int32) = some (ll (wv 24)) := by
  rw [show wv 24 = (111 * 256 + 114) from by decide +kernel]
  exact q_w2 (by decide) (by decide)
theorem cw_and (R : St) : f_X10_w3 R (97 : Int32) (110 : Int32) (100 : Int32) = some (ll (wv 25)) := by
  rw [show wv 25 = ((97 * 256 + 110) * 256 + 100) from by decide +kernel]
  exact q_w3 (by decide) (by decide) (by decide)
theorem o_str {b : Nat → Nat} {n i : Nat} {R : St} (h : TRR b n R i) (hl : isLb (b (plc b n i)) = true) (hp : plc b n i < n) (h9 : gI R 1009 0 0 = ii 2) : f_X10_isStrength R = some (if wkind (seg b (plc b n i) (sc b isLb n (plc b n i) - plc b n i)) = 18 then 1 else 0) := by
  obtain ⟨hB, h8, h7, hT⟩ := h
  have n300 := hB.2.2.1
  have s := sc_b (b := b) (P := isLb) (n := n) (p := plc b n i) (by omega)
  have e7 : enp b n (i + 1) = sc b isLb n (plc b n i) := by
    rw [enp_next hp]
    unfold tken
    rw [if_pos hl]
  rw [e7] at h7
  generalize hq : plc b n i = p at *
  generalize he : sc b isLb n p = e at *
  have e8 : (ii e - ii p = (8 : Int32)) = (e - p = 8) := by
    rw [ii_sub s.1, show (8 : Int32) = ii 8 from rfl, ii_eq (by omega) (by omega)]
  have key : (wkind (seg b p (e - p)) = 18) = (seg b p (e - p) = [115, 116, 114, 101, 110, 103, 116, 104]) := propext (wkind_iff (by decide))
  unfold f_X10_isStrength
  rw [h9, if_pos (show ii 2 = 2 from rfl), h7, h8]
  by_cases q : e - p = 8
  · have hb := hB.2.2.2
    have sg : seg b p (e - p) = [b p, b (p + 1), b (p + 2), b (p + 3), b (p + 4), b (p + 5), b (p + 6), b (p + 7)] := by rw [q]; rfl
    have at_ : ∀ k : Nat, k < 8 → f_X10_byteAt R (ii (p + k)) = some (ii (b (p + k))) := fun k hk => bat_in hB (by omega)
    rw [if_pos (e8.mpr q), show ii p = ii (p + 0) from rfl, bnd_of (at_ 0 (by decide)), show ii (p + 0) + (1 : Int32) = ii (p + 1) from ii_add p 1, bnd_of (at_ 1 (by decide)), show ii (p + 0) + (2 : Int32) = ii (p + 2) from ii_add p 2, bnd_of (at_ 2 (by decide)), show ii (p + 0) + (3 : Int32) = ii (p + 3) from ii_add p 3, bnd_of (at_ 3 (by decide)), bnd_of (q_w4 (hb _) (hb _) (hb _) (hb _)), bnd_of (show f_X10_w4 R (115 : Int32) (116 : Int32) (114 : Int32) (101 : Int32) = some (ll (((115 * 256 + 116) * 256 + 114) * 256 + 101)) from q_w4 (by decide) (by decide) (by decide) (by decide))]
    have b0 := hb (p + 0)
    have b1 := hb (p + 1)
    have b2 := hb (p + 2)
    have b3 := hb (p + 3)
    have b4 := hb (p + 4)
    have b5 := hb (p + 5)
    have b6 := hb (p + 6)
    have b7 := hb (p + 7)
    have c1 : (lg_cmp (ll (((b (p + 0) * 256 + b (p + 1)) * 256 + b (p + 2)) * 256 + b (p + 3))) (ll (((115 * 256 + 116) * 256 + 114) * 256 + 101)) = (0 : Int32)) = (b p = 115 ∧ b (p + 1) = 116 ∧ b (p + 2) = 114 ∧ b (p + 3) = 101) := by
      rw [cmp_zero]
      refine propext ⟨fun z => ?_, fun z => ?_⟩
      · have := ll_inj (by omega) (by decide) z
        rw [show b (p + 0) = b p from rfl] at this b0
        omega
      · rw [show b (p + 0) = b p from rfl, z.1, z.2.1, z.2.2.1, z.2.2.2]
    have c2 : (lg_cmp (ll (((b (p + 4) * 256 + b (p + 5)) * 256 + b (p + 6)) * 256 + b (p + 7))) (ll (((110 * 256 + 103) * 256 + 116) * 256 + 104)) = (0 : Int32)) = (b (p + 4) = 110 ∧ b (p + 5) = 103 ∧ b (p + 6) = 116 ∧ b (p + 7) = 104) := by
      rw [cmp_zero]
      refine propext ⟨fun z => ?_, fun z => ?_⟩
      · have := ll_inj (by omega) (by decide) z
        omega
      · rw [z.1, z.2.1, z.2.2.1, z.2.2.2]
    have key2 : (wkind (seg b p (e - p)) = 18) = ((b p = 115 ∧ b (p + 1) = 116 ∧ b (p + 2) = 114 ∧ b (p + 3) = 101) ∧ (b (p + 4) = 110 ∧ b (p + 5) = 103 ∧ b (p + 6) = 116 ∧ b (p + 7) = 104)) := by
      rw [key, sg]
      simp only [List.cons.injEq, and_true]
      exact propext ⟨fun z => ⟨⟨z.1, z.2.1, z.2.2.1, z.2.2.2.1⟩, z.2.2.2.2.1, z.2.2.2.2.2.1, z.2.2.2.2.2.2.1, z.2.2.2.2.2.2.2⟩, fun z => ⟨z.1.1, z.1.2.1, z.1.2.2.1, z.1.2.2.2, z.2.1, z.2.2.1, z.2.2.2.1, z.2.2.2.2⟩⟩
    by_cases z1 : b p = 115 ∧ b (p + 1) = 116 ∧ b (p + 2) = 114 ∧ b (p + 3) = 101
    · rw [if_pos (c1.mpr z1), show ii (p + 0) + (4 : Int32) = ii (p + 4) from ii_add p 4, bnd_of (at_ 4 (by decide)), show ii (p + 0) + (5 : Int32) = ii (p + 5) from ii_add p 5, bnd_of (at_ 5 (by decide)), show ii (p + 0) + (6 : Int32) = ii (p + 6) from ii_add p 6, bnd_of (at_ 6 (by decide)), show ii (p + 0) + (7 : Int32) = ii (p + 7) from ii_add p 7, bnd_of (at_ 7 (by decide)), bnd_of (q_w4 (hb _) (hb _) (hb _) (hb _)), bnd_of (show f_X10_w4 R (110 : Int32) (103 : Int32) (116 : Int32) (104 : Int32) = some (ll (((110 * 256 + 103) * 256 + 116) * 256 + 104)) from q_w4 (by decide) (by decide) (by decide) (by decide))]
      by_cases z2 : b (p + 4) = 110 ∧ b (p + 5) = 103 ∧ b (p + 6) = 116 ∧ b (p + 7) = 104
      · rw [if_pos (c2.mpr z2), if_pos (key2.mpr ⟨z1, z2⟩)]
      · rw [if_neg (fun y => z2 (c2.mp y)), if_neg (fun y => z2 (key2.mp y).2)]
    · rw [if_neg (fun y => z1 (c1.mp y)), if_neg (fun y => z1 (key2.mp y).1)]
  · rw [if_neg (fun z => q (e8.mp z)), if_neg (fun z => q (by
      have := congrArg List.length (key.mp z)
      rw [seg_len] at this
      exact this))]
theorem o_name {b : Nat → Nat} {n i : Nat} {R : St} (h : TRR b n R i) : f_X10_nameOf R = some (jj (nmo ((tkd b n (plc b n i) : Nat) : Int))) := by
  have hh := h
  obtain ⟨hB, h8, h7, hT⟩ := h
  have no2 : ∀ c : Nat, c < 256 → c ≠ 2 → ¬ ii c = (2 : Int32) := fun c hc h2 => by rw [show (2 : Int32) = ii 2 from rfl, ii_eq (by omega) (by omega)]; exact h2
  have nm : ∀ k : Nat, 26 ≤ k → nmo (k : Int) = -1 := fun k hk => by
    unfold nmo
    rw [if_neg (by omega), if_neg (by omega), if_neg (by omega), if_neg (by omega), if_neg (by omega), if_neg (by omega), if_neg (by omega), if_neg (by omega)]
  rcases tk_five hB.2.2.2 hT with ⟨a1, a2, a3⟩ | ⟨a1, a2, a3, a4, a5⟩ | ⟨a1, a2, a3, a4, a5, a6⟩ | ⟨c, a1, a2, a3, a4, a5, a6, a7, a8, a9⟩
  · unfold f_X10_nameOf
    rw [a3, if_neg (no2 0 (by decide) (by decide)), nm _ (by omega)]; rfl
  · have st := o_str hh a2 a1 a4
    have sl := seg_let hB.2.2.2 a1
    rw [a3]
    generalize seg b (plc b n i) (sc b isLb n (plc b n i) - plc b n i) = l at *
    have c9 := lw_eq sl (k := 9) (by decide) (by decide)
    have c16 := lw_eq sl (k := 16) (by decide) (by decide)
    have c3 := lw_eq sl (k := 3) (by decide) (by decide)
    have c17 := lw_eq sl (k := 17) (by decide) (by decide)
    have c19 := lw_eq sl (k := 19) (by decide) (by decide)
    have c20 := lw_eq sl (k := 20) (by decide) (by decide)
    have c6 := lw_eq sl (k := 6) (by decide) (by decide)
    unfold f_X10_nameOf nmo
    rw [a4, if_pos (show ii 2 = 2 from rfl), a5, bnd_of (cw_turn R)]
    by_cases z9 : wkind l = 9
    · rw [if_pos (c9.mpr z9), if_pos (by omega)]; rfl
    rw [if_neg (fun y => z9 (c9.mp y)), bnd_of (cw_cell R), if_neg (show ¬ ((wkind l : Nat) : Int) = 9 by omega)]
    by_cases z16 : wkind l = 16
    · rw [if_pos (c16.mpr z16), if_pos (by omega)]; rfl
    rw [if_neg (fun y => z16 (c16.mp y)), bnd_of (cw_dough R), if_neg (show ¬ ((wkind l : Nat) : Int) = 16 by omega)]
    by_cases z3 : wkind l = 3
    · rw [if_pos (c3.mpr z3), if_pos (by omega)]; rfl
    rw [if_neg (fun y => z3 (c3.mp y)), bnd_of (cw_torn R), if_neg (show ¬ ((wkind l : Nat) : Int) = 3 by omega)]
    by_cases z17 : wkind l = 17
    · rw [if_pos (c17.mpr z17), if_pos (by omega)]; rfl
    rw [if_neg (fun y => z17 (c17.mp y)), bnd_of st, if_neg (show ¬ ((wkind l : Nat) : Int) = 17 by omega)]
    by_cases z18 : wkind l = 18
    · rw [if_pos z18, if_neg (show ¬ (1 : Int32) = 0 by decide), if_pos (by omega)]; rfl
    rw [if_neg z18, if_pos rfl, bnd_of (cw_who R), if_neg (show ¬ ((wkind l : Nat) : Int) = 18 by omega)]
    by_cases z19 : wkind l = 19
    · rw [if_pos (c19.mpr z19), if_pos (by omega)]; rfl
    rw [if_neg (fun y => z19 (c19.mp y)), bnd_of (cw_next R), if_neg (show ¬ ((wkind l : Nat) : Int) = 19 by omega)]
    by_cases z20 : wkind l = 20
    · rw [if_pos (c20.mpr z20), if_pos (by omega)]; rfl
    rw [if_neg (fun y => z20 (c20.mp y)), bnd_of (cw_right R), if_neg (show ¬ ((wkind l : Nat) : Int) = 20 by omega)]
    by_cases z6 : wkind l = 6
    · rw [if_pos (c6.mpr z6), if_pos (by omega)]; rfl
    rw [if_neg (fun y => z6 (c6.mp y)), if_neg (show ¬ ((wkind l : Nat) : Int) = 6 by omega)]
    rfl
  · unfold f_X10_nameOf
    rw [a5, if_neg (no2 1 (by decide) (by decide)), nm _ (by omega)]; rfl
  · unfold f_X10_nameOf
    rw [a4, if_neg (no2 c a2 a3), nm _ (by omega)]; rfl
