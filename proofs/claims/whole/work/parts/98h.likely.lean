/-! CALLS: likely. -/
def lky (em et : Sem) (A : Int → Int) (h w : Int) (s : Int) : Int := if 0 < A (11 + w / 2) then (if ST0 em et A h w (23 + w / 2) = A (23 + w / 2) then s else s + 1) else s
theorem torn_same {em et : Sem} {A : Int → Int} {M h w : Int} (hO : OKS A M) (w0 : 0 ≤ w) (w1 : w < 24) {x y : Int32} (hx : TB x (fun c => ST0 em et A h w (23 + c))) (hy : TB y (fun c => A (23 + c))) : (x = y) ↔ ST0 em et A h w (23 + w / 2) = A (23 + w / 2) := by
  have n0 := hO.1.2.2.2.2.2.2.2.2.2.1
  have n1 := hO.1.2.2.2.2.2.2.2.2.2.2.1
  rw [tb_one hx hy]
  constructor
  · intro h; exact h (w / 2) (by omega) (by omega)
  · intro e c a b
    by_cases z : c = w / 2
    · rw [z]; exact e
    · show STW 0 em et A h (w / 2) (w % 2) (23 + c) = A (23 + c)
      rw [STW_mid n0 n1 (by omega) (by omega) (by omega) _ (by omega) (by omega)]
      rcases STR_torn (em := em) (et := et) (sg := sgA A) (A := A) (h := h) (c := w / 2) (rt := w % 2) (by omega) (by omega) (by omega) c a b with k | k
      · exact k
      · exact absurd k.1 z
theorem c_tearing {S : St} {N : Nat} {A : Int → Int} {M W h : Int} {em et : Sem} (hN : 4000 < N) (hC : XC S A M W em et) (hW : W + 30 < 100000000) (h0 : 0 ≤ h ∧ h < A 0) : ∃ S', f_X7_tearingStrokes N S (jj h) = some (jj (itr (lky em et A h) 0 24 0), S') ∧ FX TRP S S' ∧ WRT S' (W + 30) := by
  have hO := hC.2.1.1
  have h04 := hO.2.2.1.2.1
  obtain ⟨S0, e0, L0, F0⟩ := laysAs_LAY (j := 62) (k := 0) (by decide) hC.1.2.1.1
  unfold f_X7_tearingStrokes
  rw [bnd_of e0]
  have := wp_up (F := fun n (s : Int × St) k => f_X7_tearingStrokes_b20 N n (jj h) (jj s.1) (jj k) s.2) (P := fun k s => 0 ≤ k ∧ s.1 = itr (lky em et A h) 0 k.toNat 0 ∧ FX TRP S s.2 ∧ LAY s.2 62 A ∧ WRT s.2 (W + k)) (Q := fun r => r.1 = jj (itr (lky em et A h) 0 24 0) ∧ FX TRP S r.2 ∧ WRT r.2 (W + 30)) (E := 24) (by
    intro n ⟨a, S1⟩ ⟨k0, h1, F1, L1, w1⟩
    simp only at h1 F1 L1 w1
    simp only [f_X7_tearingStrokes_b20]
    rw [if_pos (show (24 : Int32) ≤ jj 24 by rw [jj_of]; exact Int32.le_refl _)]
    refine wp_some ⟨?_, F1, WRT_mono w1 (by omega)⟩
    rw [show (24 : Int).toNat = 24 from rfl] at h1
    rw [← h1]) (by
    intro n ⟨a, S1⟩ k hk ⟨k0, h1, F1, L1, w1⟩ ih
    simp only at h1 F1 L1 w1
    have st : itr (lky em et A h) 0 (k + 1).toNat 0 = lky em et A h k a := by
      rw [show (k + 1).toNat = k.toNat + 1 by omega, itr_add, ← h1, show (0 : Int) + (k.toNat : Int) = k by omega]
      rfl
    simp only [f_X7_tearingStrokes_b20]
    rw [if_neg (show ¬ (24 : Int32) ≤ jj k by rw [jj_of, jj_le (by decide) (by decide) (by omega) (by omega)]; omega)]
    by_cases q : 0 < A (11 + k / 2)
    · obtain ⟨S2, e2, L2, F2, w2⟩ := c_tried1 (at_ := 0) (h := h) (w := k) hN hC F1 (by decide) hO (fun _ _ => rfl) L1 w1 (by omega) h0 k0 hk q
      have e2' : f_X7_tried N S1 (0 : Int32) (jj h) (jj k) = some (jj 1, S2) := e2
      have L2' : LAY S2 62 A := FX_LAY F2 (fun f a b => by unfold PUP; omega) L1
      have FF := FX_trans F1 (FX_sub F2 (Q := TRP) (fun f j q => by unfold PUP at q; unfold TRP; omega))
      have ts := torn_same (em := em) (et := et) (h := h) hO k0 hk L2.2.1 L2'.2.1
      have w2' : WRT S2 (W + (k + 1)) := by rw [show W + (k + 1) = W + k + 1 by omega]; exact w2
      rw [bnd_of e2', if_neg (show ¬ jj 1 = (0 : Int32) by decide)]
      simp only [lt, jj_of, jj_add]
      refine wp_ite (fun z => ?_) (fun z => ?_)
      · refine ih (a, S2) ⟨by omega, ?_, FF, L2', w2'⟩
        rw [st]; unfold lky; rw [if_pos q, if_pos (ts.mp z)]
      · refine ih (a + 1, S2) ⟨by omega, ?_, FF, L2', w2'⟩
        rw [st]; unfold lky; rw [if_pos q, if_neg (fun y => z (ts.mpr y))]
    · have e2' : f_X7_tried N S1 (0 : Int32) (jj h) (jj k) = some (jj 0, S1) := c_tried0 (at_ := 0) (by decide) hO L1 k0 hk q
      rw [bnd_of e2', if_pos (show jj 0 = (0 : Int32) from rfl)]
      simp only [lt, jj_of, jj_add]
      refine ih (a, S1) ⟨by omega, ?_, F1, L1, WRT_mono w1 (by omega)⟩
      rw [st]
      unfold lky
      rw [if_neg q]) 24 N 0 ((0 : Int), S0) (by decide) (by omega) ⟨by decide, rfl, FX_sub F0 (fun f j q => by unfold TRP; omega), L0, WRT_mono (WRT_FX F0 (fun j => by omega) hC.2.2.1) (by omega)⟩
  obtain ⟨⟨v, S'⟩, e, h1, h2, h3⟩ := this
  simp only at h1
  rw [h1] at e
  exact ⟨S', e, h2, h3⟩
theorem lky_b {em et : Sem} {A : Int → Int} {h : Int} (m : Nat) : 0 ≤ itr (lky em et A h) 0 m 0 ∧ itr (lky em et A h) 0 m 0 ≤ m := by
  have := itr_inv (s := lky em et A h) (P := fun k v => 0 ≤ v ∧ v ≤ k) m 0 0 ⟨Int.le_refl _, Int.le_refl _⟩ (fun i x a b hp => by
    unfold lky
    repeat' split
    all_goals omega)
  omega
/-- the greatest part of both, two ways -/
def cpf (s : Nat) : Nat → Nat
  | 0 => 1
  | p + 1 => if p + 1 ≤ 1 then 1 else if s % (p + 1) = 0 ∧ 24 % (p + 1) = 0 then p + 1 else cpf s p
def euf : Nat → Nat → Nat → Nat
  | 0, b, _ => b
  | m + 1, b, a => if a = 0 then b else euf m a (b % a)
theorem cpf_euf : ∀ s : Fin 25, cpf s.val 24 = euf 24 s.val 24 ∧ 0 < cpf s.val 24 ∧ cpf s.val 24 ≤ 24 := by decide
theorem x_common {S : St} {N : Nat} {s : Nat} (hs : s ≤ 24) : ∀ (p n : Nat), p ≤ 24 → p < n → f_X3_commonPart_b6 N n (jj s) (jj 24) (jj p) S = some (jj (cpf s p)) := by
  intro p
  induction p with
  | zero =>
    intro n h1 h2
    obtain ⟨n, rfl⟩ : ∃ q, n = q + 1 := ⟨n - 1, by omega⟩
    rw [f_X3_commonPart_b6]
    exact if_pos (by decide)
  | succ p ih =>
    intro n h1 h2
    obtain ⟨n, rfl⟩ : ∃ q, n = q + 1 := ⟨n - 1, by omega⟩
    rw [f_X3_commonPart_b6]
    simp only [jj_of]
    by_cases q : p + 1 ≤ 1
    · rw [if_pos (show jj ((p + 1 : Nat) : Int) ≤ jj 1 by rw [jj_le (by omega) (by omega) (by decide) (by decide)]; omega)]
      show _ = some (jj ((if p + 1 ≤ 1 then 1 else _ : Nat) : Int))
      rw [if_pos q]
      rfl
    · rw [if_neg (show ¬ jj ((p + 1 : Nat) : Int) ≤ jj 1 by rw [jj_le (by omega) (by omega) (by decide) (by decide)]; omega), chk_true (jj_nz (by omega) (by omega) (by omega)), jj_rem (by omega) (by omega) (by omega) (by omega), jj_rem (by decide) (by decide) (by omega) (by omega)]
      have st : cpf s (p + 1) = if s % (p + 1) = 0 ∧ 24 % (p + 1) = 0 then p + 1 else cpf s p := by
        show (if p + 1 ≤ 1 then 1 else if s % (p + 1) = 0 ∧ 24 % (p + 1) = 0 then p + 1 else cpf s p) = _
        rw [if_neg q]
      have e1 : (s : Int) % ((p + 1 : Nat) : Int) = ((s % (p + 1) : Nat) : Int) := (Int.natCast_emod s (p + 1)).symm
      have e2 : (24 : Int) % ((p + 1 : Nat) : Int) = ((24 % (p + 1) : Nat) : Int) := (Int.natCast_emod 24 (p + 1)).symm
      have l1 := Nat.mod_lt s (show p + 1 > 0 by omega)
      have l2 := Nat.mod_lt 24 (show p + 1 > 0 by omega)
      have rc0 := ih n (by omega) (by omega)
      have em1 : jj ((p + 1 : Nat) : Int) + -jj 1 = jj (p : Int) := by rw [jj_neg, jj_add]; congr 1; omega
      rw [e1, e2, st]
      by_cases z1 : s % (p + 1) = 0
      · rw [if_pos (show jj ((s % (p + 1) : Nat) : Int) = jj 0 by rw [z1]; rfl), chk_true (jj_nz (by omega) (by omega) (by omega))]
        by_cases z2 : 24 % (p + 1) = 0
        · rw [if_pos (show jj ((24 % (p + 1) : Nat) : Int) = jj 0 by rw [z2]; rfl), if_pos ⟨z1, z2⟩]
        · rw [if_neg (show ¬ jj ((24 % (p + 1) : Nat) : Int) = jj 0 by rw [jj_eq (by omega) (by omega) (by decide) (by decide)]; omega), if_neg (fun y => z2 y.2)]
          simp only [lt]
          rw [em1]
          exact rc0
      · rw [if_neg (show ¬ jj ((s % (p + 1) : Nat) : Int) = jj 0 by rw [jj_eq (by omega) (by omega) (by decide) (by decide)]; omega), if_neg (fun y => z1 y.1)]
        simp only [lt]
        rw [em1]
        exact rc0
theorem r_euclid {S : St} {N : Nat} {x2 x3 : Int32} : ∀ (m n a b : Nat), a ≤ m → m < n → a ≤ 24 → b ≤ 24 → f_X10_likely_b76 N n x2 x3 (jj b) (jj a) S = (if x2 = (0 : Int32) then chk (nz (jj (euf m b a))) (some (x3 / jj (euf m b a), S)) else chk (nz (jj (euf m b a))) (some ((24 : Int32) / jj (euf m b a), S))) := by
  intro m
  induction m with
  | zero =>
    intro n a b h1 h2 h3 h4
    obtain ⟨n, rfl⟩ : ∃ q, n = q + 1 := ⟨n - 1, by omega⟩
    rw [f_X10_likely_b76, show a = 0 by omega]
    exact if_pos rfl
  | succ m ih =>
    intro n a b h1 h2 h3 h4
    obtain ⟨n, rfl⟩ : ∃ q, n = q + 1 := ⟨n - 1, by omega⟩
    rw [f_X10_likely_b76]
    by_cases z : a = 0
    · have e : euf (m + 1) b a = b := if_pos z
      rw [e, if_pos (show jj (a : Int) = (0 : Int32) by rw [z]; rfl)]
    · have e : euf (m + 1) b a = euf m a (b % a) := if_neg z
      have l := Nat.mod_lt b (show a > 0 by omega)
      rw [e, if_neg (show ¬ jj (a : Int) = (0 : Int32) by rw [jj_of, jj_eq (by omega) (by omega) (by decide) (by decide)]; omega), chk_true (jj_nz (by omega) (by omega) (by omega)), jj_rem (by omega) (by omega) (by omega) (by omega), ← Int.natCast_emod b a]
      exact ih n (b % a) a (by omega) (by omega) (by omega) h3
theorem r_likely {S : St} {N : Nat} {A : Int → Int} {M h : Int} {x2 t : Int32} {em et : Sem} (hN : 4000 < N) (hO : OKS A M) (hC : RC S A em et) (h0 : 0 ≤ h ∧ h < A 0) (ht : TB t (fun c => A (23 + c))) {Q : Int32 × St → Prop} (hk : ∀ S1, RC S1 A em et → FX (fun f _ => f = 1000 ∨ (1020 ≤ f ∧ f ≤ 1025)) S S1 → wp (f_X10_likely_b76 N N x2 (jj (itr (lky em et A h) 0 24 0)) (jj (itr (lky em et A h) 0 24 0)) (jj 24) S1) Q) : wp (f_X10_likely_b21 N N (jj h) x2 (jj 0) t (jj 0) S) Q := by
  refine wp_up (F := fun n (s : Int × St) k => f_X10_likely_b21 N n (jj h) x2 (jj s.1) t (jj k) s.2) (P := fun k s => 0 ≤ k ∧ s.1 = itr (lky em et A h) 0 k.toNat 0 ∧ RC s.2 A em et ∧ FX (fun f _ => f = 1000 ∨ (1020 ≤ f ∧ f ≤ 1025)) S s.2) (E := 24) ?_ ?_ 24 N 0 ((0 : Int), S) (by decide) (by omega) ⟨by decide, rfl, hC, FX_refl _ _⟩
  · intro n ⟨a, S1⟩ ⟨k0, h1, R1, F1⟩
    simp only at h1 R1 F1
    simp only [f_X10_likely_b21]
    rw [if_pos (show (24 : Int32) ≤ jj 24 by rw [jj_of]; exact Int32.le_refl _)]
    rw [show (24 : Int).toNat = 24 from rfl] at h1
    rw [h1]
    exact hk S1 R1 F1
  · intro n ⟨a, S1⟩ k hk2 ⟨k0, h1, R1, F1⟩ ih
    simp only at h1 R1 F1
    have st : itr (lky em et A h) 0 (k + 1).toNat 0 = lky em et A h k a := by
      rw [show (k + 1).toNat = k.toNat + 1 by omega, itr_add, ← h1, show (0 : Int) + (k.toNat : Int) = k by omega]
      rfl
    obtain ⟨S2, S3, S4, e2, e3, A3, O3, e4, R4, F4⟩ := r_one (h := h) (w := k) hN hO R1 h0 k0 hk2
    have FF := FX_trans F1 F4
    have a0' : jj a + jj 0 = jj a := by rw [jj_add]; congr 1; omega
    simp only [f_X10_likely_b21, f_X10_likely_b56, f_X10_likely_b57]
    rw [if_neg (show ¬ (24 : Int32) ≤ jj k by rw [jj_of, jj_le (by decide) (by decide) (by omega) (by omega)]; omega), bnd_of e2, bnd_of e3]
    simp only [jj_of, lt]
    rw [bnd_of e4, a0']
    simp only [jj_add]
    by_cases q : 0 < A (11 + k / 2)
    · have tr : TR1 em et A h k = ST0 em et A h k := if_pos q
      rw [tr] at A3 O3
      obtain ⟨v, ev, tv⟩ := r_torn hN A3 O3.1.2.1
      have ts := torn_same (em := em) (et := et) (h := h) hO k0 hk2 tv ht
      rw [if_pos q, if_neg (show ¬ jj 1 = jj 0 by decide), bnd_of ev]
      refine wp_ite (fun z => ?_) (fun z => ?_)
      · refine ih (a, S4) ⟨by omega, ?_, R4, FF⟩
        rw [st]; unfold lky; rw [if_pos q, if_pos (ts.mp z)]
      · rw [bnd_of e4]
        refine ih (a + 1, S4) ⟨by omega, ?_, R4, FF⟩
        rw [st]; unfold lky; rw [if_pos q, if_neg (fun y => z (ts.mpr y))]
    · rw [if_neg q, if_pos rfl]
      refine ih (a, S4) ⟨by omega, ?_, R4, FF⟩
      rw [st]; unfold lky; rw [if_neg q]
theorem k_likely {S : St} {N : Nat} {T lo : Int} (hN : 4000 < N) (t0 : 0 ≤ T) (t1 : T < 512) (hI : INV T S) (x : Int32) (hl : lo = 0 ∨ lo = 1) : TWO (fun S => f_X9_likely N S x (jj lo)) (fun S => f_X10_likely N S x (jj lo)) T S := by
  obtain ⟨A, B, hI⟩ := hI
  obtain ⟨em, et, hX, hR⟩ := INVA_get hI
  obtain ⟨z, rfl, b1, b2⟩ := jj_ex x
  have a0 := hX.2.1.1.2.2.1.1
  have a4 := hX.2.1.1.2.2.1.2.1
  show ∃ v S1 S2, f_X9_likely N S (jj z) (jj lo) = some (v, S1) ∧ f_X10_likely N S1 (jj z) (jj lo) = some (v, S2) ∧ INV (T + 1) S2
  by_cases q : 0 ≤ z ∧ z < A 0
  · obtain ⟨S1, e1, F1, w1⟩ := c_tearing hN hX (by unfold WT; omega) q
    have R1 : RC S1 A em et := RC_step hR F1 (by unfold TRP; omega) (by unfold TRP; omega) (FX_AR F1 (by unfold TRP; omega) hR.1) rfl
    have lb := @lky_b em et A z 24
    obtain ⟨t, et', tt⟩ := r_torn hN R1.1 hX.2.1.1.1.2.1
    obtain ⟨s, hs⟩ : ∃ s : Nat, itr (lky em et A z) 0 24 0 = (s : Int) := ⟨(itr (lky em et A z) 0 24 0).toNat, by omega⟩
    have s24 : s ≤ 24 := by omega
    obtain ⟨c1, c2, c3⟩ := cpf_euf ⟨s, by omega⟩
    simp only at c1 c2 c3
    have xc := x_common (S := S1) (N := N) s24 24 N (Nat.le_refl _) (by omega)
    have fin := r_likely (x2 := jj lo) (Q := fun r => r.1 = (if jj lo = (0 : Int32) then jj s / jj (cpf s 24) else jj 24 / jj (cpf s 24)) ∧ RC r.2 A em et ∧ FX (fun f _ => f = 1000 ∨ (1020 ≤ f ∧ f ≤ 1025)) S1 r.2) hN hX.2.1.1 R1 q tt (fun S2 R2 F2 => by
      rw [hs, show jj 24 = jj ((24 : Nat) : Int) from rfl, r_euclid 24 N 24 s (Nat.le_refl _) (by omega) (Nat.le_refl _) s24, ← c1]
      rw [chk_true (jj_nz (by omega) (by omega) (by omega)), chk_true (jj_nz (by omega) (by omega) (by omega))]
      by_cases y : jj lo = (0 : Int32)
      · rw [if_pos y, if_pos y]; exact wp_some ⟨rfl, R2, F2⟩
      · rw [if_neg y, if_neg y]; exact wp_some ⟨rfl, R2, F2⟩)
    obtain ⟨⟨v, S2⟩, e2, v1, R2, F2⟩ := fin
    simp only at v1 R2 F2
    refine ⟨v, S1, S2, ?_, ?_, INV_try hI t0 t1 F1 w1 (by unfold WT; omega) R2 F2⟩
    · unfold f_X9_likely f_X3_commonPart
      rw [bnd_of (x_isHand hX.1.1.1 a0 a4 b1 b2), if_pos q, if_neg (by decide), bnd_of e1]
      simp only [lt]
      rw [hs, v1]
      have mx : (if jj (s : Int) < (24 : Int32) then (24 : Int32) else jj (s : Int)) = jj ((24 : Nat) : Int) := by
        simp only [jj_of]
        simp (disch := omega) only [jj_lt]
        by_cases y : (s : Int) < 24
        · rw [if_pos y]; rfl
        · rw [if_neg y, show (s : Int) = 24 by omega]; rfl
      rw [mx, show (24 : Int32) = jj 24 from jj_of 24, bnd_of xc, chk_true (jj_nz (by omega) (by omega) (by omega)), chk_true (jj_nz (by omega) (by omega) (by omega))]
      by_cases y : jj lo = (0 : Int32)
      · rw [if_pos y, if_pos y]
      · rw [if_neg y, if_neg y]
    · unfold f_X10_likely
      rw [bnd_of (r_isHand R1.1 a0 a4 b1 b2), if_pos q, if_neg (by decide), bnd_of et']
      exact e2
  · refine ⟨jj (-1), S, S, ?_, ?_, INV_same hI t0 t1⟩
    · unfold f_X9_likely
      rw [bnd_of (x_isHand hX.1.1.1 a0 a4 b1 b2), if_neg q, if_pos (by decide)]
      rfl
    · unfold f_X10_likely
      rw [bnd_of (r_isHand hR.1 a0 a4 b1 b2), if_neg q, if_pos (by decide)]
      rfl
