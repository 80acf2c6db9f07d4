/-! CALLS: whose, image, back. -/
def WHO (sv : Int → Bool) : Nat → Int32
  | 0 => jj 0
  | n + 1 => if sv n = true then WHO sv n ||| ((1 : Int32) <<< (jj n &&& 31)) else WHO sv n
theorem WHO_s {sv : Int → Bool} {k : Int} (k0 : 0 ≤ k) : WHO sv (k + 1).toNat = if sv k = true then WHO sv k.toNat ||| ((1 : Int32) <<< (jj k &&& 31)) else WHO sv k.toNat := by
  rw [show (k + 1).toNat = k.toNat + 1 by omega]
  have : WHO sv (k.toNat + 1) = if sv ((k.toNat : Nat) : Int) = true then WHO sv k.toNat ||| ((1 : Int32) <<< (jj ((k.toNat : Nat) : Int) &&& 31)) else WHO sv k.toNat := rfl
  rw [this, Int.toNat_of_nonneg k0]
theorem jz1 {p : Prop} [Decidable p] : (jj (if p then 1 else 0) = (0 : Int32)) = ¬ p := by
  by_cases h : p
  · rw [if_pos h]; exact propext ⟨fun e => absurd e (by decide), fun e => absurd h e⟩
  · rw [if_neg h]; exact propext ⟨fun _ => h, fun _ => rfl⟩
theorem x_whose {S : St} {N : Nat} {A : Int → Int} {M : Int} {EM : Int → Sem} (hN : 4000 < N) (hM : NUM A M) (hW : WLD S 0 A) (hE : ∀ L : Int, 0 ≤ L → L < A 2 → ∃ lw, f_X8_movesOf 0 S (jj L) = some lw ∧ EVX 8 S lw (EM L)) : ∃ S', f_X9_whose N S = some (WHO (fun t => AFB (gsd (EM t) A) A (A 5).toNat) (A 2).toNat, S') ∧ FX (fun f _ => 200 ≤ f ∧ f ≤ 205) S S' := by
  have a2 := hM.2.1
  have a2' := hM.2.2.1
  have g8 := hW.1.2.2.1
  have := wp_up (F := fun n (r : Int32 × St) k => f_X9_whose_b4 N n r.1 (jj k) r.2) (P := fun k r => 0 ≤ k ∧ r.1 = WHO (fun t => AFB (gsd (EM t) A) A (A 5).toNat) k.toNat ∧ FX (fun f _ => 200 ≤ f ∧ f ≤ 205) S r.2) (Q := fun r => r.1 = WHO (fun t => AFB (gsd (EM t) A) A (A 5).toNat) (A 2).toNat ∧ FX (fun f _ => 200 ≤ f ∧ f ≤ 205) S r.2) (E := A 2) (by
    intro n ⟨x, S1⟩ ⟨k0, h1, F1⟩
    simp only [f_X9_whose_b4]
    rw [F1.1 808 0 0 (by omega), g8, if_pos (Int32.le_refl _)]
    exact wp_some ⟨h1, F1⟩) (by
    intro n ⟨x, S1⟩ k hk ⟨k0, h1, F1⟩ ih
    simp only at h1 F1
    obtain ⟨lw, e1, E1⟩ := hE k k0 hk
    have W1 : WLD S1 0 A := WLD_step hM hW F1 (fun f a b => by omega) (fun f j a b c d => by omega) (SHX_FX F1 (fun f a b => by omega) hW.2.1) (fun _ _ _ _ => rfl)
    obtain ⟨S2, e2, F2⟩ := x_allsaid (S := S1) hN hM W1 (FX_EVX F1 E1)
    have e1' : f_X8_movesOf 0 S1 (jj k) = some lw := by
      rw [← e1]
      simp only [f_X8_movesOf, F1.1 808 0 0 (by omega), F1.2.2.1 807 0 _ (by omega), FX_gT F1]
    simp only [f_X9_whose_b4, f_X2_isLawOfAllSaid]
    rw [F1.1 808 0 0 (by omega), g8, if_neg (show ¬ jj (A 2) ≤ jj k by rw [jj_le (by omega) (by omega) (by omega) (by omega)]; omega)]
    rw [bnd_of e1']
    have e2' : f_X2_isLawOfAllSaid_b20 N N lw (0 : Int32) S1 = some (jj (if AFB (gsd (EM k) A) A (A 5).toNat = true then 1 else 0), S2) := e2
    rw [bnd_of e2']
    simp only [jz1]
    simp only [lt, jj_of, jj_add]
    have st : WHO (fun t => AFB (gsd (EM t) A) A (A 5).toNat) (k + 1).toNat = if AFB (gsd (EM k) A) A (A 5).toNat = true then x ||| ((1 : Int32) <<< (jj k &&& 31)) else x := by
      rw [WHO_s k0, h1]
    by_cases w : AFB (gsd (EM k) A) A (A 5).toNat = true
    · rw [if_neg (show ¬ ¬ AFB (gsd (EM k) A) A (A 5).toNat = true from fun z => z w)]
      refine ih (_, S2) ⟨by omega, ?_, FX_trans F1 F2⟩
      rw [st, if_pos w]
      simp only [jj_of]
    · rw [if_pos w]
      refine ih (_, S2) ⟨by omega, ?_, FX_trans F1 F2⟩
      rw [st, if_neg w]) (A 2).toNat N 0 (jj 0, S) (by omega) (by omega) ⟨by decide, rfl, FX_refl _ _⟩
  obtain ⟨⟨v, S'⟩, e, h1, h2⟩ := this
  simp only at h1
  rw [h1] at e
  exact ⟨S', e, h2⟩
theorem r_whose_in {S : St} {N : Nat} {A : Int → Int} {M L : Int} {em : Sem} {x1 : Int32} {rec : Int32 → Int32 → St → Option (Int32 × St)} {Q : Int32 × St → Prop} (hN : 4000 < N) (hM : NUM A M) (hA : AR 1000 S A) (hE : EVM S L 0 8 em) (hk : ∀ S1, FX (fun f _ => 1020 ≤ f ∧ f ≤ 1022) S S1 → wp (rec (if AFB (gsd em A) A (A 5).toNat = true then x1 ||| ((1 : Int32) <<< (jj L &&& 31)) else x1) (jj (L + 1)) S1) Q) : wp (f_X10_whose_b20 rec N N x1 (jj L) (jj 1) (jj 51) S) Q := by
  have a5 := hM.2.2.2.2.2.2.2.1
  have a5' := hM.2.2.2.2.2.2.2.2.1
  have hS := hM.2.2.2.2.2.2.2.2.2.2.1
  have hO := hM.1
  have h04 := hO.2.2.1.2.1
  have hRB := OKR_RB hO.1 hO.2.2.2
  refine wp_up (F := fun n (r : Int32 × St) k => f_X10_whose_b20 rec N n x1 (jj L) r.1 (jj (51 + 3 * k)) r.2) (P := fun k r => 0 ≤ k ∧ r.1 = jj (if AFB (gsd em A) A k.toNat = true then 1 else 0) ∧ FX (fun f _ => 1020 ≤ f ∧ f ≤ 1022) S r.2) (E := A 5) ?_ ?_ (A 5).toNat N 0 (jj 1, S) (by omega) (by omega) ⟨by decide, rfl, FX_refl _ _⟩
  · intro n ⟨x, S1⟩ ⟨k0, h1, F1⟩
    simp only at h1 F1
    have e5 : gI S1 1000 0 5 = jj (A 5) := (F1.1 1000 0 5 (by omega)).trans (hA 5 (by decide) (by decide))
    simp only [f_X10_whose_b20]
    rw [e5, h1]
    simp only [jz1]
    simp only [jj_of, jj_mul, jj_add, lt]
    rw [if_pos (Int32.le_refl _)]
    have := hk S1 F1
    by_cases w : AFB (gsd em A) A (A 5).toNat = true
    · rw [if_pos w] at this
      rw [if_neg (show ¬ ¬ AFB (gsd em A) A (A 5).toNat = true from fun z => z w)]
      simp only [jj_of] at this
      exact this
    · rw [if_neg w] at this
      rw [if_pos w, or0]
      exact this
  · intro n ⟨x, S1⟩ k hk ⟨k0, h1, F1⟩ ih
    simp only at h1 F1
    have e5 : gI S1 1000 0 5 = jj (A 5) := (F1.1 1000 0 5 (by omega)).trans (hA 5 (by decide) (by decide))
    obtain ⟨v1, v2, v3, v4, v5, v6⟩ := hS k k0 hk
    have hs := hO.2.2.1.2.2 _ v1 v2
    have A1 := FX_AR F1 (f := 1000) (by omega) hA
    obtain ⟨S2, e2, F2⟩ := r_moves (L := L) (h := A (51 + 3 * k)) (c := A (52 + 3 * k)) (rt := 1) hN A1 (EVM_of hE (fun i => F1.1 1002 0 i (by omega))) ⟨by omega, hs.2⟩ ⟨v1, by omega⟩ v3 v4 (Or.inr rfl) hRB
    have F12 := FX_trans F1 F2
    have mb := mvv_b (em := em) (sg := sgA A) (h := A (51 + 3 * k)) (rt := 1) hRB v3 v4
    have cb := hRB.1 _ v3 v4
    have p0 := A1 (51 + 3 * k) (by omega) (by omega)
    have p1 := A1 (51 + 3 * k + 1) (by omega) (by omega)
    have p2 := (FX_AR F12 (f := 1000) (by omega) hA) (51 + 3 * k + 2) (by omega) (by omega)
    rw [show 51 + 3 * k + 1 = 52 + 3 * k by omega] at p1
    have st : AFB (gsd em A) A (k + 1).toNat = (AFB (gsd em A) A k.toNat && decide (mvv em A (sgA A) (A (51 + 3 * k)) (A (52 + 3 * k)) 1 = A (53 + 3 * k))) := by
      rw [show (k + 1).toNat = k.toNat + 1 by omega]
      show (AFB (gsd em A) A k.toNat && decide (gsd em A ((k.toNat : Nat) : Int) = A (53 + 3 * ((k.toNat : Nat) : Int)))) = _
      rw [Int.toNat_of_nonneg k0]
      rfl
    simp only [f_X10_whose_b20]
    rw [e5, h1]
    simp only [jz1]
    simp (disch := omega) only [jj_of, jj_mul, jj_add, jj_le, jj_nat, chk_true (jj_inb _ _ _), lt]
    rw [if_neg (show ¬ 51 + 3 * A 5 ≤ 51 + 3 * k by omega), show 51 + 3 * k + 3 = 51 + 3 * (k + 1) by omega]
    by_cases w : AFB (gsd em A) A k.toNat = true
    · rw [if_neg (show ¬ ¬ AFB (gsd em A) A k.toNat = true from fun z => z w), p0, show 51 + 3 * k + 1 = 52 + 3 * k by omega, p1, bnd_of e2]
      simp only
      rw [p2, show 51 + 3 * k + 2 = 53 + 3 * k by omega]
      refine wp_ite (fun z => ?_) (fun z => ?_)
      · rw [jj_eq (by omega) (by omega) (by omega) (by omega)] at z
        exact ih (jj 1, S2) ⟨by omega, by rw [st, w, decide_eq_true z]; rfl, F12⟩
      · rw [jj_eq (by omega) (by omega) (by omega) (by omega)] at z
        exact ih (jj 0, S2) ⟨by omega, by rw [st, decide_eq_false z, Bool.and_false]; rfl, F12⟩
    · rw [if_pos w]
      have w' : AFB (gsd em A) A k.toNat = false := by simpa using w
      exact ih (jj 0, S1) ⟨by omega, by rw [st, w']; rfl, F1⟩
theorem r_whose {S : St} {N : Nat} {A : Int → Int} {M : Int} {EM : Int → Sem} (hN : 4000 < N) (hM : NUM A M) (hA : AR 1000 S A) (hE : ∀ L : Int, 0 ≤ L → L < A 2 → EVM S L 0 8 (EM L)) : ∃ S', f_X10_whose N S = some (WHO (fun t => AFB (gsd (EM t) A) A (A 5).toNat) (A 2).toNat, S') ∧ FX (fun f _ => 1020 ≤ f ∧ f ≤ 1022) S S' := by
  have a2 := hM.2.1
  have a2' := hM.2.2.1
  have := wp_up (F := fun n (r : Int32 × St) k => f_X10_whose_b4 N n r.1 (jj k) r.2) (P := fun k r => 0 ≤ k ∧ r.1 = WHO (fun t => AFB (gsd (EM t) A) A (A 5).toNat) k.toNat ∧ FX (fun f _ => 1020 ≤ f ∧ f ≤ 1022) S r.2) (Q := fun r => r.1 = WHO (fun t => AFB (gsd (EM t) A) A (A 5).toNat) (A 2).toNat ∧ FX (fun f _ => 1020 ≤ f ∧ f ≤ 1022) S r.2) (E := A 2) (by
    intro n ⟨x, S1⟩ ⟨k0, h1, F1⟩
    have e2 : gI S1 1000 0 2 = jj (A 2) := (F1.1 1000 0 2 (by omega)).trans (hA 2 (by decide) (by decide))
    simp only [f_X10_whose_b4]
    rw [e2, if_pos (Int32.le_refl _)]
    exact wp_some ⟨h1, F1⟩) (by
    intro n ⟨x, S1⟩ k hk ⟨k0, h1, F1⟩ ih
    simp only at h1 F1
    have e2 : gI S1 1000 0 2 = jj (A 2) := (F1.1 1000 0 2 (by omega)).trans (hA 2 (by decide) (by decide))
    simp only [f_X10_whose_b4]
    rw [e2, if_neg (show ¬ jj (A 2) ≤ jj k by rw [jj_le (by omega) (by omega) (by omega) (by omega)]; omega)]
    simp only [jj_of]
    refine r_whose_in hN hM (FX_AR F1 (by omega) hA) (EVM_of (hE k k0 hk) (fun i => F1.1 1002 0 i (by omega))) (fun S2 F2 => ih (if AFB (gsd (EM k) A) A (A 5).toNat = true then x ||| ((1 : Int32) <<< (jj k &&& 31)) else x, S2) ⟨by omega, ?_, FX_trans F1 F2⟩)
    simp only
    rw [WHO_s k0, h1]) (A 2).toNat N 0 (jj 0, S) (by omega) (by omega) ⟨by decide, rfl, FX_refl _ _⟩
  obtain ⟨⟨v, S'⟩, e, h1, h2⟩ := this
  simp only at h1
  rw [h1] at e
  exact ⟨S', e, h2⟩
theorem k_whose {S : St} {N : Nat} {T : Int} (hN : 4000 < N) (t0 : 0 ≤ T) (t1 : T < 512) (hI : INV T S) : TWO (fun S => f_X9_whose N S) (fun S => f_X10_whose N S) T S := by
  obtain ⟨A, B, hI⟩ := hI
  obtain ⟨em, et, hX, hR⟩ := INVA_get hI
  obtain ⟨EM, ET, hE⟩ := hI.2.2.2.2.2.2.2.2.2.2.1
  obtain ⟨S1, e1, F1⟩ := x_whose (EM := EM) hN hX.2.1 hX.1 (fun L a b => (hE L (by omega) b).1.1)
  obtain ⟨S2, e2, F2⟩ := r_whose (S := S1) (EM := EM) hN hX.2.1 (FX_AR F1 (by omega) hR.1) (fun L a b => EVM_of (hE L (by omega) b).2.1 (fun i => F1.1 1002 0 i (by omega)))
  exact ⟨_, S1, S2, e1, e2, INV_scr hI t0 t1 (FX_trans (FX_sub F1 (fun f j q => by unfold SCR; omega)) (FX_sub F2 (fun f j q => by unfold SCR; omega))) (WRT_scr (P := fun f _ => 200 ≤ f ∧ f ≤ 205 ∨ 1020 ≤ f ∧ f ≤ 1022) hI (FX_trans (FX_sub F1 (fun f j q => by omega)) (FX_sub F2 (fun f j q => by omega))) (fun j => by omega) t0)⟩
