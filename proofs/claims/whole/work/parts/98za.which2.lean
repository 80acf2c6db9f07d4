/-! which: the reference's count. -/
def MD (em et : Sem) (h : Int) (A B : Int → Int) (L : Nat) (code : Int) : Prop := ∃ X, RUN em et h L (IMG A B) code = some X ∧ LKE X A
noncomputable def fsw (P : Int → Prop) (g : Int → Int) (w : Int) (s : Int × Int) : Int × Int := @ite (Int × Int) (P w) (Classical.propDecidable (P w)) (s.1 + 1, if s.2 = -1 then g w else s.2) s
theorem fsw_yes {P : Int → Prop} {g : Int → Int} {w : Int} {s : Int × Int} (h : P w) : fsw P g w s = (s.1 + 1, if s.2 = -1 then g w else s.2) := by
  unfold fsw
  exact if_pos h
theorem fsw_no {P : Int → Prop} {g : Int → Int} {w : Int} {s : Int × Int} (h : ¬ P w) : fsw P g w s = s := by
  unfold fsw
  exact if_neg h
noncomputable def whA (em et : Sem) (h : Int) (A B : Int → Int) : Int × Int := itr (fsw (MD em et h A B 1) (fun w => w)) 0 24 (0, -1)
noncomputable def whR (em et : Sem) (h : Int) (A B : Int → Int) : Int × Int := itr (fsw (MD em et h A B 2) (fun w => w / 24)) 0 576 (whA em et h A B)
theorem r_which {S : St} {N : Nat} {A B : Int → Int} {M h : Int} {em et : Sem} (x2 : Int32) (hN : 4000 < N) (hO : OKS (IMG A B) M) (hC : RC S A em et) (hB : AR 1001 S B) (h0 : 0 ≤ h ∧ h < A 0) (nA : ∀ i : Int, 9 ≤ i → i < 35 → i ≠ 10 → 0 ≤ A i ∧ A i ≤ 100000000) : ∃ S', f_X10_which_b19 N N (jj h) x2 (jj 0) (jj (-1)) (jj 0) S = some (if x2 = 0 then jj (whR em et h A B).1 else jj (whR em et h A B).2, S') ∧ RC S' A em et ∧ FX (fun f _ => f = 1000 ∨ (1020 ≤ f ∧ f ≤ 1025)) S S' := by
  have H := wp_up (F := fun n (s : (Int × Int) × St) k => f_X10_which_b19 N n (jj h) x2 (jj s.1.1) (jj s.1.2) (jj k) s.2) (P := fun k s => 0 ≤ k ∧ s.1 = itr (fsw (MD em et h A B 1) (fun w => w)) 0 k.toNat (0, -1) ∧ 0 ≤ s.1.1 ∧ s.1.1 ≤ k ∧ -1 ≤ s.1.2 ∧ s.1.2 < 24 ∧ RC s.2 A em et ∧ FX (fun f _ => f = 1000 ∨ (1020 ≤ f ∧ f ≤ 1025)) S s.2) (Q := fun q => q.1 = (if x2 = 0 then jj (whR em et h A B).1 else jj (whR em et h A B).2) ∧ RC q.2 A em et ∧ FX (fun f _ => f = 1000 ∨ (1020 ≤ f ∧ f ≤ 1025)) S q.2) (E := 24) (by
    intro n ⟨⟨a, b⟩, S1⟩ ⟨k0, h1, h2, h3, h4, h5, R1, F1⟩
    simp only at h1 h2 h3 h4 h5 R1 F1
    have h1' : (a, b) = whA em et h A B := h1
    simp only [f_X10_which_b19]
    rw [if_pos (show (24 : Int32) ≤ jj 24 by rw [jj_of]; exact Int32.le_refl _)]
    refine wp_up (F := fun n (s : (Int × Int) × St) k => f_X10_which_b67 N n (jj h) x2 (jj s.1.1) (jj s.1.2) (jj k) s.2) (P := fun k s => 0 ≤ k ∧ s.1 = itr (fsw (MD em et h A B 2) (fun w => w / 24)) 0 k.toNat (whA em et h A B) ∧ 0 ≤ s.1.1 ∧ s.1.1 ≤ 24 + k ∧ -1 ≤ s.1.2 ∧ s.1.2 < 24 ∧ RC s.2 A em et ∧ FX (fun f _ => f = 1000 ∨ (1020 ≤ f ∧ f ≤ 1025)) S s.2) (E := 576) ?_ ?_ 576 N 0 ((a, b), S1) (by decide) (by omega) ⟨by decide, h1', h2, by show a ≤ 24 + 0; omega, h4, h5, R1, F1⟩
    · intro n ⟨⟨a, b⟩, S1⟩ ⟨k0, h1, h2, h3, h4, h5, R1, F1⟩
      simp only at h1 h2 h3 h4 h5 R1 F1
      have h1' : (a, b) = whR em et h A B := h1
      simp only [f_X10_which_b67]
      rw [if_pos (show (576 : Int32) ≤ jj 576 by rw [jj_of]; exact Int32.le_refl _), ← h1']
      by_cases z : x2 = 0
      · rw [if_pos z, if_pos z]
        exact wp_some ⟨rfl, R1, F1⟩
      · rw [if_neg z, if_neg z]
        exact wp_some ⟨rfl, R1, F1⟩
    · intro n ⟨⟨a, b⟩, S1⟩ k hk ⟨k0, h1, h2, h3, h4, h5, R1, F1⟩ ih
      simp only at h1 h2 h3 h4 h5 R1 F1
      have st : itr (fsw (MD em et h A B 2) (fun w => w / 24)) 0 (k + 1).toNat (whA em et h A B) = fsw (MD em et h A B 2) (fun w => w / 24) k (a, b) := by
        rw [show (k + 1).toNat = k.toNat + 1 by omega, itr_add, ← h1, show (0 : Int) + (k.toNat : Int) = k by omega]
        rfl
      obtain ⟨v, S2, e2, R2, F2, q⟩ := r_isMade (B := B) (L := 2) (h := h) (code := k) hN hO R1 (FX_AR F1 (by omega) hB) h0 k0 (by show k < 576; omega) (by omega) (by decide) nA
      have e2 : f_X10_isMade N S1 (jj h) (jj k) 2 = some (v, S2) := e2
      simp only [f_X10_which_b67, lt]
      rw [if_neg (show ¬ (576 : Int32) ≤ jj k by rw [show (576 : Int32) = jj 576 from rfl, jj_le (by omega) (by omega) (by omega) (by omega)]; omega), bnd_of e2, show jj k + (1 : Int32) = jj (k + 1) from jj_add k 1]
      rcases q with ⟨v0, no⟩ | ⟨v1, yes⟩
      · rw [v0, if_pos rfl]
        exact ih ((a, b), S2) ⟨by omega, by rw [st, fsw_no no], h2, by show a ≤ 24 + (k + 1); omega, h4, h5, R2, FX_trans F1 F2⟩
      · rw [v1, if_neg (show ¬ (1 : Int32) = 0 by decide), show jj a + (1 : Int32) = jj (a + 1) from jj_add a 1, show jj k / (24 : Int32) = jj (k / 24) from jj_div (b := 24) k0 (by omega) (by decide) (by decide)]
        have yes : MD em et h A B 2 k := yes
        by_cases z : b = -1
        · rw [if_pos (show jj b = -1 by rw [z]; rfl)]
          exact ih ((a + 1, k / 24), S2) ⟨by omega, by rw [st, fsw_yes yes]; simp only [if_pos z], by show 0 ≤ a + 1; omega, by show a + 1 ≤ 24 + (k + 1); omega, by show -1 ≤ k / 24; omega, by show k / 24 < 24; omega, R2, FX_trans F1 F2⟩
        · rw [if_neg (show ¬ jj b = -1 by rw [show (-1 : Int32) = jj (-1) from rfl, jj_eq (by omega) (by omega) (by decide) (by decide)]; exact z)]
          exact ih ((a + 1, b), S2) ⟨by omega, by rw [st, fsw_yes yes]; simp only [if_neg z], by show 0 ≤ a + 1; omega, by show a + 1 ≤ 24 + (k + 1); omega, h4, h5, R2, FX_trans F1 F2⟩) (by
    intro n ⟨⟨a, b⟩, S1⟩ k hk ⟨k0, h1, h2, h3, h4, h5, R1, F1⟩ ih
    simp only at h1 h2 h3 h4 h5 R1 F1
    have st : itr (fsw (MD em et h A B 1) (fun w => w)) 0 (k + 1).toNat (0, -1) = fsw (MD em et h A B 1) (fun w => w) k (a, b) := by
      rw [show (k + 1).toNat = k.toNat + 1 by omega, itr_add, ← h1, show (0 : Int) + (k.toNat : Int) = k by omega]
      rfl
    obtain ⟨v, S2, e2, R2, F2, q⟩ := r_isMade (B := B) (L := 1) (h := h) (code := k) hN hO R1 (FX_AR F1 (by omega) hB) h0 k0 (by show k < 24; omega) (by omega) (by decide) nA
    have e2 : f_X10_isMade N S1 (jj h) (jj k) 1 = some (v, S2) := e2
    simp only [f_X10_which_b19, lt]
    rw [if_neg (show ¬ (24 : Int32) ≤ jj k by rw [show (24 : Int32) = jj 24 from rfl, jj_le (by omega) (by omega) (by omega) (by omega)]; omega), bnd_of e2, show jj k + (1 : Int32) = jj (k + 1) from jj_add k 1]
    rcases q with ⟨v0, no⟩ | ⟨v1, yes⟩
    · rw [v0, if_pos rfl]
      exact ih ((a, b), S2) ⟨by omega, by rw [st, fsw_no no], h2, by show a ≤ k + 1; omega, h4, h5, R2, FX_trans F1 F2⟩
    · rw [v1, if_neg (show ¬ (1 : Int32) = 0 by decide), show jj a + (1 : Int32) = jj (a + 1) from jj_add a 1]
      have yes : MD em et h A B 1 k := yes
      by_cases z : b = -1
      · rw [if_pos (show jj b = -1 by rw [z]; rfl)]
        exact ih ((a + 1, k), S2) ⟨by omega, by rw [st, fsw_yes yes]; simp only [if_pos z], by show 0 ≤ a + 1; omega, by show a + 1 ≤ k + 1; omega, by show -1 ≤ k; omega, hk, R2, FX_trans F1 F2⟩
      · rw [if_neg (show ¬ jj b = -1 by rw [show (-1 : Int32) = jj (-1) from rfl, jj_eq (by omega) (by omega) (by decide) (by decide)]; exact z)]
        exact ih ((a + 1, b), S2) ⟨by omega, by rw [st, fsw_yes yes]; simp only [if_neg z], by show 0 ≤ a + 1; omega, by show a + 1 ≤ k + 1; omega, h4, h5, R2, FX_trans F1 F2⟩) 24 N 0 (((0, -1) : Int × Int), S) (by decide) (by omega) ⟨by decide, rfl, show (0 : Int) ≤ 0 by decide, show (0 : Int) ≤ 0 by decide, show (-1 : Int) ≤ -1 by decide, show (-1 : Int) < 24 by decide, hC, FX_refl _ _⟩
  obtain ⟨⟨v, S'⟩, e, h1, h2⟩ := H
  simp only at h1
  rw [h1] at e
  exact ⟨S', e, h2⟩
