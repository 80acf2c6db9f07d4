/-- what a step of the list machine was -/
theorem st_inv {nv cs : Int → Int} {c d : Int} {vs ts vs' ts' : List Int} (h : stpS nv cs (c, d) vs ts = some (vs', ts')) : (c = 0 ∧ vs' = d :: vs ∧ ts' = ts) ∨ (c = 1 ∧ vs' = nv d :: vs ∧ ts' = ts) ∨ (c = 3 ∧ ∃ a b t vs0 ts0, vs = b :: a :: vs0 ∧ ts = t :: ts0 ∧ vs' = sel t a b :: vs0 ∧ ts' = ts0) ∨ (c ≤ 5 ∧ c ≠ 0 ∧ c ≠ 1 ∧ c ≠ 3 ∧ ∃ a vs0, vs = a :: vs0 ∧ vs' = uop c cs a :: vs0 ∧ ts' = ts) ∨ (5 < c ∧ c < 10 ∧ ∃ a b vs0, vs = b :: a :: vs0 ∧ vs' = bop c a b :: vs0 ∧ ts' = ts) ∨ (10 ≤ c ∧ c < 20 ∧ ∃ a b vs0, vs = b :: a :: vs0 ∧ vs' = vs0 ∧ ts' = cop c a b :: ts) ∨ (c = 20 ∧ ∃ t ts0, ts = t :: ts0 ∧ vs' = vs ∧ ts' = nop t :: ts0) ∨ (20 < c ∧ ∃ t u ts0, ts = u :: t :: ts0 ∧ vs' = vs ∧ ts' = jop c t u :: ts0) := by
  unfold stpS at h
  simp only at h
  have fin : ∀ {a b : List Int}, some (a, b) = some (vs', ts') → vs' = a ∧ ts' = b := fun e => ⟨(congrArg (·.1) (Option.some.inj e)).symm, (congrArg (·.2) (Option.some.inj e)).symm⟩
  by_cases q0 : c = 0
  · rw [if_pos q0] at h
    exact Or.inl ⟨q0, fin h⟩
  rw [if_neg q0] at h
  by_cases q1 : c = 1
  · rw [if_pos q1] at h
    exact Or.inr (Or.inl ⟨q1, fin h⟩)
  rw [if_neg q1] at h
  by_cases q3 : c = 3
  · rw [if_pos q3] at h
    refine Or.inr (Or.inr (Or.inl ⟨q3, ?_⟩))
    cases vs with
    | nil => exact absurd h (by simp)
    | cons b vs =>
      cases vs with
      | nil => exact absurd h (by simp)
      | cons a vs0 =>
        cases ts with
        | nil => exact absurd h (by simp)
        | cons t ts0 => exact ⟨a, b, t, vs0, ts0, rfl, rfl, fin h⟩
  rw [if_neg q3] at h
  by_cases q5 : c ≤ 5
  · rw [if_pos q5] at h
    refine Or.inr (Or.inr (Or.inr (Or.inl ⟨q5, q0, q1, q3, ?_⟩)))
    cases vs with
    | nil => exact absurd h (by simp)
    | cons a vs0 => exact ⟨a, vs0, rfl, fin h⟩
  rw [if_neg q5] at h
  by_cases q10 : c < 10
  · rw [if_pos q10] at h
    refine Or.inr (Or.inr (Or.inr (Or.inr (Or.inl ⟨by omega, q10, ?_⟩))))
    cases vs with
    | nil => exact absurd h (by simp)
    | cons b vs =>
      cases vs with
      | nil => exact absurd h (by simp)
      | cons a vs0 => exact ⟨a, b, vs0, rfl, fin h⟩
  rw [if_neg q10] at h
  by_cases q20 : c < 20
  · rw [if_pos q20] at h
    refine Or.inr (Or.inr (Or.inr (Or.inr (Or.inr (Or.inl ⟨by omega, q20, ?_⟩)))))
    cases vs with
    | nil => exact absurd h (by simp)
    | cons b vs =>
      cases vs with
      | nil => exact absurd h (by simp)
      | cons a vs0 => exact ⟨a, b, vs0, rfl, fin h⟩
  rw [if_neg q20] at h
  by_cases q20e : c = 20
  · rw [if_pos q20e] at h
    refine Or.inr (Or.inr (Or.inr (Or.inr (Or.inr (Or.inr (Or.inl ⟨q20e, ?_⟩))))))
    cases ts with
    | nil => exact absurd h (by simp)
    | cons t ts0 => exact ⟨t, ts0, rfl, fin h⟩
  rw [if_neg q20e] at h
  refine Or.inr (Or.inr (Or.inr (Or.inr (Or.inr (Or.inr (Or.inr ⟨by omega, ?_⟩))))))
  cases ts with
  | nil => exact absurd h (by simp)
  | cons u ts =>
    cases ts with
    | nil => exact absurd h (by simp)
    | cons t ts0 => exact ⟨t, u, ts0, rfl, fin h⟩
theorem putV {S : St} {vs0 : List Int} {v : Int} (h0 : VAL S vs0) (bV : BDV vs0) (v0 : -100000000 ≤ v) (v1 : v ≤ 100000000) : VAL (sL S 1021 0 vs0.length (kk v)) (v :: vs0) ∧ BDV (v :: vs0) ∧ FX RFX S (sL S 1021 0 vs0.length (kk v)) := by
  refine ⟨⟨by rw [gL_sL, if_pos ⟨rfl, rfl, rfl⟩], VAL_eq (fun k hk => by rw [gL_sL, if_neg (by omega)]) h0⟩, fun y hy => ?_, FX_sL (FX_refl _ _) (by unfold RFX; omega)⟩
  rcases List.mem_cons.mp hy with z | z
  · rw [z]; exact ⟨v0, v1⟩
  · exact bV y z
theorem putT {S : St} {ts0 : List Int} {v : Int} (h0 : TRU S ts0) (bT : BDT ts0) (hv : v = 0 ∨ v = 1) : TRU (sI S 1022 0 ts0.length (jj v)) (v :: ts0) ∧ BDT (v :: ts0) ∧ FX RFX S (sI S 1022 0 ts0.length (jj v)) := by
  refine ⟨⟨by rw [gI_sI, if_pos ⟨rfl, rfl, rfl⟩], TRU_eq (fun k hk => by rw [gI_sI, if_neg (by omega)]) h0⟩, fun y hy => ?_, FX_sI (FX_refl _ _) (by unfold RFX; omega)⟩
  rcases List.mem_cons.mp hy with z | z
  · rw [z]; exact hv
  · exact bT y z
theorem BDV_tl {x : Int} {vs : List Int} (h : BDV (x :: vs)) : (-100000000 ≤ x ∧ x ≤ 100000000) ∧ BDV vs := ⟨h x (List.mem_cons_self ..), fun y hy => h y (List.mem_cons_of_mem _ hy)⟩
theorem BDT_tl {x : Int} {vs : List Int} (h : BDT (x :: vs)) : (x = 0 ∨ x = 1) ∧ BDT vs := ⟨h x (List.mem_cons_self ..), fun y hy => h y (List.mem_cons_of_mem _ hy)⟩
