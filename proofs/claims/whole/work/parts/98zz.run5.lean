def SOK (S S1 : St) (vs ts vs' ts' : List Int) : Prop := VAL S1 vs' ∧ TRU S1 ts' ∧ BDV vs' ∧ BDT ts' ∧ vs'.length ≤ vs.length + 1 ∧ ts'.length ≤ ts.length + 1 ∧ FX RFX S S1
theorem r_step {N n w : Nat} {x3 x4 : Int32} {m : Int} {nv cs : Int → Int} {S : St} {c d : Int} {vs ts vs' ts' : List Int} (hst : stpS nv cs (c, d) vs ts = some (vs', ts')) (hcv : CV m (c, d)) (hm : m ≤ 8) (hn : ∀ k : Int, 0 ≤ k → k < m → gI S 1020 0 k.toNat = jj (nv k)) (hc : ∀ i : Int, 0 ≤ i → i < 12 → gI S 1000 0 (11 + i).toNat = jj (cs i)) (hE : ENVB m nv cs) (hV : VAL S vs) (hT : TRU S ts) (bV : BDV vs) (bT : BDT ts) (lv : vs.length ≤ 320) (lt' : ts.length ≤ 320) : ∃ S1, bodS N n x3 x4 (jj (vs.length : Int)) (jj (ts.length : Int)) (jj (w : Int)) (jj c) (jj d) S = f_X10_summedUp_b38 N n x3 x4 (jj (vs'.length : Int)) (jj (ts'.length : Int)) (jj ((w + 1 : Nat) : Int)) S1 ∧ SOK S S1 vs ts vs' ts' := by
  have cv : (c = 0 ∧ 0 ≤ d ∧ d ≤ 9999) ∨ (c = 1 ∧ 0 ≤ d ∧ d < m) ∨ (2 ≤ c ∧ c ≤ 22) := hcv
  clear hcv
  rcases st_inv hst with ⟨q, e1, e2⟩ | ⟨q, e1, e2⟩ | ⟨q, a, b, t, vs0, ts0, e1, e2, e3, e4⟩ | ⟨q, q0, q1, q3, a, vs0, e1, e2, e3⟩ | ⟨q, q', a, b, vs0, e1, e2, e3⟩ | ⟨q, q', a, b, vs0, e1, e2, e3⟩ | ⟨q, t, ts0, e1, e2, e3⟩ | ⟨q, t, u, ts0, e1, e2, e3⟩
  · subst e1 e2
    have db : 0 ≤ d ∧ d ≤ 9999 := by omega
    have p := putV hV bV (v := d) (by omega) (by omega)
    refine ⟨_, by rw [q]; exact b_num (by omega) db.1 db.2, p.1, TRU_eq (S := S) (fun k hk => rfl) hT, p.2.1, bT, by simp, by omega, p.2.2⟩
  · subst e1 e2
    have db : 0 ≤ d ∧ d < m := by omega
    have nb := hE.1 d db.1 db.2
    have p := putV hV bV (v := nv d) nb.1 nb.2
    refine ⟨_, by rw [q]; exact b_nam (by omega) db.1 (by omega) (hn d db.1 db.2) nb.1 nb.2, p.1, TRU_eq (S := S) (fun k hk => rfl) hT, p.2.1, bT, by simp, by omega, p.2.2⟩
  · subst e1 e2 e3 e4
    obtain ⟨bb, bV1⟩ := BDV_tl bV
    obtain ⟨ab, bV0⟩ := BDV_tl bV1
    obtain ⟨tb, bT0⟩ := BDT_tl bT
    simp only [List.length_cons] at lv lt'
    have st := b_sel (N := N) (n := n) (w := w) (x3 := x3) (x4 := x4) (d := jj d) (k := vs0.length) (u := ts'.length) (t := t) (b := b) (by omega) (by omega) hT.1 tb hV.1
    rw [q]
    by_cases z : t = 0
    · have p := putV hV.2.2 bV0 (v := b) bb.1 bb.2
      rw [if_pos z] at st
      have es : sel t a b = b := if_pos z
      rw [es]
      exact ⟨_, st, p.1, TRU_eq (S := S) (fun k hk => rfl) hT.2, p.2.1, bT0, by simp, by simp; omega, p.2.2⟩
    · rw [if_neg z] at st
      have es : sel t a b = a := if_neg z
      rw [es]
      exact ⟨_, st, hV.2, hT.2, bV1, bT0, by simp, by simp; omega, FX_refl _ _⟩
  · subst e1 e2 e3
    obtain ⟨ab, bV0⟩ := BDV_tl bV
    simp only [List.length_cons] at lv
    have ob := uop_b (o := c) (cs := cs) ab.1 ab.2 hE.2
    have p := putV hV.2 bV0 (v := uop c cs a) ob.1 ob.2
    exact ⟨_, b_un (k := vs0.length) (by omega) (by omega) q q3 hV.1 (r_ofOne S (by omega) q ab.1 ab.2 hc hE.2), p.1, TRU_eq (S := S) (fun k hk => rfl) hT, p.2.1, bT, by simp, by omega, p.2.2⟩
  · subst e1 e2 e3
    obtain ⟨bb, bV1⟩ := BDV_tl bV
    obtain ⟨ab, bV0⟩ := BDV_tl bV1
    simp only [List.length_cons] at lv
    have ob := bop_b c a b
    have p := putV hV.2.2 bV0 (v := bop c a b) (by omega) (by omega)
    exact ⟨_, b_two (k := vs0.length) (by omega) (by omega) (by omega) hV.2.1 hV.1 (r_two S (by omega) (by omega) ab.1 ab.2 bb.1 bb.2), p.1, TRU_eq (S := S) (fun k hk => rfl) hT, p.2.1, bT, by simp, by omega, p.2.2⟩
  · subst e1 e2 e3
    obtain ⟨bb, bV1⟩ := BDV_tl bV
    obtain ⟨ab, bV0⟩ := BDV_tl bV1
    simp only [List.length_cons] at lv
    have p := putT hT bT (v := cop c a b) (cop_b c a b)
    exact ⟨_, b_cmp (k := vs'.length) (by omega) (by omega) q q' hV.2.1 hV.1 (cop_b c a b) (r_asked S q (by omega) ab.1 ab.2 bb.1 bb.2), VAL_eq (S := S) (fun k hk => rfl) hV.2.2, p.1, bV0, p.2.1, by simp; omega, by simp, p.2.2⟩
  · subst e1 e2 e3
    obtain ⟨tb, bT0⟩ := BDT_tl bT
    simp only [List.length_cons] at lt'
    have p := putT hT.2 bT0 (v := nop t) (nop_b t)
    rw [q]
    exact ⟨_, b_not (u := ts0.length) (by omega) hT.1 tb, VAL_eq (S := S) (fun k hk => rfl) hV, p.1, bV, p.2.1, by omega, by simp, p.2.2⟩
  · subst e1 e2 e3
    obtain ⟨ub, bT1⟩ := BDT_tl bT
    obtain ⟨tb, bT0⟩ := BDT_tl bT1
    simp only [List.length_cons] at lt'
    have p := putT hT.2.2 bT0 (v := jop c t u) (jop_b c t u)
    exact ⟨_, b_jn (u := ts0.length) (by omega) (by omega) (by omega) hT.2.1 hT.1 (jop_b c t u) (r_joined S (by omega) (by omega) tb ub), VAL_eq (S := S) (fun k hk => rfl) hV, p.1, bV, p.2.1, by omega, by simp, p.2.2⟩
