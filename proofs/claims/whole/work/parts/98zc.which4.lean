theorem x_like {S : St} {N j k : Nat} {X A : Int → Int} {M M' : Int} (hN : 4000 < N) (hX : OKS X M) (hA : OKS A M') (L1 : LAY S j X) (L2 : LAY S k A) : ∃ v, f_X4_laysLike N j k S = some v ∧ ((v = 0 ∧ ¬ LKE X A) ∨ (v = 1 ∧ LKE X A)) := by
  have rx := OKR_RB hX.1 hX.2.2.2
  have ra := OKR_RB hA.1 hA.2.2.2
  obtain ⟨x, e, hx, -⟩ := x_unlike hN (LAY_CC L1) (LAY_CC L2) (OKR_CB hX.1 hX.2.2.2) (OKR_CB hA.1 hA.2.2.2) L1.2.2.1 L2.2.2.1 ⟨rx.2.2.1, rx.2.2.2.1⟩ ⟨ra.2.2.1, ra.2.2.2.1⟩
  have tb := tb_one L1.2.1 L2.2.1
  unfold f_X4_laysLike
  by_cases q : gI S 404 j 0 = gI S 404 k 0
  · rw [if_pos q, bnd_of e]
    by_cases z : x = 0
    · rw [if_pos z]
      have hz := hx.1 z
      refine ⟨1, rfl, Or.inr ⟨rfl, fun i a b => ?_, hz.2⟩⟩
      by_cases y : i < 23
      · have := hz.1 (i - 11) (by omega) (by omega)
        rw [show 11 + (i - 11) = i by omega] at this
        exact this
      · have := tb.1 q (i - 23) (by omega) (by omega)
        rw [show 23 + (i - 23) = i by omega] at this
        exact this
    · rw [if_neg z]
      exact ⟨0, rfl, Or.inl ⟨rfl, fun l => z (hx.2 ⟨fun c a b => l.1 (11 + c) (by omega) (by omega), l.2⟩)⟩⟩
  · rw [if_neg q]
    exact ⟨0, rfl, Or.inl ⟨rfl, fun l => q (tb.2 (fun c a b => l.1 (23 + c) (by omega) (by omega)))⟩⟩
/-- the two places of a stroke -/
theorem bt_two {c d : Int} (c0 : 0 ≤ c) (c1 : c < 13) (d0 : 0 ≤ d) (d1 : d < 13) : (((1 : Int32) <<< (jj c &&& 31)) &&& ((((1 : Int32) <<< (jj c &&& 31)) ||| ((1 : Int32) <<< (jj d &&& 31))) ^^^ (-1)) = 0) ∧ (((1 : Int32) <<< (jj d &&& 31)) &&& ((((1 : Int32) <<< (jj c &&& 31)) ||| ((1 : Int32) <<< (jj d &&& 31))) ^^^ (-1)) = 0) := by
  have key : ∀ c : Fin 13, ∀ d : Fin 13, (((1 : Int32) <<< (jj c.val &&& 31)) &&& ((((1 : Int32) <<< (jj c.val &&& 31)) ||| ((1 : Int32) <<< (jj d.val &&& 31))) ^^^ (-1)) = 0) ∧ (((1 : Int32) <<< (jj d.val &&& 31)) &&& ((((1 : Int32) <<< (jj c.val &&& 31)) ||| ((1 : Int32) <<< (jj d.val &&& 31))) ^^^ (-1)) = 0) := by decide +kernel
  have q := key ⟨c.toNat, by omega⟩ ⟨d.toNat, by omega⟩
  simp only [Int.toNat_of_nonneg c0, Int.toNat_of_nonneg d0] at q
  exact q
