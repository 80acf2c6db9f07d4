theorem dst_tgb {w : Int} (w0 : 0 ≤ w) (w1 : w < 24) : dst (w / 2) (w % 2) = if tgb w = 12 then 9 else 11 + tgb w := by
  unfold dst bsd tgb
  repeat' split
  all_goals omega
theorem ST0_at {em et : Sem} {X : Int → Int} {h w : Int} (w0 : 0 ≤ w) {i : Int} (hi : i < 23) : ST0 em et X h w i = if i = dst (w / 2) (w % 2) then X (dst (w / 2) (w % 2)) + mvv em X (sgA X) h (w / 2) (w % 2) else if i = 11 + w / 2 then X (11 + w / 2) - mvv em X (sgA X) h (w / 2) (w % 2) else X i := by
  have e : ST0 em et X h w = STR em et (sgA X) X h (w / 2) (w % 2) := by
    unfold ST0 STW
    exact if_pos rfl
  rw [e, STR_dough (by omega) _ hi, ST2_at _ (by omega)]
/-- what the class skips could not lie like now -/
theorem skip_ok {S : St} {N j k : Nat} {X A : Int → Int} {M M' h w : Int} {em et : Sem} (hN : 4000 < N) (hX : OKS X M) (hA : OKS A M') (L1 : LAY S j X) (L2 : LAY S k A) (w0 : 0 ≤ w) (w1 : w < 24) : ∃ x, f_X4_unlike N j k S = some x ∧ (¬ (x &&& ((((1 : Int32) <<< (jj (w / 2) &&& 31)) ||| ((1 : Int32) <<< (jj (tgb w) &&& 31))) ^^^ (-1))) = 0 → ¬ LKE (ST0 em et X h w) A) := by
  have rx := OKR_RB hX.1 hX.2.2.2
  have ra := OKR_RB hA.1 hA.2.2.2
  have ht := (x_touched (S := S) w0 w1).2
  have dt := dst_tgb w0 w1
  have b2 := bt_two (c := w / 2) (d := tgb w) (by omega) (by omega) ht.1 ht.2
  obtain ⟨x, e, -, hm⟩ := x_unlike hN (LAY_CC L1) (LAY_CC L2) (OKR_CB hX.1 hX.2.2.2) (OKR_CB hA.1 hA.2.2.2) L1.2.2.1 L2.2.2.1 ⟨rx.2.2.1, rx.2.2.2.1⟩ ⟨ra.2.2.1, ra.2.2.2.1⟩
  refine ⟨x, e, fun q lk => q (hm _ ?_ ?_)⟩
  · by_cases z : tgb w = 12
    · have b3 := b2.2
      rw [z] at b3
      rw [z]
      exact Or.inl b3
    · rw [if_neg z] at dt
      have := lk.2
      rw [ST0_at w0 (by decide), if_neg (by omega), if_neg (by omega)] at this
      exact Or.inr this
  · intro c a b ne
    by_cases y : c = w / 2
    · rw [y]; exact b2.1
    · by_cases z : c = tgb w
      · rw [z]; exact b2.2
      · have := lk.1 (11 + c) (by omega) (by omega)
        rw [ST0_at w0 (by omega), if_neg (by rw [dt]; split <;> omega), if_neg (by omega)] at this
        exact absurd this ne
