/-- the bit of a stroke's target: 12 is the edge -/
def tgb (w : Int) : Int := if w % 2 = 1 then w / 2 + 1 else if w / 2 = 0 then 12 else w / 2 - 1
theorem x_touched {S : St} {w : Int} (w0 : 0 ≤ w) (w1 : w < 24) : f_X7_touched S (jj w) = some (((1 : Int32) <<< (jj (w / 2) &&& 31)) ||| ((1 : Int32) <<< (jj (tgb w) &&& 31))) ∧ 0 ≤ tgb w ∧ tgb w < 13 := by
  have r1 : jj w / (2 : Int32) = jj (w / 2) := jj_div (b := 2) w0 (by omega) (by decide) (by decide)
  have r2 : jj w - jj (w / 2) * (2 : Int32) = jj (w % 2) := by
    have := jj_rem (a := w) (b := 2) w0 (by omega) (by decide) (by decide)
    rw [← r1]
    exact this
  unfold f_X7_touched f_X7_touched_b20 tgb
  simp only [lt]
  rw [r1, r2]
  by_cases q : w % 2 = 1
  · rw [if_pos (show jj (w % 2) = 1 by rw [q]; rfl), show jj (w / 2) + (1 : Int32) = jj (w / 2 + 1) from jj_add _ 1, if_pos (show (0 : Int32) ≤ jj (w / 2 + 1) by rw [show (0 : Int32) = jj 0 from rfl, jj_le (by omega) (by omega) (by omega) (by omega)]; omega), if_pos q]
    exact ⟨rfl, by omega, by omega⟩
  · rw [if_neg (show ¬ jj (w % 2) = 1 by rw [show (1 : Int32) = jj 1 from rfl, jj_eq (by omega) (by omega) (by omega) (by omega)]; exact q), show jj (w / 2) - (1 : Int32) = jj (w / 2 - 1) from jj_sub _ 1, if_neg q]
    by_cases z : w / 2 = 0
    · rw [if_neg (show ¬ (0 : Int32) ≤ jj (w / 2 - 1) by rw [show (0 : Int32) = jj 0 from rfl, jj_le (by omega) (by omega) (by omega) (by omega)]; omega), if_pos z]
      exact ⟨rfl, by omega, by omega⟩
    · rw [if_pos (show (0 : Int32) ≤ jj (w / 2 - 1) by rw [show (0 : Int32) = jj 0 from rfl, jj_le (by omega) (by omega) (by omega) (by omega)]; omega), if_neg z]
      exact ⟨rfl, by omega, by omega⟩
