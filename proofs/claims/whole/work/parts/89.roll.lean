/-! How many bits are new: turns that pass. -/
def bcn (n : Nat) : Int := pre (fun c => if n.testBit c.toNat = true then 1 else 0) 12
theorem bc_all : ∀ a : Fin 64, ∀ b : Fin 64, f_J6_bitCount_0f7a4 S00 (jj ((64 * a.val + b.val : Nat) : Int)) = some (jj (bcn (64 * a.val + b.val))) := by decide +kernel
theorem bc_at {S : St} {n : Nat} (hn : n < 4096) : f_J6_bitCount_0f7a4 S (jj n) = some (jj (bcn n)) := by
  have := bc_all ⟨n / 64, by omega⟩ ⟨n % 64, by omega⟩
  simp only [Nat.div_add_mod] at this
  exact this
