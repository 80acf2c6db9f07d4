/-! Twelve bits in an int. -/
theorem tb_split {p : Nat → Nat → Prop} (h : ∀ a : Fin 64, ∀ b : Fin 64, ∀ c : Fin 12, p (64 * a.val + b.val) c.val) {n c : Nat} (hn : n < 4096) (hc : c < 12) : p n c := by
  have := h ⟨n / 64, by omega⟩ ⟨n % 64, by omega⟩ ⟨c, hc⟩
  simp only [Nat.div_add_mod] at this
  exact this
theorem tb_get0 {n c : Nat} (hn : n < 4096) (hc : c < 12) : ((jj n >>> (jj c &&& 31)) &&& 1) = jj (if n.testBit c = true then 1 else 0) :=
  tb_split (p := fun n c => ((jj n >>> (jj c &&& 31)) &&& 1) = jj (if n.testBit c = true then 1 else 0)) (by decide +kernel) hn hc
theorem tb_or0 {n c : Nat} (hn : n < 4096) (hc : c < 12) : (jj n ||| (1 <<< (jj c &&& 31))) = jj ((n ||| 2 ^ c : Nat) : Int) :=
  tb_split (p := fun n c => (jj n ||| (1 <<< (jj c &&& 31))) = jj ((n ||| 2 ^ c : Nat) : Int)) (by decide +kernel) hn hc
theorem tb_clr0 {n c : Nat} (hn : n < 4096) (hc : c < 12) : (jj n &&& ((1 <<< (jj c &&& 31)) ^^^ (-1))) = jj ((n &&& (4095 ^^^ 2 ^ c) : Nat) : Int) :=
  tb_split (p := fun n c => (jj n &&& ((1 <<< (jj c &&& 31)) ^^^ (-1))) = jj ((n &&& (4095 ^^^ 2 ^ c) : Nat) : Int)) (by decide +kernel) hn hc
