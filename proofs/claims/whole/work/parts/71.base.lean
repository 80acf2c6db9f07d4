/-! BASE of the states: what must hold, by weakest precondition; the reference's row as a function; frames. -/
def wp {α : Type} (x : Option α) (Q : α → Prop) : Prop := ∃ r, x = some r ∧ Q r
theorem wp_some {α : Type} {Q : α → Prop} {r : α} (h : Q r) : wp (some r) Q := ⟨r, rfl, h⟩
theorem wp_eq {α : Type} {Q : α → Prop} {x : Option α} {r : α} (e : x = some r) (h : Q r) : wp x Q := ⟨r, e, h⟩
theorem wp_mono {α : Type} {x : Option α} {P Q : α → Prop} (h : wp x P) (k : ∀ r, P r → Q r) : wp x Q := by
  obtain ⟨r, e, h2⟩ := h
  exact ⟨r, e, k r h2⟩
theorem wp_call {α β : Type} {x : Option α} {k : α → Option β} {P : α → Prop} {Q : β → Prop} (h : wp x P) (h2 : ∀ v, P v → wp (k v) Q) : wp (bnd x k) Q := by
  obtain ⟨r, e, h3⟩ := h
  rw [bnd_of e]
  exact h2 r h3
theorem wp_val {α β : Type} {x : Option α} {k : α → Option β} {v : α} {Q : β → Prop} (e : x = some v) (h : wp (k v) Q) : wp (bnd x k) Q := by
  rw [bnd_of e]
  exact h
theorem wp_chk {α : Type} {b : Bool} {x : Option α} {Q : α → Prop} (hb : b = true) (h : wp x Q) : wp (chk b x) Q := by
  rw [chk_true hb]
  exact h
theorem wp_lt {α β : Type} {x : α} {k : α → Option β} {Q : β → Prop} (h : wp (k x) Q) : wp (lt x k) Q := h
theorem wp_set {α β : Type} {x : α} {k : α → Option β} {Q : β → Prop} (P : α → Prop) (h0 : P x) (h : ∀ y, P y → wp (k y) Q) : wp (lt x k) Q := h x h0
theorem wp_ite {α : Type} {c : Prop} [Decidable c] {x y : Option α} {Q : α → Prop} (h1 : c → wp x Q) (h2 : ¬ c → wp y Q) : wp (if c then x else y) Q := by
  by_cases h : c
  · rw [if_pos h]; exact h1 h
  · rw [if_neg h]; exact h2 h
theorem wp_up {σ β : Type} {F : Nat → σ → Int → Option β} {P : Int → σ → Prop} {Q : β → Prop} {E : Int}
    (h0 : ∀ n a, P E a → wp (F (n + 1) a E) Q)
    (h1 : ∀ n a k, k < E → P k a → (∀ a', P (k + 1) a' → wp (F n a' (k + 1)) Q) → wp (F (n + 1) a k) Q) :
    ∀ (m n : Nat) (k : Int) (a : σ), k + m = E → m < n → P k a → wp (F n a k) Q := one_rule h0 h1
/-- the reference's row -/
def AR (f : Nat) (S : St) (A : Int → Int) : Prop := ∀ k : Int, 0 ≤ k → k < 3015 → gI S f 0 k.toNat = jj (A k)
def UP (A : Int → Int) (k v : Int) : Int → Int := fun i => if i = k then v else A i
theorem UP_hit {A : Int → Int} {k v : Int} : UP A k v k = v := if_pos rfl
theorem UP_ne {A : Int → Int} {k v i : Int} (h : i ≠ k) : UP A k v i = A i := if_neg h
theorem UP_at {A : Int → Int} {k v i : Int} : UP A k v i = if i = k then v else A i := rfl
theorem AR_set {f : Nat} {S : St} {A : Int → Int} (h : AR f S A) {k v : Int} (h0 : 0 ≤ k) : AR f (sI S f 0 k.toNat (jj v)) (UP A k v) := by
  intro i h1 h2
  rw [gI_sI]
  by_cases e : i = k
  · rw [e, if_pos ⟨rfl, rfl, rfl⟩, UP_hit]
  · rw [if_neg (fun q => e (by have := q.2.2; omega)), UP_ne e]
    exact h i h1 h2
theorem AR_l {f : Nat} {S : St} {A : Int → Int} (h : AR f S A) (n : Nat) (hn : n < 3015) : gI S f 0 (no_index (OfNat.ofNat n)) = jj (A (no_index (OfNat.ofNat n))) := h n (by omega) (by omega)
theorem AR_ext {f : Nat} {S : St} {A B : Int → Int} (h : AR f S A) (e : ∀ k, 0 ≤ k → k < 3015 → A k = B k) : AR f S B := fun k h1 h2 => (h k h1 h2).trans (by rw [e k h1 h2])
theorem AR_CA {S : St} {A : Int → Int} (h : AR 1000 S A) : CA S (fun i => A (11 + i)) := fun i h1 h2 => h (11 + i) (by omega) (by omega)
/-- what a call leaves as it was -/
def FX (P : Nat → Nat → Prop) (S S' : St) : Prop := (∀ f j i, ¬ P f j → gI S' f j i = gI S f j i) ∧ (∀ f j i, ¬ P f j → gL S' f j i = gL S f j i) ∧ (∀ f j i, ¬ P f j → gR S' f j i = gR S f j i) ∧ S'.2.2.2 = S.2.2.2
theorem FX_refl (P : Nat → Nat → Prop) (S : St) : FX P S S := ⟨fun _ _ _ _ => rfl, fun _ _ _ _ => rfl, fun _ _ _ _ => rfl, rfl⟩
theorem FX_trans {P : Nat → Nat → Prop} {S S1 S2 : St} (h : FX P S S1) (h2 : FX P S1 S2) : FX P S S2 :=
  ⟨fun f j i q => (h2.1 f j i q).trans (h.1 f j i q), fun f j i q => (h2.2.1 f j i q).trans (h.2.1 f j i q), fun f j i q => (h2.2.2.1 f j i q).trans (h.2.2.1 f j i q), h2.2.2.2.trans h.2.2.2⟩
theorem FX_sub {P Q : Nat → Nat → Prop} {S S1 : St} (h : FX P S S1) (s : ∀ f j, P f j → Q f j) : FX Q S S1 :=
  ⟨fun f j i q => h.1 f j i (fun p => q (s f j p)), fun f j i q => h.2.1 f j i (fun p => q (s f j p)), fun f j i q => h.2.2.1 f j i (fun p => q (s f j p)), h.2.2.2⟩
theorem FX_sI {P : Nat → Nat → Prop} {S S1 : St} {f j i : Nat} {v : Int32} (h : FX P S S1) (p : P f j) : FX P S (sI S1 f j i v) :=
  FX_trans h ⟨fun f' j' i' q => by rw [gI_sI, if_neg (fun e => q (by rw [e.1, e.2.1]; exact p))], fun _ _ _ _ => rfl, fun _ _ _ _ => rfl, rfl⟩
theorem FX_sIA {P : Nat → Nat → Prop} {S S1 : St} {f j : Nat} {g : Nat → Int32} (h : FX P S S1) (p : P f j) : FX P S (sIA S1 f j g) :=
  FX_trans h ⟨fun f' j' i' q => by rw [gI_sIA, if_neg (fun e => q (by rw [e.1, e.2]; exact p))], fun _ _ _ _ => rfl, fun _ _ _ _ => rfl, rfl⟩
theorem FX_sL {P : Nat → Nat → Prop} {S S1 : St} {f j i : Nat} {v : Int64} (h : FX P S S1) (p : P f j) : FX P S (sL S1 f j i v) :=
  FX_trans h ⟨fun _ _ _ _ => rfl, fun f' j' i' q => by rw [gL_sL, if_neg (fun e => q (by rw [e.1, e.2.1]; exact p))], fun _ _ _ _ => rfl, rfl⟩
theorem FX_sLA {P : Nat → Nat → Prop} {S S1 : St} {f j : Nat} {g : Nat → Int64} (h : FX P S S1) (p : P f j) : FX P S (sLA S1 f j g) :=
  FX_trans h ⟨fun _ _ _ _ => rfl, fun f' j' i' q => by rw [gL_sLA, if_neg (fun e => q (by rw [e.1, e.2]; exact p))], fun _ _ _ _ => rfl, rfl⟩
theorem FX_sR {P : Nat → Nat → Prop} {S S1 : St} {f j i v : Nat} (h : FX P S S1) (p : P f j) : FX P S (sR S1 f j i v) :=
  FX_trans h ⟨fun _ _ _ _ => rfl, fun _ _ _ _ => rfl, fun f' j' i' q => by rw [gR_sR, if_neg (fun e => q (by rw [e.1, e.2.1]; exact p))], rfl⟩
theorem FX_gA {P : Nat → Nat → Prop} {S S1 : St} (h : FX P S S1) (x : Nat) : gA S1 x = gA S x := by
  unfold gA gD
  rw [h.2.2.2]
theorem FX_gN {P : Nat → Nat → Prop} {S S1 : St} (h : FX P S S1) (x : Nat) : gN S1 x = gN S x := by
  unfold gN
  rw [FX_gA h]
theorem FX_gT {P : Nat → Nat → Prop} {S S1 : St} (h : FX P S S1) (x : Nat) : gT S1 x = gT S x := by
  unfold gT gD
  rw [h.2.2.2]
theorem FX_AR {P : Nat → Nat → Prop} {S S1 : St} {f : Nat} {A : Int → Int} (h : FX P S S1) (p : ¬ P f 0) (hA : AR f S A) : AR f S1 A := fun k h1 h2 => (h.1 f 0 _ p).trans (hA k h1 h2)
theorem FR_FX {fs : List Nat} {S S1 : St} (h : FR fs S S1) : FX (fun f _ => f ∈ fs) S S1 :=
  ⟨fun f j i q => h.1 f j i q, fun f j i q => h.2.1 f j i q, fun f j i _ => by unfold gR; rw [h.2.2], by rw [h.2.2]⟩
/-- the remainder as the machine takes it -/
theorem jj_rem {a b : Int} (h : 0 ≤ a) (h2 : a ≤ 2147483647) (h3 : 0 < b) (h4 : b ≤ 2147483647) : jj a - jj a / jj b * jj b = jj (a % b) := by
  rw [jj_div h h2 h3 h4, jj_mul, jj_sub]
  congr 1
  have := Int.mul_ediv_add_emod a b
  rw [Int.mul_comm] at this
  omega
theorem jj_long {a : Int} (h : -2147483648 ≤ a) (h2 : a ≤ 2147483647) : (jj a).toInt64 = kk a := by
  apply Int64.toInt.inj
  rw [Int32.toInt_toInt64, jj_toInt h h2, kk_toInt (by omega) (by omega)]
theorem kk_int {a : Int} : (kk a).toInt32 = jj a := by
  unfold kk jj
  rw [Int64.toInt32_ofInt]
theorem jj_inj {a b : Int} (h : -2147483648 ≤ a) (h2 : a ≤ 2147483647) (h3 : -2147483648 ≤ b) (h4 : b ≤ 2147483647) (e : jj a = jj b) : a = b := by
  rwa [jj_eq h h2 h3 h4] at e
theorem jj_and31 {a : Int} (h : 0 ≤ a) (h2 : a < 32) : jj a &&& 31 = jj a := by
  have : ∀ n : Fin 32, jj n.val &&& 31 = jj n.val := by decide +kernel
  have q := this ⟨a.toNat, by omega⟩
  simp only [Int.toNat_of_nonneg h] at q
  exact q
/-- twelve bits in an int -/
def TB (x : Int32) (g : Int → Int) : Prop := ∃ n : Nat, n < 4096 ∧ x = jj n ∧ ∀ c : Nat, c < 12 → g c = (if n.testBit c = true then 1 else 0)
theorem tb_get {x : Int32} {g : Int → Int} (h : TB x g) {c : Int} (h1 : 0 ≤ c) (h2 : c < 12) : ((x >>> (jj c &&& 31)) &&& 1) = jj (g c) := by
  obtain ⟨n, hn, rfl, hg⟩ := h
  have e := tb_get0 hn (show c.toNat < 12 by omega)
  have q := hg c.toNat (by omega)
  simp only [Int.toNat_of_nonneg h1] at e q
  rw [q]
  exact e
theorem tb_set {x : Int32} {g : Int → Int} (h : TB x g) {c : Int} (h1 : 0 ≤ c) (h2 : c < 12) : TB (x ||| (1 <<< (jj c &&& 31))) (UP g c 1) := by
  obtain ⟨n, hn, rfl, hg⟩ := h
  have e := tb_or0 hn (show c.toNat < 12 by omega)
  simp only [Int.toNat_of_nonneg h1] at e
  have e12 : 2 ^ c.toNat < 2 ^ 12 := Nat.pow_lt_pow_right (by decide) (by omega)
  refine ⟨n ||| 2 ^ c.toNat, Nat.or_lt_two_pow (n := 12) hn e12, e, fun d hd => ?_⟩
  rw [Nat.testBit_or, Nat.testBit_two_pow, UP_at]
  by_cases q : (d : Int) = c
  · have : c.toNat = d := by omega
    simp [q, this]
  · have : ¬ c.toNat = d := by omega
    simp [q, this, hg d hd]
theorem tb_one {x y : Int32} {g h : Int → Int} (hx : TB x g) (hy : TB y h) : (x = y) ↔ ∀ c, 0 ≤ c → c < 12 → g c = h c := by
  obtain ⟨n, hn, rfl, hg⟩ := hx
  obtain ⟨m, hm, rfl, hh⟩ := hy
  constructor
  · intro e c h1 h2
    have : (n : Int) = m := jj_inj (by omega) (by omega) (by omega) (by omega) e
    have : n = m := by omega
    subst this
    have q1 := hg c.toNat (by omega)
    have q2 := hh c.toNat (by omega)
    rw [Int.toNat_of_nonneg h1] at q1 q2
    rw [q1, q2]
  · intro e
    have : n = m := by
      apply Nat.eq_of_testBit_eq
      intro i
      by_cases hi : i < 12
      · have q1 := hg i hi
        have q2 := hh i hi
        have q3 := e i (by omega) (by omega)
        rw [q1, q2] at q3
        cases a : n.testBit i <;> cases b : m.testBit i <;> simp_all
      · rw [Nat.testBit_lt_two_pow (Nat.lt_of_lt_of_le hn (Nat.pow_le_pow_right (show 2 > 0 by decide) (show 12 ≤ i by omega))), Nat.testBit_lt_two_pow (Nat.lt_of_lt_of_le hm (Nat.pow_le_pow_right (show 2 > 0 by decide) (show 12 ≤ i by omega)))]
    rw [this]
theorem tb_ext {x : Int32} {g h : Int → Int} (hx : TB x g) (e : ∀ c, 0 ≤ c → c < 12 → g c = h c) : TB x h := by
  obtain ⟨n, hn, rfl, hg⟩ := hx
  exact ⟨n, hn, rfl, fun c hc => by rw [← e c (by omega) (by omega)]; exact hg c hc⟩
theorem tb_clr {x : Int32} {g : Int → Int} (h : TB x g) {c : Int} (h1 : 0 ≤ c) (h2 : c < 12) : TB (x &&& ((1 <<< (jj c &&& 31)) ^^^ (-1))) (UP g c 0) := by
  obtain ⟨n, hn, rfl, hg⟩ := h
  have e := tb_clr0 hn (show c.toNat < 12 by omega)
  simp only [Int.toNat_of_nonneg h1] at e
  have key : ∀ k : Fin 12, ∀ d : Fin 12, (4095 ^^^ 2 ^ k.val).testBit d.val = (if d.val = k.val then false else true) := by decide +kernel
  refine ⟨n &&& (4095 ^^^ 2 ^ c.toNat), Nat.lt_of_le_of_lt Nat.and_le_left hn, e, fun d hd => ?_⟩
  have := key ⟨c.toNat, by omega⟩ ⟨d, hd⟩
  simp only at this
  rw [Nat.testBit_and, this, UP_at]
  by_cases q : (d : Int) = c
  · have q2 : d = c.toNat := by omega
    rw [if_pos q, if_pos q2]
    simp
  · have q2 : ¬ d = c.toNat := by omega
    rw [if_neg q, if_neg q2, hg d hd]
    simp
theorem tb_zero {g : Int → Int} (h : ∀ c, 0 ≤ c → c < 12 → g c = 0) : TB (jj 0) g := ⟨0, by decide, rfl, fun c hc => by rw [h c (by omega) (by omega)]; simp⟩
theorem tb_01 {x : Int32} {g : Int → Int} (h : TB x g) {c : Int} (h1 : 0 ≤ c) (h2 : c < 12) : g c = 0 ∨ g c = 1 := by
  obtain ⟨n, hn, rfl, hg⟩ := h
  have := hg c.toNat (by omega)
  rw [Int.toNat_of_nonneg h1] at this
  rw [this]
  by_cases q : n.testBit c.toNat = true
  · rw [if_pos q]; exact Or.inr rfl
  · rw [if_neg q]; exact Or.inl rfl
