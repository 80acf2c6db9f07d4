/-! Words, numbers and bytes of the tape, as Nat. -/
theorem iin_eq {a : Nat} (h : a < 2147483648) : (ii a = -ii 1) = False := by
  refine eq_false fun e => ?_
  have := congrArg Int32.toInt e
  rw [ii_toInt h, show (-ii 1 : Int32).toInt = -1 from rfl] at this
  omega
theorem iin_lt {a : Nat} (h : a < 2147483648) : (ii a < -ii 1) = False := by
  refine eq_false fun e => ?_
  rw [Int32.lt_iff_toInt_lt, ii_toInt h, show (-ii 1 : Int32).toInt = -1 from rfl] at e
  omega
theorem iin_le {a : Nat} (h : a < 2147483648) : (ii a ≤ -ii 1) = False := by
  refine eq_false fun e => ?_
  rw [Int32.le_iff_toInt_le, ii_toInt h, show (-ii 1 : Int32).toInt = -1 from rfl] at e
  omega
theorem iin_lt2 {a : Nat} (h : a < 2147483648) : (-ii 1 < ii a) = True := by
  refine eq_true ?_
  rw [Int32.lt_iff_toInt_lt, ii_toInt h, show (-ii 1 : Int32).toInt = -1 from rfl]
  omega
theorem iin_le2 {a : Nat} (h : a < 2147483648) : (-ii 1 ≤ ii a) = True := by
  refine eq_true ?_
  rw [Int32.le_iff_toInt_le, ii_toInt h, show (-ii 1 : Int32).toInt = -1 from rfl]
  omega
theorem ii_mul (a b : Nat) : ii a * ii b = ii (a * b) := (Int32.ofNat_mul a b).symm
theorem ii_pred {a : Nat} (h : 1 ≤ a) : ii a + -ii 1 = ii (a - 1) := by
  rw [← ii_sub h, Int32.sub_eq_add_neg]
theorem if_T {α : Type} {x y : α} : (if True then x else y) = x := if_pos trivial
theorem if_F {α : Type} {x y : α} : (if False then x else y) = y := if_neg id
def ll (v : Nat) : Int64 := Int64.ofNat v
theorem ll_of (n : Nat) : (no_index (OfNat.ofNat n) : Int64) = ll n := rfl
theorem ll_toInt {a : Nat} (h : a < 9223372036854775808) : (ll a).toInt = a := Int64.toInt_ofNat_of_lt h
theorem ll_inj {a b : Nat} (h : a < 9223372036854775808) (h2 : b < 9223372036854775808) (e : ll a = ll b) : a = b := by
  have := congrArg Int64.toInt e
  rw [ll_toInt h, ll_toInt h2] at this
  omega
theorem cmp_zero {x y : Int64} : (lg_cmp x y = (0 : Int32)) = (x = y) := by
  unfold lg_cmp
  by_cases h : x > y
  · rw [if_pos h]
    have : ¬ x = y := fun e => by
      rw [e] at h
      exact absurd h (by show ¬ y < y; rw [Int64.lt_iff_toInt_lt]; omega)
    exact propext ⟨fun e => absurd e (by decide), fun e => absurd e this⟩
  · rw [if_neg h]
    by_cases h2 : x = y
    · rw [if_pos h2]; exact propext ⟨fun _ => h2, fun _ => rfl⟩
    · rw [if_neg h2]; exact propext ⟨fun e => absurd e (by decide), fun e => absurd e h2⟩
theorem ll_or (a b : Nat) : ll a ||| ll b = ll (a ||| b) := by
  apply Int64.toBitVec_inj.mp
  show BitVec.ofNat 64 a ||| BitVec.ofNat 64 b = BitVec.ofNat 64 (a ||| b)
  rw [BitVec.ofNat_or]
theorem ll_shl8 {a : Nat} : ll a <<< ((8 : Int32).toInt64 &&& 63) = ll (a * 256) := by
  apply Int64.toBitVec_inj.mp
  rw [Int64.toBitVec_shiftLeft, show (((8 : Int32).toInt64 &&& 63).toBitVec.smod 64) = BitVec.ofNat 64 8 from by decide]
  show BitVec.ofNat 64 a <<< 8 = BitVec.ofNat 64 (a * 256)
  apply BitVec.eq_of_toNat_eq
  rw [BitVec.toNat_shiftLeft, BitVec.toNat_ofNat, BitVec.toNat_ofNat, Nat.shiftLeft_eq]
  omega
theorem ll_cat {a x : Nat} (hx : x < 256) : (ll a <<< ((8 : Int32).toInt64 &&& 63)) ||| ll x = ll (a * 256 + x) := by
  rw [ll_shl8, ll_or]
  congr 1
  have := Nat.shiftLeft_add_eq_or_of_lt (show x < 2 ^ 8 from hx) a
  rw [Nat.shiftLeft_eq] at this
  exact this.symm
theorem ii_long {a : Nat} (h : a < 2147483648) : (ii a).toInt64 = ll a := by
  apply Int64.toInt_inj.mp
  rw [Int32.toInt_toInt64, ii_toInt h, ll_toInt (by omega)]
theorem ll_shr48 {a : Nat} (h : a < 9223372036854775808) : ll a >>> ((48 : Int32).toInt64 &&& 63) = ll (a / 281474976710656) := by
  apply Int64.toInt_inj.mp
  rw [ll_toInt (by omega)]
  show ((ll a).toBitVec.sshiftRight' ((((48 : Int32).toInt64 &&& 63).toBitVec.smod 64))).toInt = _
  rw [show (((48 : Int32).toInt64 &&& 63).toBitVec.smod 64) = BitVec.ofNat 64 48 from by decide]
  show ((ll a).toBitVec.sshiftRight (BitVec.ofNat 64 48).toNat).toInt = _
  rw [BitVec.toInt_sshiftRight]
  show (ll a).toInt >>> (BitVec.ofNat 64 48).toNat = _
  rw [ll_toInt h, show (BitVec.ofNat 64 48).toNat = 48 from by decide, Int.shiftRight_eq_div_pow]
  omega
def blk (x : Nat) : Prop := x = 32 ∨ x = 10
def isL (x : Nat) : Prop := (97 ≤ x ∧ x ≤ 122) ∨ (65 ≤ x ∧ x ≤ 90)
def isD (x : Nat) : Prop := 48 ≤ x ∧ x ≤ 57
theorem q_letC {S : St} {x : Nat} (h : x < 256) : (isL x → f_X5_isLetter S (ii x) = some (ii 1)) ∧ (¬ isL x → f_X5_isLetter S (ii x) = some (ii 0)) := by
  unfold isL f_X5_isLetter f_X5_isLetter_b12
  simp (disch := omega) only [ii_of, ii_lt, ii_le]
  constructor
  · intro q; repeat' split
    all_goals first | rfl | omega
  · intro q; repeat' split
    all_goals first | rfl | omega
theorem q_letR {S : St} {x : Nat} (h : x < 256) : (isL x → f_X10_isLetterByte S (ii x) = some (ii 1)) ∧ (¬ isL x → f_X10_isLetterByte S (ii x) = some (ii 0)) := by
  unfold isL f_X10_isLetterByte f_X10_isLetterByte_b12
  simp (disch := omega) only [ii_of, ii_lt, ii_le]
  constructor
  · intro q; repeat' split
    all_goals first | rfl | omega
  · intro q; repeat' split
    all_goals first | rfl | omega
theorem q_digC {S : St} {x : Nat} (h : x < 256) : (isD x → f_X5_isDigit S (ii x) = some (ii 1)) ∧ (¬ isD x → f_X5_isDigit S (ii x) = some (ii 0)) := by
  unfold isD f_X5_isDigit
  simp (disch := omega) only [ii_of, ii_lt, ii_le]
  constructor
  · intro q; repeat' split
    all_goals first | rfl | omega
  · intro q; repeat' split
    all_goals first | rfl | omega
theorem q_digR {S : St} {x : Nat} (h : x < 256) : (isD x → f_X10_isFigure S (ii x) = some (ii 1)) ∧ (¬ isD x → f_X10_isFigure S (ii x) = some (ii 0)) := by
  unfold isD f_X10_isFigure
  simp (disch := omega) only [ii_of, ii_lt, ii_le]
  constructor
  · intro q; repeat' split
    all_goals first | rfl | omega
  · intro q; repeat' split
    all_goals first | rfl | omega
/-- the bytes from p to e -/
def seg (b : Nat → Nat) (p : Nat) : Nat → List Nat
  | 0 => []
  | n + 1 => b p :: seg b (p + 1) n
theorem seg_snoc (b : Nat → Nat) : ∀ (n p : Nat), seg b p (n + 1) = seg b p n ++ [b (p + n)] := by
  intro n
  induction n with
  | zero => intro p; rfl
  | succ n ih =>
    intro p
    show b p :: seg b (p + 1) (n + 1) = b p :: (seg b (p + 1) n ++ [b (p + (n + 1))])
    rw [ih, show p + 1 + n = p + (n + 1) by omega]
theorem seg_len (b : Nat → Nat) : ∀ (n p : Nat), (seg b p n).length = n := by
  intro n
  induction n with
  | zero => intro p; rfl
  | succ n ih => intro p; show (seg b (p + 1) n).length + 1 = n + 1; rw [ih]
theorem seg_mem (b : Nat → Nat) {P : Nat → Prop} : ∀ (n p : Nat), (∀ i, p ≤ i → i < p + n → P (b i)) → ∀ x ∈ seg b p n, P x := by
  intro n
  induction n with
  | zero => intro p h x hx; cases hx
  | succ n ih =>
    intro p h x hx
    rcases List.mem_cons.mp hx with e | e
    · rw [e]; exact h p (by omega) (by omega)
    · exact ih (p + 1) (fun i q q2 => h i (by omega) (by omega)) x e
/-- the words, and which one it is -/
def wLs : List (List Nat) := [[109, 111, 118, 101, 115], [116, 101, 97, 114, 115], [104, 97, 110, 100], [100, 111, 117, 103, 104], [116, 111, 119, 110], [108, 101, 102, 116], [114, 105, 103, 104, 116], [116, 114, 105, 109], [112, 97, 116, 99, 104], [116, 117, 114, 110], [97, 116], [98, 121], [116, 104, 101, 110], [101, 108, 115, 101], [101, 110, 100], [105, 102], [99, 101, 108, 108], [116, 111, 114, 110], [115, 116, 114, 101, 110, 103, 116, 104], [119, 104, 111], [110, 101, 120, 116], [110, 111, 116], [115, 113, 117, 97, 114, 101], [115, 104, 101, 101, 116], [111, 114], [97, 110, 100]]
def wkF : List (List Nat) → List Nat → Nat → Nat
  | [], _, _ => 41
  | x :: xs, l, w => if l = x then w else wkF xs l (w + 1)
def wkind (l : List Nat) : Nat := wkF wLs l 0
def wcat : List (List Nat) → List Nat
  | [] => []
  | x :: xs => x ++ 32 :: wcat xs
/-- the class's walk over the text of words; r: what is left of the word while it goes along -/
def wst (c : Nat) : Option (List Nat) → Option (List Nat)
  | none => none
  | some [] => none
  | some (x :: xs) => if x = c then some xs else none
def wlk : List Nat → List Nat → Nat → Option (List Nat) → Nat
  | [], _, _, _ => 41
  | c :: cs, l, w, r => if c = 32 then (if r = some [] then w else wlk cs l (w + 1) (some l)) else wlk cs l w (wst c r)
theorem wlk_none {rest l : List Nat} {w : Nat} : ∀ (wd : List Nat), (∀ x ∈ wd, x ≠ 32) → wlk (wd ++ 32 :: rest) l w none = wlk rest l (w + 1) (some l) := by
  intro wd
  induction wd with
  | nil => intro _; simp [wlk]
  | cons c cs ih =>
    intro h
    show wlk (c :: (cs ++ 32 :: rest)) l w none = _
    rw [wlk, if_neg (h c (List.mem_cons_self ..))]
    exact ih (fun x hx => h x (List.mem_cons_of_mem _ hx))
theorem wlk_word {rest l : List Nat} {w : Nat} : ∀ (wd r : List Nat), (∀ x ∈ wd, x ≠ 32) → wlk (wd ++ 32 :: rest) l w (some r) = if r = wd then w else wlk rest l (w + 1) (some l) := by
  intro wd
  induction wd with
  | nil =>
    intro r _
    show wlk (32 :: rest) l w (some r) = _
    rw [wlk, if_pos rfl]
    by_cases h : r = []
    · rw [if_pos (by rw [h]), if_pos h]
    · rw [if_neg (by simpa using h), if_neg h]
  | cons c cs ih =>
    intro r h
    show wlk (c :: (cs ++ 32 :: rest)) l w (some r) = _
    rw [wlk, if_neg (h c (List.mem_cons_self ..))]
    have h2 : ∀ x ∈ cs, x ≠ 32 := fun x hx => h x (List.mem_cons_of_mem _ hx)
    cases r with
    | nil =>
      show wlk (cs ++ 32 :: rest) l w none = _
      rw [wlk_none cs h2, if_neg (by simp)]
    | cons x xs =>
      show wlk (cs ++ 32 :: rest) l w (if x = c then some xs else none) = _
      by_cases q : x = c
      · rw [if_pos q, ih xs h2, q]
        by_cases q2 : xs = cs
        · rw [if_pos q2, if_pos (by rw [q2])]
        · rw [if_neg q2, if_neg (by simpa using q2)]
      · rw [if_neg q, wlk_none cs h2, if_neg (by simp [q])]
theorem wlk_all {l : List Nat} : ∀ (ws : List (List Nat)) (w : Nat), (∀ wd ∈ ws, ∀ x ∈ wd, x ≠ 32) → wlk (wcat ws) l w (some l) = wkF ws l w := by
  intro ws
  induction ws with
  | nil => intro w _; rfl
  | cons x xs ih =>
    intro w h
    show wlk (x ++ 32 :: wcat xs) l w (some l) = if l = x then w else wkF xs l (w + 1)
    rw [wlk_word x l (h x (List.mem_cons_self ..)), ih (w + 1) (fun wd hw => h wd (List.mem_cons_of_mem _ hw))]
theorem wkF_lt {l : List Nat} : ∀ (ws : List (List Nat)) (w : Nat), (wkF ws l w = 41) ∨ (w ≤ wkF ws l w ∧ wkF ws l w < w + ws.length ∧ ws[wkF ws l w - w]? = some l) := by
  intro ws
  induction ws with
  | nil => intro w; exact Or.inl rfl
  | cons x xs ih =>
    intro w
    unfold wkF
    by_cases h : l = x
    · rw [if_pos h]; right; simp [h]
    · rw [if_neg h]
      rcases ih (w + 1) with q | ⟨q1, q2, q3⟩
      · exact Or.inl q
      · right
        refine ⟨by omega, by simp; omega, ?_⟩
        rw [show wkF xs l (w + 1) - w = (wkF xs l (w + 1) - (w + 1)) + 1 by omega]
        simpa using q3
theorem wkind_lt (l : List Nat) : (wkind l = 41) ∨ (wkind l < 26 ∧ wLs[wkind l]? = some l) := by
  rcases wkF_lt (l := l) wLs 0 with h | ⟨_, h2, h3⟩
  · exact Or.inl h
  · exact Or.inr ⟨h2, h3⟩
theorem wkind_at : ∀ k, k < 26 → wkind (wLs.getD k []) = k := by decide +kernel
theorem wkind_iff {l : List Nat} {k : Nat} (hk : k < 26) : (wkind l = k) ↔ l = wLs.getD k [] := by
  constructor
  · intro h
    rcases wkind_lt l with q | ⟨_, q⟩
    · omega
    · rw [h] at q
      rw [List.getD_eq_getElem?_getD, q]; rfl
  · intro h
    rw [h]; exact wkind_at k hk
/-- the reference's number of a word, latest letter first -/
def wn : List Nat → Nat
  | [] => 0
  | x :: r => if 281474976710656 ≤ wn r then 1152921504606846976 else wn r * 256 + x
theorem wn_b : ∀ r : List Nat, (∀ x ∈ r, x < 256) → wn r ≤ 1152921504606846976 := by
  intro r
  induction r with
  | nil => intro _; decide
  | cons x r ih =>
    intro h
    have h1 := ih (fun y hy => h y (List.mem_cons_of_mem _ hy))
    have h2 := h x (List.mem_cons_self ..)
    unfold wn
    split <;> omega
theorem wn_pos {x : Nat} {r : List Nat} (h : 65 ≤ x) : 65 ≤ wn (x :: r) := by
  unfold wn
  split <;> omega
theorem wn_inj : ∀ (s r : List Nat), (∀ x ∈ s, 65 ≤ x ∧ x < 256) → (∀ x ∈ r, 65 ≤ x ∧ x < 256) → wn s < 281474976710656 → wn r = wn s → r = s := by
  intro s
  induction s with
  | nil =>
    intro r _ hr _ e
    cases r with
    | nil => rfl
    | cons x r =>
      have := wn_pos (r := r) (hr x (List.mem_cons_self ..)).1
      rw [e] at this
      exact absurd this (by decide)
  | cons y s ih =>
    intro r hs hr hb e
    have hy := hs y (List.mem_cons_self ..)
    cases r with
    | nil =>
      have := wn_pos (r := s) hy.1
      rw [← e] at this
      exact absurd this (by decide)
    | cons x r =>
      have hx := hr x (List.mem_cons_self ..)
      have e1 : wn (y :: s) = if 281474976710656 ≤ wn s then 1152921504606846976 else wn s * 256 + y := rfl
      have e2 : wn (x :: r) = if 281474976710656 ≤ wn r then 1152921504606846976 else wn r * 256 + x := rfl
      by_cases q : 281474976710656 ≤ wn s
      · rw [if_pos q] at e1; omega
      · rw [if_neg q] at e1
        by_cases q2 : 281474976710656 ≤ wn r
        · rw [if_pos q2] at e2; omega
        · rw [if_neg q2] at e2
          have e3 : x = y := by omega
          have e4 : wn r = wn s := by omega
          rw [e3, ih r (fun z hz => hs z (List.mem_cons_of_mem _ hz)) (fun z hz => hr z (List.mem_cons_of_mem _ hz)) (by omega) e4]
def wv (k : Nat) : Nat := wn (wLs.getD k []).reverse
theorem wv_b : ∀ k, k < 26 → k ≠ 18 → wv k < 281474976710656 := by decide +kernel
theorem wLs_b : ∀ k, k < 26 → ∀ x ∈ wLs.getD k [], 65 ≤ x ∧ x < 256 := by decide +kernel
theorem wv_iff {l : List Nat} (hl : ∀ x ∈ l, 65 ≤ x ∧ x < 256) {k : Nat} (hk : k < 26) (h18 : k ≠ 18) : (wn l.reverse = wv k) ↔ wkind l = k := by
  rw [wkind_iff hk]
  constructor
  · intro e
    have := wn_inj _ _ (fun x hx => wLs_b k hk x (List.mem_reverse.mp hx)) (fun x hx => hl x (List.mem_reverse.mp hx)) (wv_b k hk h18) e
    simpa using congrArg List.reverse this
  · intro e
    rw [e]; rfl
