/-! THE PARSER OF THE REFERENCE as lists: pile (the top first), code; a walk over tokens. -/
abbrev Ks : Type := (Nat → Int) × (Nat → Int) × (Nat → Int) × Nat × Int
abbrev Ps : Type := List Int × List (Int × Int) × Int
def rk (x : Int) : Int := if 40 ≤ x then 0 else if x = 22 then 1 else if x = 21 then 2 else if x = 20 then 3 else if 10 ≤ x then 4 else if 8 ≤ x then 6 else if 6 ≤ x then 5 else 7
def cnq (x : Int) : Int := if rk x = 7 ∨ x = 20 then 1 else 0
def stl (m : Int) : List Int → List (Int × Int) → Int → Ps
  | [], D, o => ([], D, o)
  | x :: P, D, o => if m ≤ rk x then stl m P (D ++ [(x, 0)]) (o - cnq x) else (x :: P, D, o)
def opn : List Int → Int
  | [] => -1
  | x :: P => if 40 ≤ x then x else opn P
def cmpd : List Int → Int
  | [] => 0
  | x :: P => if 4 < rk x then cmpd P else if rk x = 4 then 1 else 0
def ahd : List Int → Int
  | [] => 0
  | x :: P => if opn (x :: P) = 41 then (if 40 ≤ x then 1 else if 1 ≤ rk x ∧ rk x ≤ 3 then 1 else 0) else 0
def nmo (k : Int) : Int := if k = 9 then 0 else if k = 16 then 1 else if k = 3 then 2 else if k = 17 then 3 else if k = 18 then 4 else if k = 19 then 5 else if k = 20 then 6 else if k = 6 then 7 else -1
def opc (P : List Int) (k : Int) : Int := if k = 36 then 40 else if k = 33 then 5 else if k = 22 then 4 else if k = 23 then 2 else if k = 15 then 41 else if k = 21 then (if ahd P = 0 then -1 else 20) else -1
def cpo (k : Int) : Int := if k = 28 then 10 else if k = 26 then 11 else if k = 29 then 12 else if k = 27 then 13 else if k = 30 then 14 else if k = 31 then 15 else -1
def btw (P : List Int) (k : Int) : Int := if k = 32 then 6 else if k = 33 then 7 else if k = 34 then 8 else if k = 35 then 9 else if opn P = 41 then (if cmpd P = 0 then cpo k else if k = 25 then 21 else if k = 24 then 22 else -1) else -1
def ptk (P : List Int) (k : Int) : Int := if opn P = 40 then (if k = 37 then 0 else -1) else if opn P = 41 then (if k = 12 then (if cmpd P = 0 then -1 else 42) else -1) else if opn P = 42 then (if k = 13 then 43 else -1) else if opn P = 43 then (if k = 14 then 0 else -1) else -1
def lvl (b : Int) : Int := if rk b = 4 then 5 else rk b
def itR (K : Ks) : Nat → Ps → Int → Nat → Option (Int × Nat × List (Int × Int))
  | 0, _, _, _ => none
  | n + 1, s, wh, i =>
    if wh = 0 then
      (if K.1 i = 39 then
        (if 9999 < K.2.1 i then some (2, i, s.2.1)
        else itR K n (stl 7 s.1 (s.2.1 ++ [(0, K.2.1 i)]) s.2.2) 1 (i + 1))
      else if 0 ≤ nmo (K.1 i) then
        (if 3 < nmo (K.1 i) ∧ K.2.2.2.2 ≠ 0 then some (5, i, s.2.1)
        else itR K n (stl 7 s.1 (s.2.1 ++ [(1, nmo (K.1 i))]) s.2.2) 1 (i + 1))
      else if opc s.1 (K.1 i) < 0 then some (1, i, s.2.1)
      else if s.2.2 = 8 then some (3, i, s.2.1)
      else if s.1.length < 160 then itR K n (opc s.1 (K.1 i) :: s.1, s.2.1, s.2.2 + 1) 0 (i + 1)
      else none)
    else if 0 ≤ btw s.1 (K.1 i) then
      (if (stl (lvl (btw s.1 (K.1 i))) s.1 s.2.1 s.2.2).1.length < 160 then
        itR K n (btw s.1 (K.1 i) :: (stl (lvl (btw s.1 (K.1 i))) s.1 s.2.1 s.2.2).1, (stl (lvl (btw s.1 (K.1 i))) s.1 s.2.1 s.2.2).2) 0 (i + 1)
      else none)
    else if ptk s.1 (K.1 i) < 0 then
      (if 0 ≤ opn s.1 then some (1, i, s.2.1) else some (0, i, (stl 1 s.1 s.2.1 s.2.2).2.1))
    else if 0 < ptk s.1 (K.1 i) then
      itR K n (ptk s.1 (K.1 i) :: (stl 1 s.1 s.2.1 s.2.2).1.tail, (stl 1 s.1 s.2.1 s.2.2).2) 0 (i + 1)
    else itR K n (stl 7 (stl 1 s.1 s.2.1 s.2.2).1.tail (if opn s.1 = 43 then (stl 1 s.1 s.2.1 s.2.2).2.1 ++ [(3, 0)] else (stl 1 s.1 s.2.1 s.2.2).2.1) ((stl 1 s.1 s.2.1 s.2.2).2.2 - 1)) 1 (i + 1)
/-- goes on; ends with a fault -/
def GO (K : Ks) (s : Ps) (wh : Int) (i : Nat) (s' : Ps) (wh' : Int) (i' : Nat) : Prop := i ≤ i' ∧ ∀ n, itR K (n + (i' - i)) s wh i = itR K n s' wh' i'
def FT (K : Ks) (s : Ps) (wh : Int) (i : Nat) (f : Int) (j : Nat) : Prop := i ≤ j ∧ ∀ n, ∃ D', itR K (n + 1 + (j - i)) s wh i = some (f, j, D')
theorem GO_refl {K : Ks} {s : Ps} {wh : Int} {i : Nat} : GO K s wh i s wh i := ⟨Nat.le_refl _, fun n => by rw [Nat.sub_self]; rfl⟩
theorem GO_trans {K : Ks} {s1 s2 s3 : Ps} {w1 w2 w3 : Int} {i1 i2 i3 : Nat} (h : GO K s1 w1 i1 s2 w2 i2) (h2 : GO K s2 w2 i2 s3 w3 i3) : GO K s1 w1 i1 s3 w3 i3 := by
  refine ⟨by have := h.1; have := h2.1; omega, fun n => ?_⟩
  rw [← h2.2 n, ← h.2, show n + (i3 - i1) = n + (i3 - i2) + (i2 - i1) by have := h.1; have := h2.1; omega]
theorem GO_FT {K : Ks} {s1 s2 : Ps} {w1 w2 f : Int} {i1 i2 j : Nat} (h : GO K s1 w1 i1 s2 w2 i2) (h2 : FT K s2 w2 i2 f j) : FT K s1 w1 i1 f j := by
  refine ⟨by have := h.1; have := h2.1; omega, fun n => ?_⟩
  obtain ⟨D, e⟩ := h2.2 n
  refine ⟨D, ?_⟩
  rw [← e, ← h.2, show n + 1 + (j - i1) = n + 1 + (j - i2) + (i2 - i1) by have := h.1; have := h2.1; omega]
theorem GO_one {K : Ks} {s s' : Ps} {wh wh' : Int} {i : Nat} (h : ∀ n, itR K (n + 1) s wh i = itR K n s' wh' (i + 1)) : GO K s wh i s' wh' (i + 1) := ⟨by omega, fun n => by rw [show n + (i + 1 - i) = n + 1 by omega]; exact h n⟩
theorem FT_one {K : Ks} {s : Ps} {wh f : Int} {i : Nat} (h : ∀ n, ∃ D', itR K (n + 1) s wh i = some (f, i, D')) : FT K s wh i f i := ⟨Nat.le_refl _, fun n => by rw [Nat.sub_self]; exact h n⟩
/-! steps -/
theorem go_num {K : Ks} {P : List Int} {D : List (Int × Int)} {o : Int} {i : Nat} (h : K.1 i = 39) (h2 : K.2.1 i ≤ 9999) : GO K (P, D, o) 0 i (stl 7 P (D ++ [(0, K.2.1 i)]) o) 1 (i + 1) := GO_one (fun n => by
  rw [itR, if_pos rfl, if_pos h, if_neg (by omega)])
theorem ft_num {K : Ks} {s : Ps} {i : Nat} (h : K.1 i = 39) (h2 : ¬ K.2.1 i ≤ 9999) : FT K s 0 i 2 i := FT_one (fun n => ⟨_, by
  rw [itR, if_pos rfl, if_pos h, if_pos (by omega)]⟩)
theorem nmo_39 {k : Int} (h : 0 ≤ nmo k) : k ≠ 39 := fun e => by rw [e] at h; exact absurd h (by decide)
theorem go_name {K : Ks} {P : List Int} {D : List (Int × Int)} {o : Int} {i : Nat} (h : 0 ≤ nmo (K.1 i)) (h2 : nmo (K.1 i) ≤ 3 ∨ K.2.2.2.2 = 0) : GO K (P, D, o) 0 i (stl 7 P (D ++ [(1, nmo (K.1 i))]) o) 1 (i + 1) := GO_one (fun n => by
  rw [itR, if_pos rfl, if_neg (nmo_39 h), if_pos h, if_neg (by omega)])
theorem ft_name {K : Ks} {s : Ps} {i : Nat} (h : 3 < nmo (K.1 i)) (h2 : K.2.2.2.2 ≠ 0) : FT K s 0 i 5 i := FT_one (fun n => ⟨_, by
  rw [itR, if_pos rfl, if_neg (nmo_39 (by omega)), if_pos (by omega), if_pos ⟨h, h2⟩]⟩)
theorem go_open {K : Ks} {P : List Int} {D : List (Int × Int)} {o : Int} {i : Nat} (h : K.1 i ≠ 39) (h2 : nmo (K.1 i) < 0) (h3 : 0 ≤ opc P (K.1 i)) (h4 : o ≠ 8) (h5 : P.length < 160) : GO K (P, D, o) 0 i (opc P (K.1 i) :: P, D, o + 1) 0 (i + 1) := GO_one (fun n => by
  rw [itR, if_pos rfl, if_neg h, if_neg (by omega), if_neg (by show ¬ opc P (K.1 i) < 0; omega), if_neg h4, if_pos h5])
theorem ft_open {K : Ks} {P : List Int} {D : List (Int × Int)} {i : Nat} (h : K.1 i ≠ 39) (h2 : nmo (K.1 i) < 0) (h3 : 0 ≤ opc P (K.1 i)) : FT K (P, D, 8) 0 i 3 i := FT_one (fun n => ⟨_, by
  rw [itR, if_pos rfl, if_neg h, if_neg (by omega), if_neg (by show ¬ opc P (K.1 i) < 0; omega), if_pos rfl]⟩)
theorem ft_one {K : Ks} {P : List Int} {D : List (Int × Int)} {o : Int} {i : Nat} (h : K.1 i ≠ 39) (h2 : nmo (K.1 i) < 0) (h3 : opc P (K.1 i) < 0) : FT K (P, D, o) 0 i 1 i := FT_one (fun n => ⟨_, by
  rw [itR, if_pos rfl, if_neg h, if_neg (by omega), if_pos h3]⟩)
theorem go_btw {K : Ks} {P P' : List Int} {D D' : List (Int × Int)} {o o' b : Int} {i : Nat} (h : btw P (K.1 i) = b) (hb : 0 ≤ b) (h2 : stl (lvl b) P D o = (P', D', o')) (h3 : P'.length < 160) : GO K (P, D, o) 1 i (b :: P', D', o') 0 (i + 1) := GO_one (fun n => by
  rw [itR, if_neg (by decide)]
  simp only [h]
  rw [if_pos hb, h2, if_pos h3])
theorem go_part {K : Ks} {P P' : List Int} {D D' : List (Int × Int)} {o o' x b : Int} {i : Nat} (h : btw P (K.1 i) < 0) (hb : ptk P (K.1 i) = b) (hb2 : 0 < b) (h2 : stl 1 P D o = (x :: P', D', o')) : GO K (P, D, o) 1 i (b :: P', D', o') 0 (i + 1) := GO_one (fun n => by
  rw [itR, if_neg (by decide)]
  simp only [hb]
  rw [if_neg (by omega), if_neg (by omega), if_pos hb2, h2]
  rfl)
theorem go_shut {K : Ks} {P P' : List Int} {D D' : List (Int × Int)} {o o' x : Int} {i : Nat} (h : btw P (K.1 i) < 0) (hb : ptk P (K.1 i) = 0) (h2 : stl 1 P D o = (x :: P', D', o')) : GO K (P, D, o) 1 i (stl 7 P' (if opn P = 43 then D' ++ [(3, 0)] else D') (o' - 1)) 1 (i + 1) := GO_one (fun n => by
  rw [itR, if_neg (by decide)]
  simp only [hb]
  rw [if_neg (by omega), if_neg (by decide), if_neg (by decide), h2]
  rfl)
theorem ft_behind {K : Ks} {P : List Int} {D : List (Int × Int)} {o : Int} {i : Nat} (h : btw P (K.1 i) < 0) (hb : ptk P (K.1 i) < 0) (h2 : 0 ≤ opn P) : FT K (P, D, o) 1 i 1 i := FT_one (fun n => ⟨_, by
  rw [itR, if_neg (by decide), if_neg (by show ¬ 0 ≤ btw P (K.1 i); omega), if_pos hb, if_pos h2]⟩)
/-! what settling does to what waits -/
theorem stl_stop {m x o : Int} {P : List Int} {D : List (Int × Int)} (h : rk x < m) : stl m (x :: P) D o = (x :: P, D, o) := by
  rw [stl, if_neg (by omega)]
theorem stl_pop {m x o : Int} {P : List Int} {D : List (Int × Int)} (h : m ≤ rk x) : stl m (x :: P) D o = stl m P (D ++ [(x, 0)]) (o - cnq x) := by
  rw [stl, if_pos h]
def nots : List Int → Int
  | [] => 0
  | x :: Q => cnq x + nots Q
def zs (Q : List Int) : List (Int × Int) := Q.map (fun x => (x, 0))
theorem stl_app {m : Int} {P : List Int} : ∀ (Q : List Int) (D : List (Int × Int)) (o : Int), (∀ x ∈ Q, m ≤ rk x) → stl m (Q ++ P) D (o + nots Q) = stl m P (D ++ zs Q) o := by
  intro Q
  induction Q with
  | nil => intro D o _; show stl m P D (o + 0) = stl m P (D ++ []) o; rw [List.append_nil, Int.add_zero]
  | cons x Q ih =>
    intro D o h
    show stl m (x :: (Q ++ P)) D (o + (cnq x + nots Q)) = stl m P (D ++ ((x, 0) :: zs Q)) o
    rw [stl_pop (h x (List.mem_cons_self ..)), show o + (cnq x + nots Q) - cnq x = o + nots Q by omega, ih _ _ (fun y hy => h y (List.mem_cons_of_mem _ hy)), List.append_assoc]
    rfl
theorem opn_app {P : List Int} : ∀ (Q : List Int), (∀ x ∈ Q, 1 ≤ rk x) → opn (Q ++ P) = opn P := by
  intro Q
  induction Q with
  | nil => intro _; rfl
  | cons x Q ih =>
    intro h
    have hx := h x (List.mem_cons_self ..)
    have : ¬ 40 ≤ x := fun q => by unfold rk at hx; rw [if_pos q] at hx; exact absurd hx (by decide)
    show (if 40 ≤ x then x else opn (Q ++ P)) = opn P
    rw [if_neg this]
    exact ih (fun y hy => h y (List.mem_cons_of_mem _ hy))
theorem cmpd_app {P : List Int} : ∀ (Q : List Int), (∀ x ∈ Q, 5 ≤ rk x) → cmpd (Q ++ P) = cmpd P := by
  intro Q
  induction Q with
  | nil => intro _; rfl
  | cons x Q ih =>
    intro h
    have hx := h x (List.mem_cons_self ..)
    show (if 4 < rk x then cmpd (Q ++ P) else if rk x = 4 then 1 else 0) = cmpd P
    rw [if_pos (by omega)]
    exact ih (fun y hy => h y (List.mem_cons_of_mem _ hy))
/-- signs between two that wait: of sums, of products -/
def bin (a : Int) (Q : List Int) : Prop := ∀ x ∈ Q, a ≤ x ∧ x ≤ 9
theorem rk_bin {x : Int} (h : 6 ≤ x) (h2 : x ≤ 9) : rk x = if 8 ≤ x then 6 else 5 := by
  unfold rk
  rw [if_neg (by omega), if_neg (by omega), if_neg (by omega), if_neg (by omega), if_neg (by omega)]
  by_cases q : 8 ≤ x
  · rw [if_pos q, if_pos q]
  · rw [if_neg q, if_neg q, if_pos (by omega)]
theorem bin_rk {a : Int} {Q : List Int} (h : bin a Q) (ha : 6 ≤ a) : ∀ x ∈ Q, (if a ≤ 7 then 5 else 6) ≤ rk x := by
  intro x hx
  have := h x hx
  rw [rk_bin (by omega) (by omega)]
  split <;> split <;> omega
theorem bin_nots {a : Int} (ha : 6 ≤ a) : ∀ {Q : List Int}, bin a Q → nots Q = 0 := by
  intro Q
  induction Q with
  | nil => intro _; rfl
  | cons x Q ih =>
    intro h
    have hx := h x (List.mem_cons_self ..)
    have hr : rk x ≠ 7 := by
      rw [rk_bin (by omega) (by omega)]
      split <;> decide
    show cnq x + nots Q = 0
    rw [ih (fun y hy => h y (List.mem_cons_of_mem _ hy)), show cnq x = 0 from if_neg (by omega)]
    rfl
theorem bin_mono {a b : Int} {Q : List Int} (h : bin a Q) (hb : b ≤ a) : bin b Q := fun x hx => ⟨by have := (h x hx).1; omega, (h x hx).2⟩
/-- what the top of a pile may be -/
def CR (P : List Int) (m : Int) : Prop := ∀ x P', P = x :: P' → rk x ≤ m
theorem stl_CR {P : List Int} {m r o : Int} {D : List (Int × Int)} (h : CR P m) (hr : m < r) : stl r P D o = (P, D, o) := by
  cases P with
  | nil => rfl
  | cons x P => exact stl_stop (by have := h x P rfl; omega)
theorem stl_bin {a m o : Int} {P Q : List Int} {D : List (Int × Int)} (h : bin a Q) (ha : 6 ≤ a) (hm : m ≤ (if a ≤ 7 then 5 else 6)) : stl m (Q ++ P) D o = stl m P (D ++ zs Q) o := by
  have := stl_app (m := m) (P := P) Q D o (fun x hx => by have := bin_rk h ha x hx; omega)
  rw [bin_nots ha h, Int.add_zero] at this
  exact this
theorem opn_bin {a : Int} {P Q : List Int} (h : bin a Q) (ha : 6 ≤ a) : opn (Q ++ P) = opn P := opn_app Q (fun x hx => by have := bin_rk h ha x hx; split at this <;> omega)
theorem cmpd_bin {a : Int} {P Q : List Int} (h : bin a Q) (ha : 6 ≤ a) : cmpd (Q ++ P) = cmpd P := cmpd_app Q (fun x hx => by have := bin_rk h ha x hx; split at this <;> omega)
