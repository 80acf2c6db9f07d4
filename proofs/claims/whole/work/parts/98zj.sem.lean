/-! WHAT CODE SAYS: the reference's, a list. -/
def clI (x : Int) : Int := if x < -1000000 then -1000000 else if 1000000 < x then 1000000 else x
def uop (o : Int) (cs : Int → Int) (v : Int) : Int := if o = 5 then -v else if o = 4 then (if 1000000 < v * v then 1000000 else v * v) else if 0 ≤ v ∧ v < 12 then cs v else 0
def bop (o a b : Int) : Int := if o = 6 then clI (a + b) else if o = 7 then clI (a - b) else if o = 8 then clI (a * b) else if b = 0 then 0 else clI (kk a / kk b).toInt
def cop (o a b : Int) : Int := if o = 10 then (if a < b then 1 else 0) else if o = 11 then (if a ≤ b then 1 else 0) else if o = 12 then (if b < a then 1 else 0) else if o = 13 then (if b ≤ a then 1 else 0) else if o = 14 then (if a = b then 1 else 0) else (if a = b then 0 else 1)
def jop (o a b : Int) : Int := if o = 21 then (if a = 0 then 0 else if b = 0 then 0 else 1) else (if a = 0 then (if b = 0 then 0 else 1) else 1)
def sel (t a b : Int) : Int := if t = 0 then b else a
def nop (t : Int) : Int := if t = 0 then 1 else 0
def stpS (nv cs : Int → Int) (c : Int × Int) (vs ts : List Int) : Option (List Int × List Int) :=
  if c.1 = 0 then some (c.2 :: vs, ts)
  else if c.1 = 1 then some (nv c.2 :: vs, ts)
  else if c.1 = 3 then (match vs, ts with
    | b :: a :: vs', t :: ts' => some (sel t a b :: vs', ts')
    | _, _ => none)
  else if c.1 ≤ 5 then (match vs with
    | a :: vs' => some (uop c.1 cs a :: vs', ts)
    | _ => none)
  else if c.1 < 10 then (match vs with
    | b :: a :: vs' => some (bop c.1 a b :: vs', ts)
    | _ => none)
  else if c.1 < 20 then (match vs with
    | b :: a :: vs' => some (vs', cop c.1 a b :: ts)
    | _ => none)
  else if c.1 = 20 then (match ts with
    | t :: ts' => some (vs, nop t :: ts')
    | _ => none)
  else (match ts with
    | u :: t :: ts' => some (vs, jop c.1 t u :: ts')
    | _ => none)
def runS (nv cs : Int → Int) : List (Int × Int) → List Int → List Int → Option (List Int × List Int)
  | [], vs, ts => some (vs, ts)
  | c :: C, vs, ts => bnd (stpS nv cs c vs ts) fun q => runS nv cs C q.1 q.2
theorem runS_app {nv cs : Int → Int} {C2 : List (Int × Int)} : ∀ (C1 : List (Int × Int)) (vs ts : List Int), runS nv cs (C1 ++ C2) vs ts = bnd (runS nv cs C1 vs ts) fun q => runS nv cs C2 q.1 q.2 := by
  intro C1
  induction C1 with
  | nil => intro vs ts; rfl
  | cons c C ih =>
    intro vs ts
    show bnd (stpS nv cs c vs ts) (fun q => runS nv cs (C ++ C2) q.1 q.2) = bnd (bnd (stpS nv cs c vs ts) fun q => runS nv cs C q.1 q.2) fun q => runS nv cs C2 q.1 q.2
    cases stpS nv cs c vs ts with
    | none => rfl
    | some q => exact ih q.1 q.2
abbrev Sm : Type := (Int → Int) → (Int → Int) → Int
/-- a piece of code that leaves one value; one truth -/
def SM (D : List (Int × Int)) (E : Sm) : Prop := ∀ (nv cs : Int → Int) (vs ts : List Int), runS nv cs D vs ts = some (E nv cs :: vs, ts)
def SB (D : List (Int × Int)) (E : Sm) : Prop := ∀ (nv cs : Int → Int) (vs ts : List Int), runS nv cs D vs ts = some (vs, E nv cs :: ts)
theorem runS_one {nv cs : Int → Int} {c : Int × Int} {vs ts : List Int} {r : List Int × List Int} (h : stpS nv cs c vs ts = some r) : runS nv cs [c] vs ts = some r := by
  show bnd (stpS nv cs c vs ts) (fun q => some (q.1, q.2)) = some r
  rw [bnd_of h]
theorem SM_num (v : Int) : SM [(0, v)] (fun _ _ => v) := fun nv cs vs ts => runS_one (by unfold stpS; rw [if_pos rfl])
theorem SM_name (k : Int) : SM [(1, k)] (fun nv _ => nv k) := fun nv cs vs ts => runS_one (by unfold stpS; rw [if_neg (show ¬ (1 : Int) = 0 by decide), if_pos rfl])
theorem SM_un {D : List (Int × Int)} {E : Sm} (h : SM D E) {o : Int} (ho : o = 2 ∨ o = 4 ∨ o = 5) : SM (D ++ [(o, 0)]) (fun nv cs => uop o cs (E nv cs)) := fun nv cs vs ts => by
  rw [runS_app, h nv cs vs ts]
  refine runS_one ?_
  unfold stpS
  rw [if_neg (by show ¬ o = 0; omega), if_neg (by show ¬ o = 1; omega), if_neg (by show ¬ o = 3; omega), if_pos (by show o ≤ 5; omega)]
theorem SM_bin {D1 D2 : List (Int × Int)} {E1 E2 : Sm} (h : SM D1 E1) (h2 : SM D2 E2) {o : Int} (o0 : 6 ≤ o) (o1 : o ≤ 9) : SM (D1 ++ D2 ++ [(o, 0)]) (fun nv cs => bop o (E1 nv cs) (E2 nv cs)) := fun nv cs vs ts => by
  rw [runS_app, runS_app, h nv cs vs ts]
  show bnd (runS nv cs D2 (E1 nv cs :: vs) ts) (fun q => runS nv cs [(o, 0)] q.1 q.2) = _
  rw [h2 nv cs _ ts]
  refine runS_one ?_
  unfold stpS
  rw [if_neg (by show ¬ o = 0; omega), if_neg (by show ¬ o = 1; omega), if_neg (by show ¬ o = 3; omega), if_neg (by show ¬ o ≤ 5; omega), if_pos (by show o < 10; omega)]
theorem SB_cmp {D1 D2 : List (Int × Int)} {E1 E2 : Sm} (h : SM D1 E1) (h2 : SM D2 E2) {o : Int} (o0 : 10 ≤ o) (o1 : o ≤ 15) : SB (D1 ++ D2 ++ [(o, 0)]) (fun nv cs => cop o (E1 nv cs) (E2 nv cs)) := fun nv cs vs ts => by
  rw [runS_app, runS_app, h nv cs vs ts]
  show bnd (runS nv cs D2 (E1 nv cs :: vs) ts) (fun q => runS nv cs [(o, 0)] q.1 q.2) = _
  rw [h2 nv cs _ ts]
  refine runS_one ?_
  unfold stpS
  rw [if_neg (by show ¬ o = 0; omega), if_neg (by show ¬ o = 1; omega), if_neg (by show ¬ o = 3; omega), if_neg (by show ¬ o ≤ 5; omega), if_neg (by show ¬ o < 10; omega), if_pos (by show o < 20; omega)]
theorem SB_not {D : List (Int × Int)} {E : Sm} (h : SB D E) : SB (D ++ [(20, 0)]) (fun nv cs => nop (E nv cs)) := fun nv cs vs ts => by
  rw [runS_app, h nv cs vs ts]
  show runS nv cs [(20, 0)] vs (E nv cs :: ts) = _
  refine runS_one ?_
  unfold stpS
  rw [if_neg (by decide), if_neg (by decide), if_neg (by decide), if_neg (by decide), if_neg (by decide), if_neg (by decide), if_pos rfl]
theorem SB_two {D1 D2 : List (Int × Int)} {E1 E2 : Sm} (h : SB D1 E1) (h2 : SB D2 E2) {o : Int} (o0 : 21 ≤ o) : SB (D1 ++ D2 ++ [(o, 0)]) (fun nv cs => jop o (E1 nv cs) (E2 nv cs)) := fun nv cs vs ts => by
  rw [runS_app, runS_app, h nv cs vs ts]
  show bnd (runS nv cs D2 vs (E1 nv cs :: ts)) (fun q => runS nv cs [(o, 0)] q.1 q.2) = _
  rw [h2 nv cs vs _]
  refine runS_one ?_
  unfold stpS
  rw [if_neg (by show ¬ o = 0; omega), if_neg (by show ¬ o = 1; omega), if_neg (by show ¬ o = 3; omega), if_neg (by show ¬ o ≤ 5; omega), if_neg (by show ¬ o < 10; omega), if_neg (by show ¬ o < 20; omega), if_neg (by show ¬ o = 20; omega)]
theorem SM_if {D0 D1 D2 : List (Int × Int)} {E0 E1 E2 : Sm} (h0 : SB D0 E0) (h : SM D1 E1) (h2 : SM D2 E2) : SM (D0 ++ D1 ++ D2 ++ [(3, 0)]) (fun nv cs => sel (E0 nv cs) (E1 nv cs) (E2 nv cs)) := fun nv cs vs ts => by
  rw [runS_app, runS_app, runS_app, h0 nv cs vs ts]
  show bnd (bnd (runS nv cs D1 vs (E0 nv cs :: ts)) fun q => runS nv cs D2 q.1 q.2) (fun q => runS nv cs [(3, 0)] q.1 q.2) = _
  rw [h nv cs vs _]
  show bnd (runS nv cs D2 (E1 nv cs :: vs) (E0 nv cs :: ts)) (fun q => runS nv cs [(3, 0)] q.1 q.2) = _
  rw [h2 nv cs _ _]
  show runS nv cs [(3, 0)] (E2 nv cs :: E1 nv cs :: vs) (E0 nv cs :: ts) = _
  refine runS_one ?_
  unfold stpS
  rw [if_neg (by decide), if_neg (by decide), if_pos rfl]
/-- bounds of what it says -/
def BV (m : Int) (E : Sm) : Prop := ∀ nv cs, ENVB m nv cs → -100000000 ≤ E nv cs ∧ E nv cs ≤ 100000000
def BT (m : Int) (E : Sm) : Prop := ∀ nv cs, ENVB m nv cs → E nv cs = 0 ∨ E nv cs = 1
theorem clI_b (x : Int) : -1000000 ≤ clI x ∧ clI x ≤ 1000000 := by
  unfold clI
  repeat' split
  all_goals omega
theorem bop_b (o a b : Int) : -1000000 ≤ bop o a b ∧ bop o a b ≤ 1000000 := by
  unfold bop
  repeat' split
  all_goals first | exact clI_b _ | decide
theorem cop_b (o a b : Int) : cop o a b = 0 ∨ cop o a b = 1 := by
  unfold cop
  repeat' split
  all_goals first | exact Or.inl rfl | exact Or.inr rfl
theorem jop_b (o a b : Int) : jop o a b = 0 ∨ jop o a b = 1 := by
  unfold jop
  repeat' split
  all_goals first | exact Or.inl rfl | exact Or.inr rfl
theorem nop_b (a : Int) : nop a = 0 ∨ nop a = 1 := by
  unfold nop
  repeat' split
  all_goals first | exact Or.inl rfl | exact Or.inr rfl
theorem uop_b {o : Int} {cs : Int → Int} {v : Int} (h : -100000000 ≤ v) (h2 : v ≤ 100000000) (hc : ∀ i : Int, 0 ≤ i → i < 12 → 0 ≤ cs i ∧ cs i ≤ 100000000) : -100000000 ≤ uop o cs v ∧ uop o cs v ≤ 100000000 := by
  have sq : 0 ≤ v * v := by
    rcases Int.le_total 0 v with q | q
    · exact Int.mul_nonneg q q
    · exact Int.mul_nonneg_of_nonpos_of_nonpos q q
  unfold uop
  repeat' split
  all_goals first | omega | (rename_i q; have := hc v q.1 q.2; omega)
