/-! THE STATE: whole numbers by field, object and place; how it lies in the heap; rows that read and write it. Field ids: a hundred times the class's number in NAMES, and the field's place. -/
abbrev St : Type := (Nat → Nat → Nat → Int32) × (Nat → Nat → Nat → Int64) × (Nat → Nat → Nat → Nat) × (Nat → Option ((Nat × (Nat → Int32)) ⊕ (Nat × Nat × Nat))) × Nat
def gI (S : St) (f j i : Nat) : Int32 := S.1 f j i
def gL (S : St) (f j i : Nat) : Int64 := S.2.1 f j i
def gR (S : St) (f j i : Nat) : Nat := S.2.2.1 f j i
def gD (S : St) (n : Nat) : Option ((Nat × (Nat → Int32)) ⊕ (Nat × Nat × Nat)) := S.2.2.2.1 n
def gZ (S : St) : Nat := S.2.2.2.2
def sI (S : St) (f j i : Nat) (v : Int32) : St := (fun f' j' i' => if f' = f ∧ j' = j ∧ i' = i then v else S.1 f' j' i', S.2)
def sL (S : St) (f j i : Nat) (v : Int64) : St := (S.1, fun f' j' i' => if f' = f ∧ j' = j ∧ i' = i then v else S.2.1 f' j' i', S.2.2)
def sR (S : St) (f j i : Nat) (v : Nat) : St := (S.1, S.2.1, fun f' j' i' => if f' = f ∧ j' = j ∧ i' = i then v else S.2.2.1 f' j' i', S.2.2.2)
/-- a whole array -/
def sIA (S : St) (f j : Nat) (g : Nat → Int32) : St := (fun f' j' i' => if f' = f ∧ j' = j then g i' else S.1 f' j' i', S.2)
def sLA (S : St) (f j : Nat) (g : Nat → Int64) : St := (S.1, fun f' j' i' => if f' = f ∧ j' = j then g i' else S.2.1 f' j' i', S.2.2)
/-- a new cell behind all others -/
def sD (S : St) (e : (Nat × (Nat → Int32)) ⊕ (Nat × Nat × Nat)) : St := (S.1, S.2.1, S.2.2.1, fun n => if n = S.2.2.2.2 then some e else S.2.2.2.1 n, S.2.2.2.2 + 1)
theorem gI_sI (S : St) (f j i : Nat) (v : Int32) (f' j' i' : Nat) : gI (sI S f j i v) f' j' i' = if f' = f ∧ j' = j ∧ i' = i then v else gI S f' j' i' := rfl
theorem gI_sIA (S : St) (f j : Nat) (g : Nat → Int32) (f' j' i' : Nat) : gI (sIA S f j g) f' j' i' = if f' = f ∧ j' = j then g i' else gI S f' j' i' := rfl
theorem gI_sL (S : St) (f j i : Nat) (v : Int64) (f' j' i' : Nat) : gI (sL S f j i v) f' j' i' = gI S f' j' i' := rfl
theorem gI_sLA (S : St) (f j : Nat) (g : Nat → Int64) (f' j' i' : Nat) : gI (sLA S f j g) f' j' i' = gI S f' j' i' := rfl
theorem gI_sR (S : St) (f j i : Nat) (v : Nat) (f' j' i' : Nat) : gI (sR S f j i v) f' j' i' = gI S f' j' i' := rfl
theorem gI_sD (S : St) (e : (Nat × (Nat → Int32)) ⊕ (Nat × Nat × Nat)) (f' j' i' : Nat) : gI (sD S e) f' j' i' = gI S f' j' i' := rfl
theorem gL_sL (S : St) (f j i : Nat) (v : Int64) (f' j' i' : Nat) : gL (sL S f j i v) f' j' i' = if f' = f ∧ j' = j ∧ i' = i then v else gL S f' j' i' := rfl
theorem gL_sLA (S : St) (f j : Nat) (g : Nat → Int64) (f' j' i' : Nat) : gL (sLA S f j g) f' j' i' = if f' = f ∧ j' = j then g i' else gL S f' j' i' := rfl
theorem gL_sI (S : St) (f j i : Nat) (v : Int32) (f' j' i' : Nat) : gL (sI S f j i v) f' j' i' = gL S f' j' i' := rfl
theorem gL_sIA (S : St) (f j : Nat) (g : Nat → Int32) (f' j' i' : Nat) : gL (sIA S f j g) f' j' i' = gL S f' j' i' := rfl
theorem gL_sR (S : St) (f j i : Nat) (v : Nat) (f' j' i' : Nat) : gL (sR S f j i v) f' j' i' = gL S f' j' i' := rfl
theorem gL_sD (S : St) (e : (Nat × (Nat → Int32)) ⊕ (Nat × Nat × Nat)) (f' j' i' : Nat) : gL (sD S e) f' j' i' = gL S f' j' i' := rfl
theorem gR_sR (S : St) (f j i : Nat) (v : Nat) (f' j' i' : Nat) : gR (sR S f j i v) f' j' i' = if f' = f ∧ j' = j ∧ i' = i then v else gR S f' j' i' := rfl
theorem gR_sI (S : St) (f j i : Nat) (v : Int32) (f' j' i' : Nat) : gR (sI S f j i v) f' j' i' = gR S f' j' i' := rfl
theorem gR_sIA (S : St) (f j : Nat) (g : Nat → Int32) (f' j' i' : Nat) : gR (sIA S f j g) f' j' i' = gR S f' j' i' := rfl
theorem gR_sL (S : St) (f j i : Nat) (v : Int64) (f' j' i' : Nat) : gR (sL S f j i v) f' j' i' = gR S f' j' i' := rfl
theorem gR_sLA (S : St) (f j : Nat) (g : Nat → Int64) (f' j' i' : Nat) : gR (sLA S f j g) f' j' i' = gR S f' j' i' := rfl
theorem gR_sD (S : St) (e : (Nat × (Nat → Int32)) ⊕ (Nat × Nat × Nat)) (f' j' i' : Nat) : gR (sD S e) f' j' i' = gR S f' j' i' := rfl
/-- where sheet j lies: 0 now's, 1 .. 30 its steps, 31 the image's, 32 .. 61 its steps, 62 .. 65 those for trials -/
def so (j : Nat) : Nat := if j = 0 then 2 else if j < 31 then 6 + 4 * j else if j = 31 then 131 else if j < 62 then 11 + 4 * j else 16 + 4 * j
/-- where what was made later lies: 1 the empty law, n + 2 the n-th cell made since -/
def da (G : v_G) (x : Nat) : Nat := if x = 1 then v_tN G else v_B G + (302 + x)
def lkL : List (Nat × Nat) := [(0, 0), (1, 0), (2, 0), (3, 0), (4, 0), (5, 0), (6, 0), (7, 0), (8, 0), (9, 0), (2, 1), (3, 1), (4, 1), (5, 1), (2, 2), (3, 2), (4, 2), (5, 2), (2, 3), (3, 3), (4, 3), (5, 3), (2, 4), (3, 4), (4, 4), (5, 4), (2, 5), (3, 5), (4, 5), (5, 5), (2, 6), (3, 6), (4, 6), (5, 6), (2, 7), (3, 7), (4, 7), (5, 7), (2, 8), (3, 8), (4, 8), (5, 8), (2, 9), (3, 9), (4, 9), (5, 9), (2, 10), (3, 10), (4, 10), (5, 10), (2, 11), (3, 11), (4, 11), (5, 11), (2, 12), (3, 12), (4, 12), (5, 12), (2, 13), (3, 13), (4, 13), (5, 13), (2, 14), (3, 14), (4, 14), (5, 14), (2, 15), (3, 15), (4, 15), (5, 15), (2, 16), (3, 16), (4, 16), (5, 16), (2, 17), (3, 17), (4, 17), (5, 17), (2, 18), (3, 18), (4, 18), (5, 18), (2, 19), (3, 19), (4, 19), (5, 19), (2, 20), (3, 20), (4, 20), (5, 20), (2, 21), (3, 21), (4, 21), (5, 21), (2, 22), (3, 22), (4, 22), (5, 22), (2, 23), (3, 23), (4, 23), (5, 23), (2, 24), (3, 24), (4, 24), (5, 24), (2, 25), (3, 25), (4, 25), (5, 25), (2, 26), (3, 26), (4, 26), (5, 26), (2, 27), (3, 27), (4, 27), (5, 27), (2, 28), (3, 28), (4, 28), (5, 28), (2, 29), (3, 29), (4, 29), (5, 29), (2, 30), (3, 30), (4, 30), (5, 30), (1, 1), (2, 31), (3, 31), (4, 31), (5, 31), (6, 1), (7, 1), (8, 1), (9, 1), (2, 32), (3, 32), (4, 32), (5, 32), (2, 33), (3, 33), (4, 33), (5, 33), (2, 34), (3, 34), (4, 34), (5, 34), (2, 35), (3, 35), (4, 35), (5, 35), (2, 36), (3, 36), (4, 36), (5, 36), (2, 37), (3, 37), (4, 37), (5, 37), (2, 38), (3, 38), (4, 38), (5, 38), (2, 39), (3, 39), (4, 39), (5, 39), (2, 40), (3, 40), (4, 40), (5, 40), (2, 41), (3, 41), (4, 41), (5, 41), (2, 42), (3, 42), (4, 42), (5, 42), (2, 43), (3, 43), (4, 43), (5, 43), (2, 44), (3, 44), (4, 44), (5, 44), (2, 45), (3, 45), (4, 45), (5, 45), (2, 46), (3, 46), (4, 46), (5, 46), (2, 47), (3, 47), (4, 47), (5, 47), (2, 48), (3, 48), (4, 48), (5, 48), (2, 49), (3, 49), (4, 49), (5, 49), (2, 50), (3, 50), (4, 50), (5, 50), (2, 51), (3, 51), (4, 51), (5, 51), (2, 52), (3, 52), (4, 52), (5, 52), (2, 53), (3, 53), (4, 53), (5, 53), (2, 54), (3, 54), (4, 54), (5, 54), (2, 55), (3, 55), (4, 55), (5, 55), (2, 56), (3, 56), (4, 56), (5, 56), (2, 57), (3, 57), (4, 57), (5, 57), (2, 58), (3, 58), (4, 58), (5, 58), (2, 59), (3, 59), (4, 59), (5, 59), (2, 60), (3, 60), (4, 60), (5, 60), (2, 61), (3, 61), (4, 61), (5, 61), (10, 0), (11, 0), (12, 0), (13, 0), (14, 0), (2, 62), (3, 62), (4, 62), (5, 62), (2, 63), (3, 63), (4, 63), (5, 63), (2, 64), (3, 64), (4, 64), (5, 64), (2, 65), (3, 65), (4, 65), (5, 65), (15, 0), (16, 0), (17, 0), (18, 0), (19, 0), (20, 0), (21, 0), (22, 0), (23, 0), (24, 0), (25, 0), (26, 0), (27, 0), (28, 0), (29, 0), (30, 0), (31, 0), (32, 0), (33, 0), (34, 0), (35, 0), (36, 0), (37, 0), (38, 0)]
def ent (G : v_G) (S : St) (kd j : Nat) : va_E := match kd with
  | 0 => .inr (8, [.ref (v_B G + (1 + 129 * 0)), .ref (v_B G + (1 + 129 * 1)), .ref (v_B G + 259), .ref (v_B G + 261), .ref (v_B G + 280), .ref (v_B G + 283), .ref (v_B G + 288)])
  | 1 => .inr (7, [.ref (v_B G + (so (31 * j))), .ref (v_B G + (6 + 129 * j)), .int (gI S 802 j 0), .int (gI S 803 j 0), .ref (v_B G + (7 + 129 * j)), .int (gI S 805 j 0), .int (gI S 806 j 0), .ref (v_B G + (8 + 129 * j)), .int (gI S 808 j 0), .int (gI S 809 j 0), .ref (v_B G + (9 + 129 * j)), .int (gI S 811 j 0)])
  | 2 => .inr (3, [.ref (v_B G + (so j + 1)), .ref (v_B G + (so j + 2)), .ref (v_B G + (so j + 3)), .int (gI S 403 j 0), .int (gI S 404 j 0), .int (gI S 405 j 0), .int (gI S 406 j 0), .int (gI S 407 j 0), .int (gI S 408 j 0)])
  | 3 => .inl (0, 12, .inl (fun i => gI S 400 j i))
  | 4 => .inl (0, 6, .inl (fun i => gI S 401 j i))
  | 5 => .inl (1, 30, .inr (.inl (fun i => gL S 402 j i)))
  | 6 => .inl (3, 30, .inr (.inr (.inr (.inr (fun i => some (v_B G + so (31 * j + 1 + i)))))))
  | 7 => .inl (0, 4, .inl (fun i => gI S 804 j i))
  | 8 => .inl (4, 4, .inr (.inr (.inr (.inr (fun i => if gR S 807 j i = 0 then none else some (da G (gR S 807 j i)))))))
  | 9 => .inl (0, 24, .inl (fun i => gI S 810 j i))
  | 10 => .inr (1, [.ref (v_B G + (1 + 129 * 0)), .ref (v_B G + 260), .ref (v_B G + so (gR S 202 j 0)), .int (gI S 203 j 0), .int (gI S 204 j 0), .int (gI S 205 j 0)])
  | 11 => .inl (1, 64, .inr (.inl (fun i => gL S 201 j i)))
  | 12 => .inr (6, [.ref (v_B G + (1 + 129 * 0)), .ref (v_B G + (1 + 129 * 1)), .ref (v_B G + 259), .ref (v_B G + 262), .ref (v_B G + 263), .int (gI S 705 j 0), .int (gI S 706 j 0), .int (gI S 707 j 0)])
  | 13 => .inl (3, 4, .inr (.inr (.inr (.inr (fun i => some (v_B G + so (62 + i)))))))
  | 14 => .inl (0, 3, .inl (fun i => gI S 704 j i))
  | 15 => .inr (2, [.ref (v_B G + 281), .ref (v_B G + 282)])
  | 16 => .inl (0, 13, .inl (fun i => gI S 300 j i))
  | 17 => .inl (0, 91, .inl (fun i => gI S 301 j i))
  | 18 => .inr (4, [.ref (v_B G + 284), .int (gI S 501 j 0), .ref (v_B G + 285), .ref (v_B G + 286), .ref (v_B G + 287), .int (gI S 505 j 0)])
  | 19 => .inl (0, 300, .inl (fun i => gI S 500 j i))
  | 20 => .inl (0, 301, .inl (fun i => gI S 502 j i))
  | 21 => .inl (0, 301, .inl (fun i => gI S 503 j i))
  | 22 => .inl (0, 301, .inl (fun i => gI S 504 j i))
  | 23 => .inr (0, [.ref (v_B G + 283), .int (gI S 101 j 0), .int (gI S 102 j 0), .int (gI S 103 j 0), .int (gI S 104 j 0), .int (gI S 105 j 0), .ref (v_B G + 289), .int (gI S 107 j 0), .ref (v_B G + 290), .int (gI S 109 j 0), .ref (da G (gR S 110 j 0)), .ref (da G (gR S 111 j 0))])
  | 24 => .inl (0, 72, .inl (fun i => gI S 106 j i))
  | 25 => .inl (0, 300, .inl (fun i => gI S 108 j i))
  | 26 => .inr (9, [.ref (v_B G + 292), .ref (v_B G + 293), .ref (v_B G + 294), .ref (v_B G + 295), .int (gI S 1004 j 0), .int (gI S 1005 j 0), .int (gI S 1006 j 0), .int (gI S 1007 j 0), .int (gI S 1008 j 0), .int (gI S 1009 j 0), .int (gI S 1010 j 0), .long (gL S 1011 j 0), .int (gI S 1012 j 0), .int (gI S 1013 j 0), .int (gI S 1014 j 0), .ref (v_B G + 296), .int (gI S 1016 j 0), .int (gI S 1017 j 0), .int (gI S 1018 j 0), .int (gI S 1019 j 0), .ref (v_B G + 297), .ref (v_B G + 298), .ref (v_B G + 299), .int (gI S 1023 j 0), .int (gI S 1024 j 0), .ref (v_B G + 300), .ref (v_B G + 301), .ref (v_B G + 302), .ref (v_B G + 303)])
  | 27 => .inl (0, 3015, .inl (fun i => gI S 1000 j i))
  | 28 => .inl (0, 3015, .inl (fun i => gI S 1001 j i))
  | 29 => .inl (0, 2724, .inl (fun i => gI S 1002 j i))
  | 30 => .inl (0, 300, .inl (fun i => gI S 1003 j i))
  | 31 => .inl (0, 160, .inl (fun i => gI S 1015 j i))
  | 32 => .inl (0, 8, .inl (fun i => gI S 1020 j i))
  | 33 => .inl (1, 330, .inr (.inl (fun i => gL S 1021 j i)))
  | 34 => .inl (2, 330, .inl (fun i => gI S 1022 j i))
  | 35 => .inl (0, 41, .inl (fun i => gI S 1025 j i))
  | 36 => .inl (0, 12, .inl (fun i => gI S 1026 j i))
  | 37 => .inl (0, 144, .inl (fun i => gI S 1027 j i))
  | 38 => .inl (0, 19, .inl (fun i => gI S 1028 j i))
  | _ => .inr (99, [])
def dyn (G : v_G) (e : (Nat × (Nat → Int32)) ⊕ (Nat × Nat × Nat)) : va_E := match e with
  | .inl x => .inl (0, x.1, .inl x.2)
  | .inr x => .inr (5, [.ref (da G x.1), .ref (da G x.2.1), .ref (da G x.2.2)])
def lay (G : v_G) (S : St) : v_H := (fun a => if a < v_B G then none else match lkL[a - v_B G]? with
  | some q => some (ent G S q.1 q.2)
  | none => (gD S (a - v_B G - 304)).map (dyn G), v_B G + (304 + gZ S))
theorem lay_at {G : v_G} {S : St} {k kd j : Nat} (hk : lkL[k]? = some (kd, j)) : (lay G S).1 (v_B G + k) = some (ent G S kd j) := by
  simp [lay, hk]
def enc (kd j : Nat) : Nat := match kd with
  | 0 => 0
  | 1 => 1 + 129 * j
  | 2 => so j
  | 3 => so j + 1
  | 4 => so j + 2
  | 5 => so j + 3
  | 6 => 6 + 129 * j
  | 7 => 7 + 129 * j
  | 8 => 8 + 129 * j
  | 9 => 9 + 129 * j
  | 10 => 259
  | 11 => 260
  | 12 => 261
  | 13 => 262
  | 14 => 263
  | 15 => 280
  | 16 => 281
  | 17 => 282
  | 18 => 283
  | 19 => 284
  | 20 => 285
  | 21 => 286
  | 22 => 287
  | 23 => 288
  | 24 => 289
  | 25 => 290
  | 26 => 291
  | 27 => 292
  | 28 => 293
  | 29 => 294
  | 30 => 295
  | 31 => 296
  | 32 => 297
  | 33 => 298
  | 34 => 299
  | 35 => 300
  | 36 => 301
  | 37 => 302
  | 38 => 303
  | _ => 999
theorem lk_enc : ∀ k, k < 304 → ∃ q, lkL[k]? = some q ∧ enc q.1 q.2 = k := by decide +kernel
theorem lk_len : lkL.length = 304 := by decide +kernel
theorem lk_inj {k k' kd j : Nat} (h1 : lkL[k]? = some (kd, j)) (h2 : lkL[k']? = some (kd, j)) : k = k' := by
  have l1 : k < 304 := by rw [← lk_len]; exact (List.getElem?_eq_some_iff.mp h1).1
  have l2 : k' < 304 := by rw [← lk_len]; exact (List.getElem?_eq_some_iff.mp h2).1
  obtain ⟨q, a1, a2⟩ := lk_enc k l1
  obtain ⟨q', b1, b2⟩ := lk_enc k' l2
  rw [h1] at a1; rw [h2] at b1
  cases a1; cases b1
  exact a2.symm.trans b2
theorem lay_up {G : v_G} {S S' : St} {k kd j : Nat} {e : va_E} (hk : lkL[k]? = some (kd, j)) (he : ent G S' kd j = e) (ho : ∀ kd' j', ¬ (kd' = kd ∧ j' = j) → ent G S' kd' j' = ent G S kd' j') (hD : gD S' = gD S) (hZ : gZ S' = gZ S) : v_up (lay G S) (v_B G + k) e = lay G S' := by
  unfold v_up
  refine Prod.ext (funext fun a => ?_) ?_
  · show (if a = v_B G + k then some e else (lay G S).1 a) = (lay G S').1 a
    by_cases ha : a = v_B G + k
    · rw [if_pos ha, ha, lay_at hk, he]
    · rw [if_neg ha]
      unfold lay
      dsimp only
      by_cases hb : a < v_B G
      · rw [if_pos hb, if_pos hb]
      · rw [if_neg hb, if_neg hb, hD]
        cases hq : lkL[a - v_B G]? with
        | none => rfl
        | some q =>
          obtain ⟨kd', j'⟩ := q
          dsimp only
          rw [ho kd' j']
          rintro ⟨rfl, rfl⟩
          have := lk_inj hq hk
          omega
  · show (lay G S).2 = (lay G S').2
    unfold lay
    dsimp only
    rw [hZ]
def own (f : Nat) : Nat := match f with
  | 101 => 23
  | 102 => 23
  | 103 => 23
  | 104 => 23
  | 105 => 23
  | 106 => 24
  | 107 => 23
  | 108 => 25
  | 109 => 23
  | 110 => 23
  | 111 => 23
  | 201 => 11
  | 202 => 10
  | 203 => 10
  | 204 => 10
  | 205 => 10
  | 300 => 16
  | 301 => 17
  | 400 => 3
  | 401 => 4
  | 402 => 5
  | 403 => 2
  | 404 => 2
  | 405 => 2
  | 406 => 2
  | 407 => 2
  | 408 => 2
  | 500 => 19
  | 501 => 18
  | 502 => 20
  | 503 => 21
  | 504 => 22
  | 505 => 18
  | 704 => 14
  | 705 => 12
  | 706 => 12
  | 707 => 12
  | 802 => 1
  | 803 => 1
  | 804 => 7
  | 805 => 1
  | 806 => 1
  | 807 => 8
  | 808 => 1
  | 809 => 1
  | 810 => 9
  | 811 => 1
  | 1000 => 27
  | 1001 => 28
  | 1002 => 29
  | 1003 => 30
  | 1004 => 26
  | 1005 => 26
  | 1006 => 26
  | 1007 => 26
  | 1008 => 26
  | 1009 => 26
  | 1010 => 26
  | 1011 => 26
  | 1012 => 26
  | 1013 => 26
  | 1014 => 26
  | 1015 => 31
  | 1016 => 26
  | 1017 => 26
  | 1018 => 26
  | 1019 => 26
  | 1020 => 32
  | 1021 => 33
  | 1022 => 34
  | 1023 => 26
  | 1024 => 26
  | 1025 => 35
  | 1026 => 36
  | 1027 => 37
  | 1028 => 38
  | _ => 99
theorem gI_sI_ne {S : St} {f j i : Nat} {v : Int32} {f' j' : Nat} (h : ¬ (own f' = own f ∧ j' = j)) (i' : Nat) : gI (sI S f j i v) f' j' i' = gI S f' j' i' := by
  rw [gI_sI, if_neg]
  rintro ⟨rfl, rfl, -⟩
  exact h ⟨rfl, rfl⟩
theorem ent_sI {G : v_G} {S : St} {f j i : Nat} {v : Int32} {kd j' : Nat} (h : ¬ (kd = own f ∧ j' = j)) : ent G (sI S f j i v) kd j' = ent G S kd j' := by
  match kd, h with
  | 0, h => rfl
  | 1, h =>
    have e := fun (f' : Nat) (hf : own f' = 1) => gI_sI_ne (S := S) (v := v) (i := i) (f' := f') (show ¬ (own f' = own f ∧ j' = j) from hf ▸ h)
    simp only [ent, e 802 rfl, e 803 rfl, e 805 rfl, e 806 rfl, e 808 rfl, e 809 rfl, e 811 rfl, gI_sL, gI_sLA, gI_sR, gL_sI, gL_sIA, gL_sR, gR_sI, gR_sIA, gR_sL, gR_sLA]
  | 2, h =>
    have e := fun (f' : Nat) (hf : own f' = 2) => gI_sI_ne (S := S) (v := v) (i := i) (f' := f') (show ¬ (own f' = own f ∧ j' = j) from hf ▸ h)
    simp only [ent, e 403 rfl, e 404 rfl, e 405 rfl, e 406 rfl, e 407 rfl, e 408 rfl, gI_sL, gI_sLA, gI_sR, gL_sI, gL_sIA, gL_sR, gR_sI, gR_sIA, gR_sL, gR_sLA]
  | 3, h =>
    have e := fun (f' : Nat) (hf : own f' = 3) => gI_sI_ne (S := S) (v := v) (i := i) (f' := f') (show ¬ (own f' = own f ∧ j' = j) from hf ▸ h)
    simp only [ent, e 400 rfl, gI_sL, gI_sLA, gI_sR, gL_sI, gL_sIA, gL_sR, gR_sI, gR_sIA, gR_sL, gR_sLA]
  | 4, h =>
    have e := fun (f' : Nat) (hf : own f' = 4) => gI_sI_ne (S := S) (v := v) (i := i) (f' := f') (show ¬ (own f' = own f ∧ j' = j) from hf ▸ h)
    simp only [ent, e 401 rfl, gI_sL, gI_sLA, gI_sR, gL_sI, gL_sIA, gL_sR, gR_sI, gR_sIA, gR_sL, gR_sLA]
  | 5, h => rfl
  | 6, h => rfl
  | 7, h =>
    have e := fun (f' : Nat) (hf : own f' = 7) => gI_sI_ne (S := S) (v := v) (i := i) (f' := f') (show ¬ (own f' = own f ∧ j' = j) from hf ▸ h)
    simp only [ent, e 804 rfl, gI_sL, gI_sLA, gI_sR, gL_sI, gL_sIA, gL_sR, gR_sI, gR_sIA, gR_sL, gR_sLA]
  | 8, h => rfl
  | 9, h =>
    have e := fun (f' : Nat) (hf : own f' = 9) => gI_sI_ne (S := S) (v := v) (i := i) (f' := f') (show ¬ (own f' = own f ∧ j' = j) from hf ▸ h)
    simp only [ent, e 810 rfl, gI_sL, gI_sLA, gI_sR, gL_sI, gL_sIA, gL_sR, gR_sI, gR_sIA, gR_sL, gR_sLA]
  | 10, h =>
    have e := fun (f' : Nat) (hf : own f' = 10) => gI_sI_ne (S := S) (v := v) (i := i) (f' := f') (show ¬ (own f' = own f ∧ j' = j) from hf ▸ h)
    simp only [ent, e 203 rfl, e 204 rfl, e 205 rfl, gI_sL, gI_sLA, gI_sR, gL_sI, gL_sIA, gL_sR, gR_sI, gR_sIA, gR_sL, gR_sLA]
  | 11, h => rfl
  | 12, h =>
    have e := fun (f' : Nat) (hf : own f' = 12) => gI_sI_ne (S := S) (v := v) (i := i) (f' := f') (show ¬ (own f' = own f ∧ j' = j) from hf ▸ h)
    simp only [ent, e 705 rfl, e 706 rfl, e 707 rfl, gI_sL, gI_sLA, gI_sR, gL_sI, gL_sIA, gL_sR, gR_sI, gR_sIA, gR_sL, gR_sLA]
  | 13, h => rfl
  | 14, h =>
    have e := fun (f' : Nat) (hf : own f' = 14) => gI_sI_ne (S := S) (v := v) (i := i) (f' := f') (show ¬ (own f' = own f ∧ j' = j) from hf ▸ h)
    simp only [ent, e 704 rfl, gI_sL, gI_sLA, gI_sR, gL_sI, gL_sIA, gL_sR, gR_sI, gR_sIA, gR_sL, gR_sLA]
  | 15, h => rfl
  | 16, h =>
    have e := fun (f' : Nat) (hf : own f' = 16) => gI_sI_ne (S := S) (v := v) (i := i) (f' := f') (show ¬ (own f' = own f ∧ j' = j) from hf ▸ h)
    simp only [ent, e 300 rfl, gI_sL, gI_sLA, gI_sR, gL_sI, gL_sIA, gL_sR, gR_sI, gR_sIA, gR_sL, gR_sLA]
  | 17, h =>
    have e := fun (f' : Nat) (hf : own f' = 17) => gI_sI_ne (S := S) (v := v) (i := i) (f' := f') (show ¬ (own f' = own f ∧ j' = j) from hf ▸ h)
    simp only [ent, e 301 rfl, gI_sL, gI_sLA, gI_sR, gL_sI, gL_sIA, gL_sR, gR_sI, gR_sIA, gR_sL, gR_sLA]
  | 18, h =>
    have e := fun (f' : Nat) (hf : own f' = 18) => gI_sI_ne (S := S) (v := v) (i := i) (f' := f') (show ¬ (own f' = own f ∧ j' = j) from hf ▸ h)
    simp only [ent, e 501 rfl, e 505 rfl, gI_sL, gI_sLA, gI_sR, gL_sI, gL_sIA, gL_sR, gR_sI, gR_sIA, gR_sL, gR_sLA]
  | 19, h =>
    have e := fun (f' : Nat) (hf : own f' = 19) => gI_sI_ne (S := S) (v := v) (i := i) (f' := f') (show ¬ (own f' = own f ∧ j' = j) from hf ▸ h)
    simp only [ent, e 500 rfl, gI_sL, gI_sLA, gI_sR, gL_sI, gL_sIA, gL_sR, gR_sI, gR_sIA, gR_sL, gR_sLA]
  | 20, h =>
    have e := fun (f' : Nat) (hf : own f' = 20) => gI_sI_ne (S := S) (v := v) (i := i) (f' := f') (show ¬ (own f' = own f ∧ j' = j) from hf ▸ h)
    simp only [ent, e 502 rfl, gI_sL, gI_sLA, gI_sR, gL_sI, gL_sIA, gL_sR, gR_sI, gR_sIA, gR_sL, gR_sLA]
  | 21, h =>
    have e := fun (f' : Nat) (hf : own f' = 21) => gI_sI_ne (S := S) (v := v) (i := i) (f' := f') (show ¬ (own f' = own f ∧ j' = j) from hf ▸ h)
    simp only [ent, e 503 rfl, gI_sL, gI_sLA, gI_sR, gL_sI, gL_sIA, gL_sR, gR_sI, gR_sIA, gR_sL, gR_sLA]
  | 22, h =>
    have e := fun (f' : Nat) (hf : own f' = 22) => gI_sI_ne (S := S) (v := v) (i := i) (f' := f') (show ¬ (own f' = own f ∧ j' = j) from hf ▸ h)
    simp only [ent, e 504 rfl, gI_sL, gI_sLA, gI_sR, gL_sI, gL_sIA, gL_sR, gR_sI, gR_sIA, gR_sL, gR_sLA]
  | 23, h =>
    have e := fun (f' : Nat) (hf : own f' = 23) => gI_sI_ne (S := S) (v := v) (i := i) (f' := f') (show ¬ (own f' = own f ∧ j' = j) from hf ▸ h)
    simp only [ent, e 101 rfl, e 102 rfl, e 103 rfl, e 104 rfl, e 105 rfl, e 107 rfl, e 109 rfl, gI_sL, gI_sLA, gI_sR, gL_sI, gL_sIA, gL_sR, gR_sI, gR_sIA, gR_sL, gR_sLA]
  | 24, h =>
    have e := fun (f' : Nat) (hf : own f' = 24) => gI_sI_ne (S := S) (v := v) (i := i) (f' := f') (show ¬ (own f' = own f ∧ j' = j) from hf ▸ h)
    simp only [ent, e 106 rfl, gI_sL, gI_sLA, gI_sR, gL_sI, gL_sIA, gL_sR, gR_sI, gR_sIA, gR_sL, gR_sLA]
  | 25, h =>
    have e := fun (f' : Nat) (hf : own f' = 25) => gI_sI_ne (S := S) (v := v) (i := i) (f' := f') (show ¬ (own f' = own f ∧ j' = j) from hf ▸ h)
    simp only [ent, e 108 rfl, gI_sL, gI_sLA, gI_sR, gL_sI, gL_sIA, gL_sR, gR_sI, gR_sIA, gR_sL, gR_sLA]
  | 26, h =>
    have e := fun (f' : Nat) (hf : own f' = 26) => gI_sI_ne (S := S) (v := v) (i := i) (f' := f') (show ¬ (own f' = own f ∧ j' = j) from hf ▸ h)
    simp only [ent, e 1004 rfl, e 1005 rfl, e 1006 rfl, e 1007 rfl, e 1008 rfl, e 1009 rfl, e 1010 rfl, e 1012 rfl, e 1013 rfl, e 1014 rfl, e 1016 rfl, e 1017 rfl, e 1018 rfl, e 1019 rfl, e 1023 rfl, e 1024 rfl, gI_sL, gI_sLA, gI_sR, gL_sI, gL_sIA, gL_sR, gR_sI, gR_sIA, gR_sL, gR_sLA]
  | 27, h =>
    have e := fun (f' : Nat) (hf : own f' = 27) => gI_sI_ne (S := S) (v := v) (i := i) (f' := f') (show ¬ (own f' = own f ∧ j' = j) from hf ▸ h)
    simp only [ent, e 1000 rfl, gI_sL, gI_sLA, gI_sR, gL_sI, gL_sIA, gL_sR, gR_sI, gR_sIA, gR_sL, gR_sLA]
  | 28, h =>
    have e := fun (f' : Nat) (hf : own f' = 28) => gI_sI_ne (S := S) (v := v) (i := i) (f' := f') (show ¬ (own f' = own f ∧ j' = j) from hf ▸ h)
    simp only [ent, e 1001 rfl, gI_sL, gI_sLA, gI_sR, gL_sI, gL_sIA, gL_sR, gR_sI, gR_sIA, gR_sL, gR_sLA]
  | 29, h =>
    have e := fun (f' : Nat) (hf : own f' = 29) => gI_sI_ne (S := S) (v := v) (i := i) (f' := f') (show ¬ (own f' = own f ∧ j' = j) from hf ▸ h)
    simp only [ent, e 1002 rfl, gI_sL, gI_sLA, gI_sR, gL_sI, gL_sIA, gL_sR, gR_sI, gR_sIA, gR_sL, gR_sLA]
  | 30, h =>
    have e := fun (f' : Nat) (hf : own f' = 30) => gI_sI_ne (S := S) (v := v) (i := i) (f' := f') (show ¬ (own f' = own f ∧ j' = j) from hf ▸ h)
    simp only [ent, e 1003 rfl, gI_sL, gI_sLA, gI_sR, gL_sI, gL_sIA, gL_sR, gR_sI, gR_sIA, gR_sL, gR_sLA]
  | 31, h =>
    have e := fun (f' : Nat) (hf : own f' = 31) => gI_sI_ne (S := S) (v := v) (i := i) (f' := f') (show ¬ (own f' = own f ∧ j' = j) from hf ▸ h)
    simp only [ent, e 1015 rfl, gI_sL, gI_sLA, gI_sR, gL_sI, gL_sIA, gL_sR, gR_sI, gR_sIA, gR_sL, gR_sLA]
  | 32, h =>
    have e := fun (f' : Nat) (hf : own f' = 32) => gI_sI_ne (S := S) (v := v) (i := i) (f' := f') (show ¬ (own f' = own f ∧ j' = j) from hf ▸ h)
    simp only [ent, e 1020 rfl, gI_sL, gI_sLA, gI_sR, gL_sI, gL_sIA, gL_sR, gR_sI, gR_sIA, gR_sL, gR_sLA]
  | 33, h => rfl
  | 34, h =>
    have e := fun (f' : Nat) (hf : own f' = 34) => gI_sI_ne (S := S) (v := v) (i := i) (f' := f') (show ¬ (own f' = own f ∧ j' = j) from hf ▸ h)
    simp only [ent, e 1022 rfl, gI_sL, gI_sLA, gI_sR, gL_sI, gL_sIA, gL_sR, gR_sI, gR_sIA, gR_sL, gR_sLA]
  | 35, h =>
    have e := fun (f' : Nat) (hf : own f' = 35) => gI_sI_ne (S := S) (v := v) (i := i) (f' := f') (show ¬ (own f' = own f ∧ j' = j) from hf ▸ h)
    simp only [ent, e 1025 rfl, gI_sL, gI_sLA, gI_sR, gL_sI, gL_sIA, gL_sR, gR_sI, gR_sIA, gR_sL, gR_sLA]
  | 36, h =>
    have e := fun (f' : Nat) (hf : own f' = 36) => gI_sI_ne (S := S) (v := v) (i := i) (f' := f') (show ¬ (own f' = own f ∧ j' = j) from hf ▸ h)
    simp only [ent, e 1026 rfl, gI_sL, gI_sLA, gI_sR, gL_sI, gL_sIA, gL_sR, gR_sI, gR_sIA, gR_sL, gR_sLA]
  | 37, h =>
    have e := fun (f' : Nat) (hf : own f' = 37) => gI_sI_ne (S := S) (v := v) (i := i) (f' := f') (show ¬ (own f' = own f ∧ j' = j) from hf ▸ h)
    simp only [ent, e 1027 rfl, gI_sL, gI_sLA, gI_sR, gL_sI, gL_sIA, gL_sR, gR_sI, gR_sIA, gR_sL, gR_sLA]
  | 38, h =>
    have e := fun (f' : Nat) (hf : own f' = 38) => gI_sI_ne (S := S) (v := v) (i := i) (f' := f') (show ¬ (own f' = own f ∧ j' = j) from hf ▸ h)
    simp only [ent, e 1028 rfl, gI_sL, gI_sLA, gI_sR, gL_sI, gL_sIA, gL_sR, gR_sI, gR_sIA, gR_sL, gR_sLA]
  | n + 39, h => rfl
theorem gI_sIA_ne {S : St} {f j : Nat} {v : Nat → Int32} {f' j' : Nat} (h : ¬ (own f' = own f ∧ j' = j)) (i' : Nat) : gI (sIA S f j v) f' j' i' = gI S f' j' i' := by
  rw [gI_sIA, if_neg]
  rintro ⟨rfl, rfl⟩
  exact h ⟨rfl, rfl⟩
theorem ent_sIA {G : v_G} {S : St} {f j : Nat} {v : Nat → Int32} {kd j' : Nat} (h : ¬ (kd = own f ∧ j' = j)) : ent G (sIA S f j v) kd j' = ent G S kd j' := by
  match kd, h with
  | 0, h => rfl
  | 1, h =>
    have e := fun (f' : Nat) (hf : own f' = 1) => gI_sIA_ne (S := S) (v := v) (f' := f') (show ¬ (own f' = own f ∧ j' = j) from hf ▸ h)
    simp only [ent, e 802 rfl, e 803 rfl, e 805 rfl, e 806 rfl, e 808 rfl, e 809 rfl, e 811 rfl, gI_sL, gI_sLA, gI_sR, gL_sI, gL_sIA, gL_sR, gR_sI, gR_sIA, gR_sL, gR_sLA]
  | 2, h =>
    have e := fun (f' : Nat) (hf : own f' = 2) => gI_sIA_ne (S := S) (v := v) (f' := f') (show ¬ (own f' = own f ∧ j' = j) from hf ▸ h)
    simp only [ent, e 403 rfl, e 404 rfl, e 405 rfl, e 406 rfl, e 407 rfl, e 408 rfl, gI_sL, gI_sLA, gI_sR, gL_sI, gL_sIA, gL_sR, gR_sI, gR_sIA, gR_sL, gR_sLA]
  | 3, h =>
    have e := fun (f' : Nat) (hf : own f' = 3) => gI_sIA_ne (S := S) (v := v) (f' := f') (show ¬ (own f' = own f ∧ j' = j) from hf ▸ h)
    simp only [ent, e 400 rfl, gI_sL, gI_sLA, gI_sR, gL_sI, gL_sIA, gL_sR, gR_sI, gR_sIA, gR_sL, gR_sLA]
  | 4, h =>
    have e := fun (f' : Nat) (hf : own f' = 4) => gI_sIA_ne (S := S) (v := v) (f' := f') (show ¬ (own f' = own f ∧ j' = j) from hf ▸ h)
    simp only [ent, e 401 rfl, gI_sL, gI_sLA, gI_sR, gL_sI, gL_sIA, gL_sR, gR_sI, gR_sIA, gR_sL, gR_sLA]
  | 5, h => rfl
  | 6, h => rfl
  | 7, h =>
    have e := fun (f' : Nat) (hf : own f' = 7) => gI_sIA_ne (S := S) (v := v) (f' := f') (show ¬ (own f' = own f ∧ j' = j) from hf ▸ h)
    simp only [ent, e 804 rfl, gI_sL, gI_sLA, gI_sR, gL_sI, gL_sIA, gL_sR, gR_sI, gR_sIA, gR_sL, gR_sLA]
  | 8, h => rfl
  | 9, h =>
    have e := fun (f' : Nat) (hf : own f' = 9) => gI_sIA_ne (S := S) (v := v) (f' := f') (show ¬ (own f' = own f ∧ j' = j) from hf ▸ h)
    simp only [ent, e 810 rfl, gI_sL, gI_sLA, gI_sR, gL_sI, gL_sIA, gL_sR, gR_sI, gR_sIA, gR_sL, gR_sLA]
  | 10, h =>
    have e := fun (f' : Nat) (hf : own f' = 10) => gI_sIA_ne (S := S) (v := v) (f' := f') (show ¬ (own f' = own f ∧ j' = j) from hf ▸ h)
    simp only [ent, e 203 rfl, e 204 rfl, e 205 rfl, gI_sL, gI_sLA, gI_sR, gL_sI, gL_sIA, gL_sR, gR_sI, gR_sIA, gR_sL, gR_sLA]
  | 11, h => rfl
  | 12, h =>
    have e := fun (f' : Nat) (hf : own f' = 12) => gI_sIA_ne (S := S) (v := v) (f' := f') (show ¬ (own f' = own f ∧ j' = j) from hf ▸ h)
    simp only [ent, e 705 rfl, e 706 rfl, e 707 rfl, gI_sL, gI_sLA, gI_sR, gL_sI, gL_sIA, gL_sR, gR_sI, gR_sIA, gR_sL, gR_sLA]
  | 13, h => rfl
  | 14, h =>
    have e := fun (f' : Nat) (hf : own f' = 14) => gI_sIA_ne (S := S) (v := v) (f' := f') (show ¬ (own f' = own f ∧ j' = j) from hf ▸ h)
    simp only [ent, e 704 rfl, gI_sL, gI_sLA, gI_sR, gL_sI, gL_sIA, gL_sR, gR_sI, gR_sIA, gR_sL, gR_sLA]
  | 15, h => rfl
  | 16, h =>
    have e := fun (f' : Nat) (hf : own f' = 16) => gI_sIA_ne (S := S) (v := v) (f' := f') (show ¬ (own f' = own f ∧ j' = j) from hf ▸ h)
    simp only [ent, e 300 rfl, gI_sL, gI_sLA, gI_sR, gL_sI, gL_sIA, gL_sR, gR_sI, gR_sIA, gR_sL, gR_sLA]
  | 17, h =>
    have e := fun (f' : Nat) (hf : own f' = 17) => gI_sIA_ne (S := S) (v := v) (f' := f') (show ¬ (own f' = own f ∧ j' = j) from hf ▸ h)
    simp only [ent, e 301 rfl, gI_sL, gI_sLA, gI_sR, gL_sI, gL_sIA, gL_sR, gR_sI, gR_sIA, gR_sL, gR_sLA]
  | 18, h =>
    have e := fun (f' : Nat) (hf : own f' = 18) => gI_sIA_ne (S := S) (v := v) (f' := f') (show ¬ (own f' = own f ∧ j' = j) from hf ▸ h)
    simp only [ent, e 501 rfl, e 505 rfl, gI_sL, gI_sLA, gI_sR, gL_sI, gL_sIA, gL_sR, gR_sI, gR_sIA, gR_sL, gR_sLA]
  | 19, h =>
    have e := fun (f' : Nat) (hf : own f' = 19) => gI_sIA_ne (S := S) (v := v) (f' := f') (show ¬ (own f' = own f ∧ j' = j) from hf ▸ h)
    simp only [ent, e 500 rfl, gI_sL, gI_sLA, gI_sR, gL_sI, gL_sIA, gL_sR, gR_sI, gR_sIA, gR_sL, gR_sLA]
  | 20, h =>
    have e := fun (f' : Nat) (hf : own f' = 20) => gI_sIA_ne (S := S) (v := v) (f' := f') (show ¬ (own f' = own f ∧ j' = j) from hf ▸ h)
    simp only [ent, e 502 rfl, gI_sL, gI_sLA, gI_sR, gL_sI, gL_sIA, gL_sR, gR_sI, gR_sIA, gR_sL, gR_sLA]
  | 21, h =>
    have e := fun (f' : Nat) (hf : own f' = 21) => gI_sIA_ne (S := S) (v := v) (f' := f') (show ¬ (own f' = own f ∧ j' = j) from hf ▸ h)
    simp only [ent, e 503 rfl, gI_sL, gI_sLA, gI_sR, gL_sI, gL_sIA, gL_sR, gR_sI, gR_sIA, gR_sL, gR_sLA]
  | 22, h =>
    have e := fun (f' : Nat) (hf : own f' = 22) => gI_sIA_ne (S := S) (v := v) (f' := f') (show ¬ (own f' = own f ∧ j' = j) from hf ▸ h)
    simp only [ent, e 504 rfl, gI_sL, gI_sLA, gI_sR, gL_sI, gL_sIA, gL_sR, gR_sI, gR_sIA, gR_sL, gR_sLA]
  | 23, h =>
    have e := fun (f' : Nat) (hf : own f' = 23) => gI_sIA_ne (S := S) (v := v) (f' := f') (show ¬ (own f' = own f ∧ j' = j) from hf ▸ h)
    simp only [ent, e 101 rfl, e 102 rfl, e 103 rfl, e 104 rfl, e 105 rfl, e 107 rfl, e 109 rfl, gI_sL, gI_sLA, gI_sR, gL_sI, gL_sIA, gL_sR, gR_sI, gR_sIA, gR_sL, gR_sLA]
  | 24, h =>
    have e := fun (f' : Nat) (hf : own f' = 24) => gI_sIA_ne (S := S) (v := v) (f' := f') (show ¬ (own f' = own f ∧ j' = j) from hf ▸ h)
    simp only [ent, e 106 rfl, gI_sL, gI_sLA, gI_sR, gL_sI, gL_sIA, gL_sR, gR_sI, gR_sIA, gR_sL, gR_sLA]
  | 25, h =>
    have e := fun (f' : Nat) (hf : own f' = 25) => gI_sIA_ne (S := S) (v := v) (f' := f') (show ¬ (own f' = own f ∧ j' = j) from hf ▸ h)
    simp only [ent, e 108 rfl, gI_sL, gI_sLA, gI_sR, gL_sI, gL_sIA, gL_sR, gR_sI, gR_sIA, gR_sL, gR_sLA]
  | 26, h =>
    have e := fun (f' : Nat) (hf : own f' = 26) => gI_sIA_ne (S := S) (v := v) (f' := f') (show ¬ (own f' = own f ∧ j' = j) from hf ▸ h)
    simp only [ent, e 1004 rfl, e 1005 rfl, e 1006 rfl, e 1007 rfl, e 1008 rfl, e 1009 rfl, e 1010 rfl, e 1012 rfl, e 1013 rfl, e 1014 rfl, e 1016 rfl, e 1017 rfl, e 1018 rfl, e 1019 rfl, e 1023 rfl, e 1024 rfl, gI_sL, gI_sLA, gI_sR, gL_sI, gL_sIA, gL_sR, gR_sI, gR_sIA, gR_sL, gR_sLA]
  | 27, h =>
    have e := fun (f' : Nat) (hf : own f' = 27) => gI_sIA_ne (S := S) (v := v) (f' := f') (show ¬ (own f' = own f ∧ j' = j) from hf ▸ h)
    simp only [ent, e 1000 rfl, gI_sL, gI_sLA, gI_sR, gL_sI, gL_sIA, gL_sR, gR_sI, gR_sIA, gR_sL, gR_sLA]
  | 28, h =>
    have e := fun (f' : Nat) (hf : own f' = 28) => gI_sIA_ne (S := S) (v := v) (f' := f') (show ¬ (own f' = own f ∧ j' = j) from hf ▸ h)
    simp only [ent, e 1001 rfl, gI_sL, gI_sLA, gI_sR, gL_sI, gL_sIA, gL_sR, gR_sI, gR_sIA, gR_sL, gR_sLA]
  | 29, h =>
    have e := fun (f' : Nat) (hf : own f' = 29) => gI_sIA_ne (S := S) (v := v) (f' := f') (show ¬ (own f' = own f ∧ j' = j) from hf ▸ h)
    simp only [ent, e 1002 rfl, gI_sL, gI_sLA, gI_sR, gL_sI, gL_sIA, gL_sR, gR_sI, gR_sIA, gR_sL, gR_sLA]
  | 30, h =>
    have e := fun (f' : Nat) (hf : own f' = 30) => gI_sIA_ne (S := S) (v := v) (f' := f') (show ¬ (own f' = own f ∧ j' = j) from hf ▸ h)
    simp only [ent, e 1003 rfl, gI_sL, gI_sLA, gI_sR, gL_sI, gL_sIA, gL_sR, gR_sI, gR_sIA, gR_sL, gR_sLA]
  | 31, h =>
    have e := fun (f' : Nat) (hf : own f' = 31) => gI_sIA_ne (S := S) (v := v) (f' := f') (show ¬ (own f' = own f ∧ j' = j) from hf ▸ h)
    simp only [ent, e 1015 rfl, gI_sL, gI_sLA, gI_sR, gL_sI, gL_sIA, gL_sR, gR_sI, gR_sIA, gR_sL, gR_sLA]
  | 32, h =>
    have e := fun (f' : Nat) (hf : own f' = 32) => gI_sIA_ne (S := S) (v := v) (f' := f') (show ¬ (own f' = own f ∧ j' = j) from hf ▸ h)
    simp only [ent, e 1020 rfl, gI_sL, gI_sLA, gI_sR, gL_sI, gL_sIA, gL_sR, gR_sI, gR_sIA, gR_sL, gR_sLA]
  | 33, h => rfl
  | 34, h =>
    have e := fun (f' : Nat) (hf : own f' = 34) => gI_sIA_ne (S := S) (v := v) (f' := f') (show ¬ (own f' = own f ∧ j' = j) from hf ▸ h)
    simp only [ent, e 1022 rfl, gI_sL, gI_sLA, gI_sR, gL_sI, gL_sIA, gL_sR, gR_sI, gR_sIA, gR_sL, gR_sLA]
  | 35, h =>
    have e := fun (f' : Nat) (hf : own f' = 35) => gI_sIA_ne (S := S) (v := v) (f' := f') (show ¬ (own f' = own f ∧ j' = j) from hf ▸ h)
    simp only [ent, e 1025 rfl, gI_sL, gI_sLA, gI_sR, gL_sI, gL_sIA, gL_sR, gR_sI, gR_sIA, gR_sL, gR_sLA]
  | 36, h =>
    have e := fun (f' : Nat) (hf : own f' = 36) => gI_sIA_ne (S := S) (v := v) (f' := f') (show ¬ (own f' = own f ∧ j' = j) from hf ▸ h)
    simp only [ent, e 1026 rfl, gI_sL, gI_sLA, gI_sR, gL_sI, gL_sIA, gL_sR, gR_sI, gR_sIA, gR_sL, gR_sLA]
  | 37, h =>
    have e := fun (f' : Nat) (hf : own f' = 37) => gI_sIA_ne (S := S) (v := v) (f' := f') (show ¬ (own f' = own f ∧ j' = j) from hf ▸ h)
    simp only [ent, e 1027 rfl, gI_sL, gI_sLA, gI_sR, gL_sI, gL_sIA, gL_sR, gR_sI, gR_sIA, gR_sL, gR_sLA]
  | 38, h =>
    have e := fun (f' : Nat) (hf : own f' = 38) => gI_sIA_ne (S := S) (v := v) (f' := f') (show ¬ (own f' = own f ∧ j' = j) from hf ▸ h)
    simp only [ent, e 1028 rfl, gI_sL, gI_sLA, gI_sR, gL_sI, gL_sIA, gL_sR, gR_sI, gR_sIA, gR_sL, gR_sLA]
  | n + 39, h => rfl
theorem gL_sL_ne {S : St} {f j i : Nat} {v : Int64} {f' j' : Nat} (h : ¬ (own f' = own f ∧ j' = j)) (i' : Nat) : gL (sL S f j i v) f' j' i' = gL S f' j' i' := by
  rw [gL_sL, if_neg]
  rintro ⟨rfl, rfl, -⟩
  exact h ⟨rfl, rfl⟩
theorem ent_sL {G : v_G} {S : St} {f j i : Nat} {v : Int64} {kd j' : Nat} (h : ¬ (kd = own f ∧ j' = j)) : ent G (sL S f j i v) kd j' = ent G S kd j' := by
  match kd, h with
  | 0, h => rfl
  | 1, h => rfl
  | 2, h => rfl
  | 3, h => rfl
  | 4, h => rfl
  | 5, h =>
    have e := fun (f' : Nat) (hf : own f' = 5) => gL_sL_ne (S := S) (v := v) (i := i) (f' := f') (show ¬ (own f' = own f ∧ j' = j) from hf ▸ h)
    simp only [ent, e 402 rfl, gI_sL, gI_sLA, gI_sR, gL_sI, gL_sIA, gL_sR, gR_sI, gR_sIA, gR_sL, gR_sLA]
  | 6, h => rfl
  | 7, h => rfl
  | 8, h => rfl
  | 9, h => rfl
  | 10, h => rfl
  | 11, h =>
    have e := fun (f' : Nat) (hf : own f' = 11) => gL_sL_ne (S := S) (v := v) (i := i) (f' := f') (show ¬ (own f' = own f ∧ j' = j) from hf ▸ h)
    simp only [ent, e 201 rfl, gI_sL, gI_sLA, gI_sR, gL_sI, gL_sIA, gL_sR, gR_sI, gR_sIA, gR_sL, gR_sLA]
  | 12, h => rfl
  | 13, h => rfl
  | 14, h => rfl
  | 15, h => rfl
  | 16, h => rfl
  | 17, h => rfl
  | 18, h => rfl
  | 19, h => rfl
  | 20, h => rfl
  | 21, h => rfl
  | 22, h => rfl
  | 23, h => rfl
  | 24, h => rfl
  | 25, h => rfl
  | 26, h =>
    have e := fun (f' : Nat) (hf : own f' = 26) => gL_sL_ne (S := S) (v := v) (i := i) (f' := f') (show ¬ (own f' = own f ∧ j' = j) from hf ▸ h)
    simp only [ent, e 1011 rfl, gI_sL, gI_sLA, gI_sR, gL_sI, gL_sIA, gL_sR, gR_sI, gR_sIA, gR_sL, gR_sLA]
  | 27, h => rfl
  | 28, h => rfl
  | 29, h => rfl
  | 30, h => rfl
  | 31, h => rfl
  | 32, h => rfl
  | 33, h =>
    have e := fun (f' : Nat) (hf : own f' = 33) => gL_sL_ne (S := S) (v := v) (i := i) (f' := f') (show ¬ (own f' = own f ∧ j' = j) from hf ▸ h)
    simp only [ent, e 1021 rfl, gI_sL, gI_sLA, gI_sR, gL_sI, gL_sIA, gL_sR, gR_sI, gR_sIA, gR_sL, gR_sLA]
  | 34, h => rfl
  | 35, h => rfl
  | 36, h => rfl
  | 37, h => rfl
  | 38, h => rfl
  | n + 39, h => rfl
theorem gL_sLA_ne {S : St} {f j : Nat} {v : Nat → Int64} {f' j' : Nat} (h : ¬ (own f' = own f ∧ j' = j)) (i' : Nat) : gL (sLA S f j v) f' j' i' = gL S f' j' i' := by
  rw [gL_sLA, if_neg]
  rintro ⟨rfl, rfl⟩
  exact h ⟨rfl, rfl⟩
theorem ent_sLA {G : v_G} {S : St} {f j : Nat} {v : Nat → Int64} {kd j' : Nat} (h : ¬ (kd = own f ∧ j' = j)) : ent G (sLA S f j v) kd j' = ent G S kd j' := by
  match kd, h with
  | 0, h => rfl
  | 1, h => rfl
  | 2, h => rfl
  | 3, h => rfl
  | 4, h => rfl
  | 5, h =>
    have e := fun (f' : Nat) (hf : own f' = 5) => gL_sLA_ne (S := S) (v := v) (f' := f') (show ¬ (own f' = own f ∧ j' = j) from hf ▸ h)
    simp only [ent, e 402 rfl, gI_sL, gI_sLA, gI_sR, gL_sI, gL_sIA, gL_sR, gR_sI, gR_sIA, gR_sL, gR_sLA]
  | 6, h => rfl
  | 7, h => rfl
  | 8, h => rfl
  | 9, h => rfl
  | 10, h => rfl
  | 11, h =>
    have e := fun (f' : Nat) (hf : own f' = 11) => gL_sLA_ne (S := S) (v := v) (f' := f') (show ¬ (own f' = own f ∧ j' = j) from hf ▸ h)
    simp only [ent, e 201 rfl, gI_sL, gI_sLA, gI_sR, gL_sI, gL_sIA, gL_sR, gR_sI, gR_sIA, gR_sL, gR_sLA]
  | 12, h => rfl
  | 13, h => rfl
  | 14, h => rfl
  | 15, h => rfl
  | 16, h => rfl
  | 17, h => rfl
  | 18, h => rfl
  | 19, h => rfl
  | 20, h => rfl
  | 21, h => rfl
  | 22, h => rfl
  | 23, h => rfl
  | 24, h => rfl
  | 25, h => rfl
  | 26, h =>
    have e := fun (f' : Nat) (hf : own f' = 26) => gL_sLA_ne (S := S) (v := v) (f' := f') (show ¬ (own f' = own f ∧ j' = j) from hf ▸ h)
    simp only [ent, e 1011 rfl, gI_sL, gI_sLA, gI_sR, gL_sI, gL_sIA, gL_sR, gR_sI, gR_sIA, gR_sL, gR_sLA]
  | 27, h => rfl
  | 28, h => rfl
  | 29, h => rfl
  | 30, h => rfl
  | 31, h => rfl
  | 32, h => rfl
  | 33, h =>
    have e := fun (f' : Nat) (hf : own f' = 33) => gL_sLA_ne (S := S) (v := v) (f' := f') (show ¬ (own f' = own f ∧ j' = j) from hf ▸ h)
    simp only [ent, e 1021 rfl, gI_sL, gI_sLA, gI_sR, gL_sI, gL_sIA, gL_sR, gR_sI, gR_sIA, gR_sL, gR_sLA]
  | 34, h => rfl
  | 35, h => rfl
  | 36, h => rfl
  | 37, h => rfl
  | 38, h => rfl
  | n + 39, h => rfl
theorem gR_sR_ne {S : St} {f j i : Nat} {v : Nat} {f' j' : Nat} (h : ¬ (own f' = own f ∧ j' = j)) (i' : Nat) : gR (sR S f j i v) f' j' i' = gR S f' j' i' := by
  rw [gR_sR, if_neg]
  rintro ⟨rfl, rfl, -⟩
  exact h ⟨rfl, rfl⟩
theorem ent_sR {G : v_G} {S : St} {f j i : Nat} {v : Nat} {kd j' : Nat} (h : ¬ (kd = own f ∧ j' = j)) : ent G (sR S f j i v) kd j' = ent G S kd j' := by
  match kd, h with
  | 0, h => rfl
  | 1, h => rfl
  | 2, h => rfl
  | 3, h => rfl
  | 4, h => rfl
  | 5, h => rfl
  | 6, h => rfl
  | 7, h => rfl
  | 8, h =>
    have e := fun (f' : Nat) (hf : own f' = 8) => gR_sR_ne (S := S) (v := v) (i := i) (f' := f') (show ¬ (own f' = own f ∧ j' = j) from hf ▸ h)
    simp only [ent, e 807 rfl, gI_sL, gI_sLA, gI_sR, gL_sI, gL_sIA, gL_sR, gR_sI, gR_sIA, gR_sL, gR_sLA]
  | 9, h => rfl
  | 10, h =>
    have e := fun (f' : Nat) (hf : own f' = 10) => gR_sR_ne (S := S) (v := v) (i := i) (f' := f') (show ¬ (own f' = own f ∧ j' = j) from hf ▸ h)
    simp only [ent, e 202 rfl, gI_sL, gI_sLA, gI_sR, gL_sI, gL_sIA, gL_sR, gR_sI, gR_sIA, gR_sL, gR_sLA]
  | 11, h => rfl
  | 12, h => rfl
  | 13, h => rfl
  | 14, h => rfl
  | 15, h => rfl
  | 16, h => rfl
  | 17, h => rfl
  | 18, h => rfl
  | 19, h => rfl
  | 20, h => rfl
  | 21, h => rfl
  | 22, h => rfl
  | 23, h =>
    have e := fun (f' : Nat) (hf : own f' = 23) => gR_sR_ne (S := S) (v := v) (i := i) (f' := f') (show ¬ (own f' = own f ∧ j' = j) from hf ▸ h)
    simp only [ent, e 110 rfl, e 111 rfl, gI_sL, gI_sLA, gI_sR, gL_sI, gL_sIA, gL_sR, gR_sI, gR_sIA, gR_sL, gR_sLA]
  | 24, h => rfl
  | 25, h => rfl
  | 26, h => rfl
  | 27, h => rfl
  | 28, h => rfl
  | 29, h => rfl
  | 30, h => rfl
  | 31, h => rfl
  | 32, h => rfl
  | 33, h => rfl
  | 34, h => rfl
  | 35, h => rfl
  | 36, h => rfl
  | 37, h => rfl
  | 38, h => rfl
  | n + 39, h => rfl
theorem lk_RolledOut : lkL[0]? = some (0, 0) := by decide +kernel
theorem lk_World : ∀ j, j < 2 → lkL[1 + 129 * j]? = some (1, j) := by decide +kernel
theorem lk_Sheet : ∀ j, j < 66 → lkL[so j]? = some (2, j) := by decide +kernel
theorem lk_cells : ∀ j, j < 66 → lkL[so j + 1]? = some (3, j) := by decide +kernel
theorem lk_homes : ∀ j, j < 66 → lkL[so j + 2]? = some (4, j) := by decide +kernel
theorem lk_book : ∀ j, j < 66 → lkL[so j + 3]? = some (5, j) := by decide +kernel
theorem lk_steps : ∀ j, j < 2 → lkL[6 + 129 * j]? = some (6, j) := by decide +kernel
theorem lk_strengths : ∀ j, j < 2 → lkL[7 + 129 * j]? = some (7, j) := by decide +kernel
theorem lk_texts : ∀ j, j < 2 → lkL[8 + 129 * j]? = some (8, j) := by decide +kernel
theorem lk_said : ∀ j, j < 2 → lkL[9 + 129 * j]? = some (9, j) := by decide +kernel
theorem lk_Rules : lkL[259]? = some (10, 0) := by decide +kernel
theorem lk_stack : lkL[260]? = some (11, 0) := by decide +kernel
theorem lk_Trials : lkL[261]? = some (12, 0) := by decide +kernel
theorem lk_tries : lkL[262]? = some (13, 0) := by decide +kernel
theorem lk_found : lkL[263]? = some (14, 0) := by decide +kernel
theorem lk_Shape : lkL[280]? = some (15, 0) := by decide +kernel
theorem lk_row : lkL[281]? = some (16, 0) := by decide +kernel
theorem lk_table : lkL[282]? = some (17, 0) := by decide +kernel
theorem lk_Tape : lkL[283]? = some (18, 0) := by decide +kernel
theorem lk_bytes : lkL[284]? = some (19, 0) := by decide +kernel
theorem lk_kinds : lkL[285]? = some (20, 0) := by decide +kernel
theorem lk_places : lkL[286]? = some (21, 0) := by decide +kernel
theorem lk_numbers : lkL[287]? = some (22, 0) := by decide +kernel
theorem lk_Reader : lkL[288]? = some (23, 0) := by decide +kernel
theorem lk_clauses : lkL[289]? = some (24, 0) := by decide +kernel
theorem lk_lawbuf : lkL[290]? = some (25, 0) := by decide +kernel
theorem lk_Model : lkL[291]? = some (26, 0) := by decide +kernel
theorem lk_ma : lkL[292]? = some (27, 0) := by decide +kernel
theorem lk_mimage : lkL[293]? = some (28, 0) := by decide +kernel
theorem lk_mtexts : lkL[294]? = some (29, 0) := by decide +kernel
theorem lk_mtape : lkL[295]? = some (30, 0) := by decide +kernel
theorem lk_pile : lkL[296]? = some (31, 0) := by decide +kernel
theorem lk_named : lkL[297]? = some (32, 0) := by decide +kernel
theorem lk_values : lkL[298]? = some (33, 0) := by decide +kernel
theorem lk_truth : lkL[299]? = some (34, 0) := by decide +kernel
theorem lk_aside : lkL[300]? = some (35, 0) := by decide +kernel
theorem lk_rises : lkL[301]? = some (36, 0) := by decide +kernel
theorem lk_games : lkL[302]? = some (37, 0) := by decide +kernel
theorem lk_covers : lkL[303]? = some (38, 0) := by decide +kernel
