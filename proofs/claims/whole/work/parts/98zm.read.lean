/-! THE READER of the class over tokens: small things; what comes out of reading. -/
def CTK (K : Ks) (S : St) : Prop := gI S 505 0 0 = jj (K.2.2.2.1 : Nat) ∧ ∀ j : Nat, j < K.2.2.2.1 → gI S 502 0 j = jj (K.1 j) ∧ gI S 503 0 j = jj (K.2.2.1 j) ∧ gI S 504 0 j = jj (K.2.1 j)
def TS (K : Ks) : Prop := 1 ≤ K.2.2.2.1 ∧ K.2.2.2.1 ≤ 301 ∧ K.1 (K.2.2.2.1 - 1) = 40 ∧ (∀ j : Nat, j + 1 < K.2.2.2.1 → K.1 j ≠ 40) ∧ (∀ j : Nat, 0 ≤ K.1 j ∧ K.1 j ≤ 41) ∧ (∀ j : Nat, 0 ≤ K.2.1 j ∧ K.2.1 j ≤ 10000) ∧ (K.2.2.2.2 = 0 ∨ K.2.2.2.2 = 1)
def mk8 (K : Ks) : Int := if K.2.2.2.2 = 0 then 8 else 4
def CT (K : Ks) (S : St) (i p : Nat) : Prop := CTK K S ∧ i < K.2.2.2.1 ∧ gI S 104 0 0 = jj i ∧ gI S 105 0 0 = jj (K.1 i) ∧ gI S 109 0 0 = jj p
def CPF (f _j : Nat) : Prop := (102 ≤ f ∧ f ≤ 105) ∨ f = 108 ∨ f = 109
def CPG (f _j : Nat) : Prop := f = 104 ∨ f = 105 ∨ f = 108 ∨ f = 109
theorem CPG_F {S S1 : St} (h : FX CPG S S1) : FX CPF S S1 := FX_sub h (fun f j q => by unfold CPG at q; unfold CPF; omega)
theorem CTK_FX {K : Ks} {S S' : St} (h : FX CPG S S') (hK : CTK K S) : CTK K S' := ⟨(h.1 505 0 0 (by unfold CPG; omega)).trans hK.1, fun j hj => by
  obtain ⟨a, b, c⟩ := hK.2 j hj
  exact ⟨(h.1 502 0 _ (by unfold CPG; omega)).trans a, (h.1 503 0 _ (by unfold CPG; omega)).trans b, (h.1 504 0 _ (by unfold CPG; omega)).trans c⟩⟩
theorem TS_next {K : Ks} {i : Nat} (hT : TS K) (h : i < K.2.2.2.1) (h2 : K.1 i ≠ 40) : i + 1 < K.2.2.2.1 := by
  obtain ⟨t1, t2, t3, -⟩ := hT
  by_cases q : i + 1 < K.2.2.2.1
  · exact q
  · exact absurd (by rw [show i = K.2.2.2.1 - 1 by omega]; exact t3) h2
theorem c_adv {K : Ks} {S : St} {i p : Nat} (hT : TS K) (hC : CT K S i p) (h : K.1 i ≠ 40) : ∃ S', f_X1_advance S = some S' ∧ CT K S' (i + 1) p ∧ FX CPG S S' ∧ ∀ k, gI S' 108 0 k = gI S 108 0 k := by
  have hn := TS_next hT hC.2.1 h
  have nt := hT.2.1
  obtain ⟨hK, h1, h2, h3, h4⟩ := hC
  have F : FX CPG S (sI (sI S 104 0 0 (jj ((i + 1 : Nat) : Int))) 105 0 0 (jj (K.1 (i + 1)))) := FX_sI (FX_sI (FX_refl _ _) (by unfold CPG; omega)) (by unfold CPG; omega)
  refine ⟨_, ?_, ⟨CTK_FX F hK, hn, ?_, ?_, ?_⟩, F, fun k => ?_⟩
  · unfold f_X1_advance f_X1_advance_b26
    simp only [lt]
    rw [h2, hK.1, show jj (i : Int) + (1 : Int32) = jj ((i + 1 : Nat) : Int) from jn_add i 1, if_neg (show ¬ jj (K.2.2.2.1 : Nat) ≤ jj ((i + 1 : Nat) : Int) by rw [jj_le (by omega) (by omega) (by omega) (by omega)]; omega), show gI (sI S 104 0 0 (jj ((i + 1 : Nat) : Int))) 104 0 0 = jj ((i + 1 : Nat) : Int) from by rw [gI_sI, if_pos ⟨rfl, rfl, rfl⟩], chk_true (jj_inb (by omega) (by omega) (by omega)), jj_nat (by omega) (by omega), Int.toNat_natCast, show gI (sI S 104 0 0 (jj ((i + 1 : Nat) : Int))) 502 0 (i + 1) = jj (K.1 (i + 1)) from by rw [gI_sI, if_neg (by omega)]; exact (hK.2 (i + 1) hn).1]
  · rw [gI_sI, if_neg (by omega), gI_sI, if_pos ⟨rfl, rfl, rfl⟩]
  · rw [gI_sI, if_pos ⟨rfl, rfl, rfl⟩]
  · rw [gI_sI, if_neg (by omega), gI_sI, if_neg (by omega)]; exact h4
  · rw [gI_sI, if_neg (by omega), gI_sI, if_neg (by omega)]
def FLC (K : Ks) (S S' : St) (f : Int) (j : Nat) : Prop := gI S' 102 0 0 = jj f ∧ gI S' 103 0 0 = jj (K.2.2.1 j) ∧ FX CPF S S' ∧ j < K.2.2.2.1 ∧ 1 ≤ f ∧ f ≤ 6 ∧ ∃ p' : Nat, gI S' 109 0 0 = jj p' ∧ p' ≤ 300
theorem FLC_trans {K : Ks} {S S1 S' : St} {f : Int} {j : Nat} (h : FX CPG S S1) (h2 : FLC K S1 S' f j) : FLC K S S' f j := ⟨h2.1, h2.2.1, FX_trans (CPG_F h) h2.2.2.1, h2.2.2.2⟩
theorem c_fault {K : Ks} {S : St} {i p : Nat} {f : Int} (hT : TS K) (hC : CT K S i p) (hp : p < i) (f0 : 1 ≤ f) (f1 : f ≤ 6) : ∃ S', f_X1_faulty S (jj f) = some (0, S') ∧ FLC K S S' f i := by
  have nt := hT.2.1
  obtain ⟨hK, h1, h2, h3, h4⟩ := hC
  refine ⟨sI (sI S 102 0 0 (jj f)) 103 0 0 (jj (K.2.2.1 i)), ?_, ?_, ?_, FX_sI (FX_sI (FX_refl _ _) (by unfold CPF; omega)) (by unfold CPF; omega), h1, f0, f1, p, ?_, by omega⟩
  · unfold f_X1_faulty
    simp only [lt]
    rw [show gI (sI S 102 0 0 (jj f)) 104 0 0 = jj i from by rw [gI_sI, if_neg (by omega)]; exact h2, chk_true (jj_inb (by omega) (by omega) (by omega)), jj_nat (by omega) (by omega), Int.toNat_natCast, show gI (sI S 102 0 0 (jj f)) 503 0 i = jj (K.2.2.1 i) from by rw [gI_sI, if_neg (by omega)]; exact (hK.2 i h1).2.1]
  · rw [gI_sI, if_neg (by omega), gI_sI, if_pos ⟨rfl, rfl, rfl⟩]
  · rw [gI_sI, if_pos ⟨rfl, rfl, rfl⟩]
  · rw [gI_sI, if_neg (by omega), gI_sI, if_neg (by omega)]; exact h4
/-- a fault, where it is handed on -/
theorem c_faulty {K : Ks} {S : St} {i p : Nat} {f : Int} {x : Int32} (hT : TS K) (hC : CT K S i p) (hp : p < i) (e : x = jj f) (f0 : 1 ≤ f) (f1 : f ≤ 6) : ∃ S', (bnd (f_X1_faulty S x) fun q => chk (isz q.1) (some (q.1, q.2))) = some (0, S') ∧ FLC K S S' f i := by
  obtain ⟨S', e1, h⟩ := c_fault hT hC hp f0 f1
  refine ⟨S', ?_, h⟩
  rw [e, bnd_of e1]
  exact chk_true rfl
theorem c_takes1 {K : Ks} {S : St} {i p : Nat} {k : Int} (hT : TS K) (hC : CT K S i p) (h : K.1 i = k) (h40 : k ≠ 40) : ∃ S', f_X1_takes S (jj k) = some (1, S') ∧ CT K S' (i + 1) p ∧ FX CPG S S' ∧ ∀ k, gI S' 108 0 k = gI S 108 0 k := by
  obtain ⟨S', e, a, b, c⟩ := c_adv hT hC (by rw [h]; exact h40)
  refine ⟨S', ?_, a, b, c⟩
  unfold f_X1_takes
  rw [hC.2.2.2.1, h, if_pos rfl, bnd_of e]
theorem c_takes0 {K : Ks} {S : St} {i p : Nat} {k : Int} (hT : TS K) (hC : CT K S i p) (hp : p < i) (h : K.1 i ≠ k) (k0 : 0 ≤ k) (k1 : k ≤ 41) : ∃ S', f_X1_takes S (jj k) = some (0, S') ∧ FLC K S S' 1 i := by
  have b := hT.2.2.2.2.1 i
  obtain ⟨S', e, h2⟩ := c_faulty (x := 1) (f := 1) hT hC hp rfl (by decide) (by decide)
  refine ⟨S', ?_, h2⟩
  unfold f_X1_takes
  rw [hC.2.2.2.1, if_neg (show ¬ jj (K.1 i) = jj k by rw [jj_eq (by omega) (by omega) (by omega) (by omega)]; exact h)]
  exact e
theorem c_add {K : Ks} {S : St} {i p : Nat} {k g : Int} (hC : CT K S i p) (hp : p ≤ 299) : ∃ S', f_X1_add S (jj k) (jj g) = some S' ∧ CT K S' i (p + 1) ∧ FX CPG S S' ∧ (∀ n, n ≠ p → gI S' 108 0 n = gI S 108 0 n) ∧ gI S' 108 0 p = jj (g * 64 + k) := by
  obtain ⟨hK, h1, h2, h3, h4⟩ := hC
  have F : FX CPG S (sI (sI S 108 0 p (jj (g * 64 + k))) 109 0 0 (jj ((p + 1 : Nat) : Int))) := FX_sI (FX_sI (FX_refl _ _) (by unfold CPG; omega)) (by unfold CPG; omega)
  refine ⟨_, ?_, ⟨CTK_FX F hK, h1, ?_, ?_, ?_⟩, F, fun n hn => ?_, ?_⟩
  · unfold f_X1_add
    simp only [lt]
    rw [h4, if_neg (show ¬ (300 : Int32) ≤ jj p by rw [show (300 : Int32) = jj 300 from rfl, jj_le (by decide) (by decide) (by omega) (by omega)]; omega), chk_true (jj_inb (by omega) (by omega) (by omega)), jj_nat (by omega) (by omega), Int.toNat_natCast, show jj g * (64 : Int32) + jj k = jj (g * 64 + k) from by rw [show (64 : Int32) = jj 64 from rfl, jj_mul, jj_add], show gI (sI S 108 0 p (jj (g * 64 + k))) 109 0 0 = jj p from by rw [gI_sI, if_neg (by omega)]; exact h4, show jj (p : Int) + (1 : Int32) = jj ((p + 1 : Nat) : Int) from jn_add p 1]
  · rw [gI_sI, if_neg (by omega), gI_sI, if_neg (by omega)]; exact h2
  · rw [gI_sI, if_neg (by omega), gI_sI, if_neg (by omega)]; exact h3
  · rw [gI_sI, if_pos ⟨rfl, rfl, rfl⟩]
  · rw [gI_sI, if_neg (by omega), gI_sI, if_neg (by omega)]
  · rw [gI_sI, if_neg (by omega), gI_sI, if_pos ⟨rfl, rfl, rfl⟩]
theorem c_add_fl {K : Ks} {S S1 : St} {x y : Int32} {f : Int} {j : Nat} (h : FLC K S S1 f j) : ∃ S', f_X1_add S1 x y = some S' ∧ FLC K S S' f j := by
  obtain ⟨h1, h2, h3, h4, h5, h6, p, h7, h8⟩ := h
  unfold f_X1_add
  simp only [lt]
  rw [h7]
  by_cases q : p < 300
  · rw [if_neg (show ¬ (300 : Int32) ≤ jj p by rw [show (300 : Int32) = jj 300 from rfl, jj_le (by decide) (by decide) (by omega) (by omega)]; omega), chk_true (jj_inb (by omega) (by omega) (by omega))]
    refine ⟨_, rfl, ?_, ?_, FX_sI (FX_sI h3 (by unfold CPF; omega)) (by unfold CPF; omega), h4, h5, h6, p + 1, ?_, by omega⟩
    · rw [gI_sI, if_neg (by omega), gI_sI, if_neg (by omega)]; exact h1
    · rw [gI_sI, if_neg (by omega), gI_sI, if_neg (by omega)]; exact h2
    · rw [gI_sI, if_pos ⟨rfl, rfl, rfl⟩, gI_sI, if_neg (by omega), h7]
      exact jn_add p 1
  · rw [if_pos (show (300 : Int32) ≤ jj p by rw [show (300 : Int32) = jj 300 from rfl, jj_le (by decide) (by decide) (by omega) (by omega)]; omega)]
    exact ⟨S1, rfl, h1, h2, h3, h4, h5, h6, p, h7, h8⟩
theorem c_land {K : Ks} {S : St} {i p q : Nat} {k : Int} (hC : CT K S i p) (hq : q < 300) : ∃ S', f_X1_land S (jj q) (jj k) = some S' ∧ CT K S' i p ∧ FX CPG S S' ∧ (∀ n, n ≠ q → gI S' 108 0 n = gI S 108 0 n) ∧ gI S' 108 0 q = jj ((p : Int) * 64 + k) := by
  obtain ⟨hK, h1, h2, h3, h4⟩ := hC
  have F : FX CPG S (sI S 108 0 q (jj ((p : Int) * 64 + k))) := FX_sI (FX_refl _ _) (by unfold CPG; omega)
  refine ⟨_, ?_, ⟨CTK_FX F hK, h1, ?_, ?_, ?_⟩, F, fun n hn => ?_, ?_⟩
  · unfold f_X1_land
    simp only [lt]
    rw [h4, if_neg (show ¬ (300 : Int32) ≤ jj q by rw [show (300 : Int32) = jj 300 from rfl, jj_le (by decide) (by decide) (by omega) (by omega)]; omega), chk_true (jj_inb (by omega) (by omega) (by omega)), jj_nat (by omega) (by omega), Int.toNat_natCast, show jj (p : Int) * (64 : Int32) + jj k = jj ((p : Int) * 64 + k) from by rw [show (64 : Int32) = jj 64 from rfl, jj_mul, jj_add]]
  · rw [gI_sI, if_neg (by omega)]; exact h2
  · rw [gI_sI, if_neg (by omega)]; exact h3
  · rw [gI_sI, if_neg (by omega)]; exact h4
  · rw [gI_sI, if_neg (by omega)]
  · rw [gI_sI, if_pos ⟨rfl, rfl, rfl⟩]
/-- read: from token i to j, code from p to q -/
def OKC (K : Ks) (S S' : St) (i p j q d : Nat) (E : Sm) : Prop := CT K S' j q ∧ i < j ∧ p < q ∧ q + i ≤ p + j ∧ FX CPG S S' ∧ (∀ k, k < p → gI S' 108 0 k = gI S 108 0 k) ∧ SEG (mk8 K) (fun k => gI S' 108 0 k) p q d E
def OUT (K : Ks) (S : St) (i p d : Nat) (RF : Int → Nat → Prop) (RO : Nat → Sm → Prop) (r : Int32 × St) : Prop := (r.1 = 0 ∧ ∃ f j, FLC K S r.2 f j ∧ RF f j) ∨ (r.1 = 1 ∧ ∃ j q E, OKC K S r.2 i p j q d E ∧ RO j E)
def CX (P : List Int) (o c : Nat) : Prop := P.length + 6 * (8 - o) + c ≤ 100 ∧ o ≤ 8
def C21 (K : Ks) (i : Nat) (P : List Int) : Prop := K.1 i ≠ 21 ∨ ahd P = 0
def RF1 (K : Ks) (o i : Nat) (f : Int) (j : Nat) : Prop := ∀ P D, CX P o 0 → C21 K i P → FT K (P, D, (o : Int)) 0 i f j
def RO1 (K : Ks) (o i j : Nat) (E : Sm) : Prop := BV (mk8 K) E ∧ ∀ P D, CX P o 0 → C21 K i P → ∃ D1, SM D1 E ∧ GO K (P, D, (o : Int)) 0 i (stl 7 P (D ++ D1) (o : Int)) 1 j
def RFv (K : Ks) (c : Int) (e o i : Nat) (f : Int) (j : Nat) : Prop := ∀ P D, CX P o e → CR P c → C21 K i P → FT K (P, D, (o : Int)) 0 i f j
def ROv (K : Ks) (c a : Int) (e o i j : Nat) (E : Sm) : Prop := BV (mk8 K) E ∧ ∀ P D, CX P o e → CR P c → C21 K i P → ∃ D1 Q, bin a Q ∧ SM (D1 ++ zs Q) E ∧ GO K (P, D, (o : Int)) 0 i (Q ++ P, D ++ D1, (o : Int)) 1 j
def RO2 (K : Ks) (o i j : Nat) (E : Sm) : Prop := ROv K 5 8 1 o i j E ∧ K.1 j ≠ 34 ∧ K.1 j ≠ 35
def RO0 (K : Ks) (o i j : Nat) (E : Sm) : Prop := ROv K 4 6 2 o i j E ∧ K.1 j ≠ 34 ∧ K.1 j ≠ 35 ∧ K.1 j ≠ 32 ∧ K.1 j ≠ 33
def RFb (K : Ks) (c : Int) (e o i : Nat) (f : Int) (j : Nat) : Prop := ∀ P D, CX P o e → ahd P = 1 → CR P c → FT K (P, D, (o : Int)) 0 i f j
def ROb (K : Ks) (c a : Int) (e o i j : Nat) (E : Sm) : Prop := BT (mk8 K) E ∧ (K.1 j ≠ 34 ∧ K.1 j ≠ 35 ∧ K.1 j ≠ 32 ∧ K.1 j ≠ 33) ∧ ∀ P D, CX P o e → ahd P = 1 → CR P c → ∃ D1 Q, (∀ x ∈ Q, a ≤ rk x) ∧ cmpd (Q ++ P) = 1 ∧ SB (D1 ++ zs Q) E ∧ GO K (P, D, (o : Int)) 0 i (Q ++ P, D ++ D1, (o : Int) + nots Q) 1 j
def RO6 (K : Ks) (o i j : Nat) (E : Sm) : Prop := ROb K 3 3 3 o i j E
def RO5 (K : Ks) (o i j : Nat) (E : Sm) : Prop := ROb K 1 2 4 o i j E ∧ K.1 j ≠ 25
def RO4 (K : Ks) (o i j : Nat) (E : Sm) : Prop := ROb K 0 1 5 o i j E ∧ K.1 j ≠ 25 ∧ K.1 j ≠ 24
def RF3 (K : Ks) (o i : Nat) (f : Int) (j : Nat) : Prop := ∀ P D, CX (41 :: P) o 5 → FT K (41 :: P, D, (o : Int)) 0 i f j
def RO3 (K : Ks) (o i j : Nat) (E : Sm) : Prop := BV (mk8 K) E ∧ ∀ P D, CX (41 :: P) o 5 → ∃ D1, SM D1 E ∧ GO K (41 :: P, D, (o : Int)) 0 i (stl 7 P (D ++ D1) ((o : Int) - 1)) 1 j
/-! tops of piles -/
theorem rk_op {x : Int} (h : 40 ≤ x) : rk x = 0 := if_pos h
theorem rk_lt {x : Int} (h : 1 ≤ rk x) : x < 40 := by
  by_cases q : 40 ≤ x
  · rw [rk_op q] at h; exact absurd h (by decide)
  · omega
theorem CR_cons {x m : Int} {P : List Int} (h : rk x ≤ m) : CR (x :: P) m := fun y P' e => by
  have := (List.cons.inj e).1
  rw [← this]; exact h
theorem CR_mono {P : List Int} {m m' : Int} (h : CR P m) (h2 : m ≤ m') : CR P m' := fun y P' e => by have := h y P' e; omega
theorem opn_lo {x : Int} {P : List Int} (h : 1 ≤ rk x) : opn (x :: P) = opn P := if_neg (by have := rk_lt h; omega)
theorem opn_op {x : Int} {P : List Int} (h : 40 ≤ x) : opn (x :: P) = x := if_pos h
theorem ahd_cons {x : Int} {P : List Int} : ahd (x :: P) = if opn (x :: P) = 41 then (if 40 ≤ x then 1 else if 1 ≤ rk x ∧ rk x ≤ 3 then 1 else 0) else 0 := rfl
theorem cmpd_cons {x : Int} {P : List Int} : cmpd (x :: P) = if 4 < rk x then cmpd P else if rk x = 4 then 1 else 0 := rfl
theorem ahd_hi {x : Int} {P : List Int} (h : 4 ≤ rk x) : ahd (x :: P) = 0 := by
  have := rk_lt (show 1 ≤ rk x by omega)
  rw [ahd_cons]
  by_cases q : opn (x :: P) = 41
  · rw [if_pos q, if_neg (by omega), if_neg (by omega)]
  · rw [if_neg q]
theorem ahd_op {x : Int} {P : List Int} (h : 40 ≤ x) (h2 : x ≠ 41) : ahd (x :: P) = 0 := by
  rw [ahd_cons]
  rw [opn_op h, if_neg h2]
theorem ahd_41 {P : List Int} : ahd (41 :: P) = 1 := by
  rw [ahd_cons]
  rw [opn_op (by decide), if_pos rfl, if_pos (by decide)]
theorem ahd_lo {x : Int} {P : List Int} (h : 1 ≤ rk x) (h2 : rk x ≤ 3) (h3 : opn P = 41) : ahd (x :: P) = 1 := by
  have := rk_lt h
  rw [ahd_cons]
  rw [opn_lo h, if_pos h3, if_neg (by omega), if_pos ⟨h, h2⟩]
theorem ahd_opn {P : List Int} (h : ahd P = 1) : opn P = 41 := by
  cases P with
  | nil => exact absurd h (by decide)
  | cons x P =>
    rw [ahd_cons] at h
    by_cases q : opn (x :: P) = 41
    · exact q
    · rw [if_neg q] at h; exact absurd h (by decide)
theorem ahd_cmpd {P : List Int} (h : ahd P = 1) : cmpd P = 0 := by
  cases P with
  | nil => rfl
  | cons x P =>
    rw [ahd_cons] at h
    rw [cmpd_cons]
    by_cases q : opn (x :: P) = 41
    · rw [if_pos q] at h
      by_cases z : 40 ≤ x
      · rw [rk_op z]; rfl
      · rw [if_neg z] at h
        by_cases y : 1 ≤ rk x ∧ rk x ≤ 3
        · rw [if_neg (by omega), if_neg (by omega)]
        · rw [if_neg y] at h; exact absurd h (by decide)
    · rw [if_neg q] at h; exact absurd h (by decide)
theorem zs_app (Q R : List Int) : zs (Q ++ R) = zs Q ++ zs R := List.map_append ..
theorem nots_app (R : List Int) : ∀ Q : List Int, nots (Q ++ R) = nots Q + nots R := by
  intro Q
  induction Q with
  | nil => show nots R = 0 + nots R; omega
  | cons x Q ih => show cnq x + nots (Q ++ R) = cnq x + nots Q + nots R; rw [ih]; omega
