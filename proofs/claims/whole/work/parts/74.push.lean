/-! A STROKE of the class on any sheet. -/
theorem ll_shl32 {a : Nat} : ll a <<< ((32 : Int32).toInt64 &&& 63) = ll (a * 4294967296) := by
  apply Int64.toBitVec_inj.mp
  rw [Int64.toBitVec_shiftLeft, show (((32 : Int32).toInt64 &&& 63).toBitVec.smod 64) = BitVec.ofNat 64 32 from by decide]
  show BitVec.ofNat 64 a <<< 32 = BitVec.ofNat 64 (a * 4294967296)
  apply BitVec.eq_of_toNat_eq
  rw [BitVec.toNat_shiftLeft, BitVec.toNat_ofNat, BitVec.toNat_ofNat, Nat.shiftLeft_eq]
  omega
theorem ll_cat32 {a x : Nat} (hx : x < 4294967296) : (ll a <<< ((32 : Int32).toInt64 &&& 63)) ||| ll x = ll (a * 4294967296 + x) := by
  rw [ll_shl32, ll_or]
  congr 1
  have := Nat.shiftLeft_add_eq_or_of_lt (show x < 2 ^ 32 from hx) a
  rw [Nat.shiftLeft_eq] at this
  exact this.symm
theorem kk_ll (n : Nat) : kk n = ll n := Int64.ofInt_eq_ofNat
theorem kk_cat32 {a b : Int} (h : 0 ≤ a) (h2 : 0 ≤ b) (h3 : b < 4294967296) : (kk a <<< ((32 : Int32).toInt64 &&& 63)) ||| kk b = kk (a * 4294967296 + b) := by
  have e1 : kk a = ll a.toNat := by rw [← kk_ll, Int.toNat_of_nonneg h]
  have e2 : kk b = ll b.toNat := by rw [← kk_ll, Int.toNat_of_nonneg h2]
  rw [e1, e2, ll_cat32 (by omega), ← kk_ll]
  congr 1
  omega
def PUP (j0 : Nat) (f j : Nat) : Prop := (400 ≤ f ∧ f ≤ 408 ∧ j = j0) ∨ (200 ≤ f ∧ f ≤ 205)
theorem FX_clean {P : Nat → Nat → Prop} {S S1 : St} (h : FX P S S1) {f j : Nat} (p : ¬ P f j) : (∀ i, gI S1 f j i = gI S f j i) := fun i => h.1 f j i p
theorem q_tearing {S : St} {j N : Nat} {r : Int → Int} {em et : Sem} {c : Int} (hN : 4000 < N) (hj : j < 66) (h1 : 0 ≤ c) (h2 : c < 12) (hR : RB r) (hL : LAY S j r) (hC : CLW S em et) : ∃ S', f_X2_tearing N j S (jj c) = some (jj (trr et r c), S') ∧ FX (fun f _ => 200 ≤ f ∧ f ≤ 205) S S' := by
  obtain ⟨-, lw, hlw, hE⟩ := hC
  unfold f_X2_tearing
  rw [bnd_of hlw]
  cases et with
  | none =>
    change gN S lw = some 0 at hE
    refine ⟨S, ?_, FX_refl _ _⟩
    rw [bnd_of hE]
    simp only [show (Int32.ofNat 0 = (0 : Int32)) from rfl, if_true]
    rfl
  | some E =>
    obtain ⟨n, arr, hA, hn0, hn1, hv⟩ := hE
    have hgN := gA_gN hA
    have hz : ¬ Int32.ofNat n = (0 : Int32) := by
      rw [nat_jj, jj_of, jj_eq (by omega) (by omega) (by omega) (by omega)]
      omega
    rw [bnd_of hgN]
    simp only [hz, if_false, lt]
    have hF : FX (fun f _ => 200 ≤ f ∧ f ≤ 205) S (sI (sR S 202 0 0 j) 204 0 0 (jj c)) := FX_sI (FX_sR (FX_refl _ _) (by omega)) (by omega)
    have g2 : gR (sI (sR S 202 0 0 j) 204 0 0 (jj c)) 202 0 0 = j := by simp [gR_sI, gR_sR]
    have g4 : gI (sI (sR S 202 0 0 j) 204 0 0 (jj c)) 204 0 0 = jj c := by simp [gI_sI]
    generalize sI (sR S 202 0 0 j) 204 0 0 (jj c) = S7 at hF g2 g4 ⊢
    have hL7 := FX_LAY hF (fun f a b => by omega) hL
    obtain ⟨b1, b2, S8, e8, hF8⟩ := hv S7 lw N (nmv r (fun _ => 0) 0 c 0) (fun i => r (11 + i)) hN ((FX_gA hF lw).trans hA) ⟨by rw [g2]; exact hj, by rw [g2]; exact hL7.1, fun k a b => named_4 hj h1 h2 hR hL7 g2 g4 k a b, fun k _ _ => nmv_b hR ⟨by decide, by decide⟩ ⟨by decide, by decide⟩ h1 h2 (Or.inl rfl) k, fun i a b => hR.1 i a b⟩
    refine ⟨S8, ?_, FX_trans hF (FX_sub hF8 (fun f _ q => by omega))⟩
    rw [bnd_of e8]
    rw [kk_of, kk_min (by omega) (by omega) (by omega) (by omega), kk_of]
    have : ∀ a : Int, -9000000000 ≤ a → a ≤ 9000000000 → (if kk a < kk 0 then kk 0 else kk a) = kk (if a < 0 then 0 else a) := by
      intro a p1 p2
      simp (disch := omega) only [kk_lt]
      by_cases q : a < 0
      · rw [if_pos q, if_pos q]
      · rw [if_neg q, if_neg q]
    rw [this _ (by split <;> omega) (by split <;> omega), kk_int]
    congr 3
    show _ = (if E (nmv r (fun _ => 0) 0 c 0) (fun i => r (11 + i)) < 0 then 0 else if 99 < E (nmv r (fun _ => 0) 0 c 0) (fun i => r (11 + i)) then 99 else E (nmv r (fun _ => 0) 0 c 0) (fun i => r (11 + i)))
    generalize E (nmv r (fun _ => 0) 0 c 0) (fun i => r (11 + i)) = z at *
    repeat' split
    all_goals omega
/-- towns that go along -/
def TWN (A : Int → Int) (c to : Int) : Int → Int := fun i => if 35 ≤ i ∧ i < 35 + A 1 ∧ i < 41 ∧ A i = c then to else A i
def dst (c rt : Int) : Int := if bsd c rt = -1 then 9 else 11 + bsd c rt
def ST2 (em : Sem) (sg A : Int → Int) (h c rt : Int) : Int → Int := UP (UP (if A (11 + c) < 2 * mvv em A sg h c rt then TWN A c (bsd c rt) else A) (11 + c) (A (11 + c) - mvv em A sg h c rt)) (dst c rt) (A (dst c rt) + mvv em A sg h c rt)
/-- a stroke, but the book -/
def STR (em et : Sem) (sg A : Int → Int) (h c rt : Int) : Int → Int := if A (23 + c) = 0 ∧ A (11 + c) - mvv em A sg h c rt < trr et (ST2 em sg A h c rt) c then UP (ST2 em sg A h c rt) (23 + c) 1 else ST2 em sg A h c rt
theorem mvv_b {em : Sem} {A sg : Int → Int} {h c rt : Int} (hR : RB A) (h1 : 0 ≤ c) (h2 : c < 12) : 0 ≤ mvv em A sg h c rt ∧ mvv em A sg h c rt ≤ A (11 + c) := by
  have := hR.1 c h1 h2
  exact AMT_b this.1 (by omega) (by omega)
theorem trr_b {et : Sem} {A : Int → Int} {c : Int} : 0 ≤ trr et A c ∧ trr et A c ≤ 99 := AMT_b (by decide) (by decide) (by decide)
theorem dst_b {c rt : Int} (h1 : 0 ≤ c) (h2 : c < 12) (hr : rt = 0 ∨ rt = 1) : 9 ≤ dst c rt ∧ dst c rt < 23 ∧ dst c rt ≠ 11 + c ∧ dst c rt ≠ 10 := by
  have := bsd_b h1 h2 hr
  unfold dst
  by_cases q : bsd c rt = -1
  · rw [if_pos q]; omega
  · rw [if_neg q]; omega
theorem ST2_at {em : Sem} {sg A : Int → Int} {h c rt : Int} (i : Int) (hi : i < 35) : ST2 em sg A h c rt i = if i = dst c rt then A (dst c rt) + mvv em A sg h c rt else if i = 11 + c then A (11 + c) - mvv em A sg h c rt else A i := by
  unfold ST2
  rw [UP_at, UP_at]
  have : (if A (11 + c) < 2 * mvv em A sg h c rt then TWN A c (bsd c rt) else A) i = A i := by
    by_cases q : A (11 + c) < 2 * mvv em A sg h c rt
    · rw [if_pos q]; exact if_neg (fun w => by omega)
    · rw [if_neg q]
  rw [this]
/-- sums when two cells change -/
theorem pre_UP {f : Int → Int} {k v : Int} (h : 0 ≤ k) : ∀ m : Nat, pre (UP f k v) m = pre f m + (if k < m then v - f k else 0) := by
  intro m
  induction m with
  | zero => show (0 : Int) = 0 + _; rw [if_neg (by omega)]; rfl
  | succ m ih =>
    show pre (UP f k v) m + UP f k v m = pre f m + f m + _
    rw [ih, UP_at]
    by_cases q : k < m
    · rw [if_pos q, if_neg (by omega), if_pos (by omega)]; omega
    · rw [if_neg q]
      by_cases q2 : (m : Int) = k
      · rw [if_pos q2, if_pos (by omega), q2]; omega
      · rw [if_neg q2, if_neg (by omega)]; omega
theorem ST2_sum {em : Sem} {sg A : Int → Int} {h c rt : Int} (h1 : 0 ≤ c) (h2 : c < 12) (hr : rt = 0 ∨ rt = 1) : pre (fun i => ST2 em sg A h c rt (11 + i)) 12 + ST2 em sg A h c rt 9 = pre (fun i => A (11 + i)) 12 + A 9 := by
  have hd := dst_b h1 h2 hr
  by_cases q : bsd c rt = -1
  · have ed : dst c rt = 9 := if_pos q
    have e0 : pre (fun i => ST2 em sg A h c rt (11 + i)) 12 = pre (UP (fun i => A (11 + i)) c (A (11 + c) - mvv em A sg h c rt)) 12 := by
      refine pre_ext 12 (fun i a b => ?_)
      rw [ST2_at _ (by omega), ed, UP_at, if_neg (by omega)]
      by_cases w : i = c
      · subst w; rw [if_pos rfl, if_pos rfl]
      · rw [if_neg (by omega), if_neg w]
    rw [e0, pre_UP h1, if_pos (by omega), ST2_at _ (by omega), ed, if_pos rfl]
    omega
  · have ed : dst c rt = 11 + bsd c rt := if_neg q
    have hb := bsd_b h1 h2 hr
    have e0 : pre (fun i => ST2 em sg A h c rt (11 + i)) 12 = pre (UP (UP (fun i => A (11 + i)) c (A (11 + c) - mvv em A sg h c rt)) (bsd c rt) (A (11 + bsd c rt) + mvv em A sg h c rt)) 12 := by
      refine pre_ext 12 (fun i a b => ?_)
      rw [ST2_at _ (by omega), ed, UP_at, UP_at]
      by_cases w : i = bsd c rt
      · subst w; rw [if_pos rfl, if_pos rfl]
      · rw [if_neg (by omega), if_neg w]
        by_cases w2 : i = c
        · subst w2; rw [if_pos rfl, if_pos rfl]
        · rw [if_neg (by omega), if_neg w2]
    rw [e0, pre_UP (by omega), pre_UP h1, if_pos (by omega), if_pos (by omega), UP_ne hb.2.2, ST2_at _ (by omega), if_neg (by omega), if_neg (by omega)]
    omega
theorem ST2_RB {em : Sem} {sg A : Int → Int} {h c rt : Int} (hR : RB A) (hM : pre (fun i => A (11 + i)) 12 + A 9 ≤ 100000000) (h1 : 0 ≤ c) (h2 : c < 12) (hr : rt = 0 ∨ rt = 1) : RB (ST2 em sg A h c rt) := by
  have hs := ST2_sum (em := em) (sg := sg) (A := A) (h := h) h1 h2 hr
  have hm := mvv_b (em := em) (sg := sg) (h := h) (rt := rt) hR h1 h2
  have hd := dst_b h1 h2 hr
  have hc := hR.1 c h1 h2
  have p0 : ∀ i, 0 ≤ i → i < 12 → 0 ≤ ST2 em sg A h c rt (11 + i) := by
    intro i a b
    have := hR.1 i a b
    rw [ST2_at _ (by omega)]
    by_cases w : 11 + i = dst c rt
    · rw [if_pos w, ← w]; omega
    · rw [if_neg w]
      by_cases w2 : 11 + i = 11 + c
      · rw [if_pos w2]; omega
      · rw [if_neg w2]; omega
  have p9 : 0 ≤ ST2 em sg A h c rt 9 := by
    have := hR.2.2.1
    rw [ST2_at _ (by omega)]
    by_cases w : 9 = dst c rt
    · rw [if_pos w, ← w]; omega
    · rw [if_neg w, if_neg (by omega)]; omega
  have := pre_pos (f := fun i => ST2 em sg A h c rt (11 + i)) 12 (fun i a b => p0 i a (by omega))
  refine ⟨fun i a b => ⟨p0 i a b, ?_⟩, fun i a b => ?_, p9, by omega, ?_, ?_⟩
  · have := this.2 i a (by omega)
    omega
  · rw [ST2_at _ (by omega), if_neg (by omega), if_neg (by omega)]; exact hR.2.1 i a b
  · rw [ST2_at _ (by omega), if_neg (by omega), if_neg (by omega)]; exact hR.2.2.2.2.1
  · rw [ST2_at _ (by omega), if_neg (by omega), if_neg (by omega)]; exact hR.2.2.2.2.2
