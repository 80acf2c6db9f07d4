/-! The JDK's own methods on the text of words; Arrays.copyOf; a text's constructor. -/
def wchN (k : Nat) : Int32 := (((v_words.getD k 0) &&& 255).toUInt32 % 65536).toInt32
def wch (i : Int32) : Int32 := wchN i.toNatClampNeg
theorem wchN_ok : ∀ k, k < 130 → narrow .char (.int (wchN k)) = .int (wchN k) := by decide +kernel
theorem wch_ok {i : Int32} (h : vp_in i 130) : narrow .char (.int (wch i)) = .int (wch i) := wchN_ok _ (Nat.not_le.mp fun q => h (Or.inr q))
section VSTR
variable {l : Launch} {G : v_G} {y : MethodName} {cc : ByteArray} {nL : Nat} {ret : Option FieldType} {R : Room} {Qr : Option Value → v_H → Prop} {cells slots pc : Nat} {lv : List (Nat × Value)} {st st0 : List Value} {h h2 : v_H}
variable {y2 : MethodName} {cc2 : ByteArray} {nL2 : Nat} {ret2 : Option FieldType} {d2 k2 n2 : Nat} {Qr2 : Option Value → v_H → Prop} {index nA : Nat}
theorem v_callStr {As : List Value} (hM : v_M l G y2 cc2 nL2 ret2 d2 k2 n2 (.ref (v_str G) :: As) h Qr2) (hd : decode cc pc = .ok (.invokevirtual index, 3)) (hY : v_YV y2 cc2 nL2 ret2 nA) (hlink : Cond.methodLink y.cls index y2 ∈ v_W) (hr : y2.cls = "java/lang/String") (hn : As.length = nA) (hst : st0 = As.reverse ++ .ref (v_str G) :: st) (hw : (st.map fun v => v.category).sum ≤ 8) (hrm : d2 + 1 ≤ R.frames ∧ 8 + (nL2 + 11) + 64 * d2 ≤ R.locals) (hf : cells + k2 ≤ R.cells ∧ slots + n2 ≤ R.slots)
    (kk : ∀ (v : Option Value) (h' : v_H), Qr2 v h' → V l G y cc nL ret R Qr (cells + k2) (slots + n2) (pc + 3) lv (v.toList ++ st) h') : V l G y cc nL ret R Qr cells slots pc lv st0 h := by
  intro p e s m args below meth c C0 H locs ls hR hS hl
  obtain ⟨hx, hb, hml, hrt, hlocks, hfc, hts, hK, hB, hnm⟩ := id C0
  obtain ⟨-, -, -, -, -, -, -, -, -, h10, -⟩ := id hK
  have hrec := vk_recv h10 (i := 0) (by decide) hS
  rw [← hr] at hrec
  exact v_run C0 hS hl (va_runV (As := As) (rest := st) (n := nA) (C := y2.cls) ⟨hx, hb, hml, hfc, hts⟩ hM ⟨callB_of nA hts (v_goodIn hY.1.1) rfl rfl rfl (hts _ hY.1.2.1) (hts _ hlink) hY.1.2.2 hrm, hts _ hY.2.1, hts _ hY.2.2⟩ ⟨v_blind, hrec, v_pre hK hB hR hS⟩ rfl hn hl.1 hst (lv_room hw) hd hf) kk
theorem v_callStri {As : List Value} {r : Int32} (hM : v_M l G y2 cc2 nL2 ret2 d2 0 0 (.ref (v_str G) :: As) h (QI r h2)) (hd : decode cc pc = .ok (.invokevirtual index, 3)) (hY : v_YV y2 cc2 nL2 ret2 nA) (hlink : Cond.methodLink y.cls index y2 ∈ v_W) (hr : y2.cls = "java/lang/String") (hn : As.length = nA) (hst : st0 = As.reverse ++ .ref (v_str G) :: st) (hw : (st.map fun v => v.category).sum ≤ 8) (hrm : d2 + 1 ≤ R.frames ∧ 8 + (nL2 + 11) + 64 * d2 ≤ R.locals) (hf : cells ≤ R.cells ∧ slots ≤ R.slots)
    (kk : V l G y cc nL ret R Qr cells slots (pc + 3) lv (.int r :: st) h2) : V l G y cc nL ret R Qr cells slots pc lv st0 h := v_callStr hM hd hY hlink hr hn hst hw hrm hf (fun v h' hq => by obtain ⟨rfl, rfl⟩ := hq; exact kk)
end VSTR
theorem t_J3 {l : Launch} {G : v_G} {h : v_H} {i n : Int32} {r : Option Nat} (h0 : ¬ i < 0) (h1 : i < n) : v_M l G yJ3_checkIndex_8e157 cJ3_checkIndex_8e157 3 (some .int) 0 0 0 [.int i, .int n, va_rf r] h (QI i h) := by
  cases r with
  | none =>
    refine v_entry (by decide) (Nat.le_of_ble_eq_true rfl) ?_
    show V l G yJ3_checkIndex_8e157 cJ3_checkIndex_8e157 3 (some .int) (v_rm 0 0 0) (QI i h) 0 0 0 [(0, .int i), (1, .int n), (2, .null)] [] h
    refine v_iload_n 0 dJ3_checkIndex_8e157_0 rfl rfl ?_
    refine v_if_lt (tgt := 9) dJ3_checkIndex_8e157_1 (by decide) (fun c => absurd c h0) (fun c => ?_)
    refine v_iload_n 0 dJ3_checkIndex_8e157_4 rfl rfl ?_
    refine v_iload_n 1 dJ3_checkIndex_8e157_5 rfl rfl ?_
    refine v_icmp_lt (tgt := 16) dJ3_checkIndex_8e157_6 (by decide) (fun c => ?_) (fun c => absurd h1 c)
    refine v_iload_n 0 dJ3_checkIndex_8e157_16 rfl rfl ?_
    exact v_iret dJ3_checkIndex_8e157_17 rfl (Nat.zero_le _) (Nat.zero_le _) ⟨rfl, rfl⟩
  | some t =>
    refine v_entry (by decide) (Nat.le_of_ble_eq_true rfl) ?_
    show V l G yJ3_checkIndex_8e157 cJ3_checkIndex_8e157 3 (some .int) (v_rm 0 0 0) (QI i h) 0 0 0 [(0, .int i), (1, .int n), (2, .ref t)] [] h
    refine v_iload_n 0 dJ3_checkIndex_8e157_0 rfl rfl ?_
    refine v_if_lt (tgt := 9) dJ3_checkIndex_8e157_1 (by decide) (fun c => absurd c h0) (fun c => ?_)
    refine v_iload_n 0 dJ3_checkIndex_8e157_4 rfl rfl ?_
    refine v_iload_n 1 dJ3_checkIndex_8e157_5 rfl rfl ?_
    refine v_icmp_lt (tgt := 16) dJ3_checkIndex_8e157_6 (by decide) (fun c => ?_) (fun c => absurd h1 c)
    refine v_iload_n 0 dJ3_checkIndex_8e157_16 rfl rfl ?_
    exact v_iret dJ3_checkIndex_8e157_17 rfl (Nat.zero_le _) (Nat.zero_le _) ⟨rfl, rfl⟩
theorem t_J0_checkIndex {l : Launch} {G : v_G} {h : v_H} {i n : Int32} (h0 : ¬ i < 0) (h1 : i < n) : v_M l G yJ0_checkIndex_df160 cJ0_checkIndex_df160 2 none 1 0 0 [.int i, .int n] h (QV h) := by
  refine v_entry (by decide) (Nat.le_of_ble_eq_true rfl) ?_
  show V l G yJ0_checkIndex_df160 cJ0_checkIndex_df160 2 none (v_rm 1 0 0) (QV h) 0 0 0 [(0, .int i), (1, .int n)] [] h
  refine v_iload_n 0 dJ0_checkIndex_df160_0 rfl rfl ?_
  refine v_iload_n 1 dJ0_checkIndex_df160_1 rfl rfl ?_
  refine v_getSF dJ0_checkIndex_df160_2 fl_String_1053 (fun r => ?_)
  refine v_callSi (t_J3 (r := r) h0 h1) dJ0_checkIndex_df160_5 y_J3_checkIndex_8e157 ml_String_1059 rfl rfl (Nat.le_of_ble_eq_true rfl) ⟨Nat.le_of_ble_eq_true rfl, Nat.le_of_ble_eq_true rfl⟩ ⟨Nat.zero_le _, Nat.zero_le _⟩ ?_
  refine v_pop dJ0_checkIndex_df160_8 rfl ?_
  exact v_vret dJ0_checkIndex_df160_9 rfl (Nat.zero_le _) (Nat.zero_le _) ⟨rfl, rfl⟩
theorem vp_lt {i : Int32} (h : vp_in i 130) : ¬ i < 0 ∧ i < 130 := by
  refine ⟨fun q => h (Or.inl q), ?_⟩
  have h2 : i.toNatClampNeg < 130 := Nat.not_le.mp fun q => h (Or.inr q)
  have h3 := v_nn i (fun q => h (Or.inl q))
  rw [Int32.lt_iff_toInt_lt, h3]
  have : (130 : Int32).toInt = 130 := by decide
  omega
theorem t_J1_charAt {l : Launch} {G : v_G} {h : v_H} {i : Int32} (hi : vp_in i 130) : v_M l G yJ1_charAt_3b067 cJ1_charAt_3b067 2 (some .char) 2 0 0 [.ref (v_strV G), .int i] h (QI (wch i) h) := by
  refine v_entry (by decide) (Nat.le_of_ble_eq_true rfl) ?_
  show V l G yJ1_charAt_3b067 cJ1_charAt_3b067 2 (some .char) (v_rm 2 0 0) (QI (wch i) h) 0 0 0 [(0, .ref (v_strV G)), (1, .int i)] [] h
  refine v_iload_n 1 dJ1_charAt_3b067_0 rfl rfl ?_
  refine v_aload_n 0 dJ1_charAt_3b067_1 rfl rfl ?_
  refine v_strLen dJ1_charAt_3b067_2 ?_
  refine v_callSv (t_J0_checkIndex (vp_lt hi).1 (vp_lt hi).2) dJ1_charAt_3b067_3 y_J0_checkIndex_df160 ml_StringLatin1_9 rfl rfl (Nat.le_of_ble_eq_true rfl) ⟨Nat.le_of_ble_eq_true rfl, Nat.le_of_ble_eq_true rfl⟩ ⟨Nat.zero_le _, Nat.zero_le _⟩ ?_
  refine v_aload_n 0 dJ1_charAt_3b067_6 rfl rfl ?_
  refine v_iload_n 1 dJ1_charAt_3b067_7 rfl rfl ?_
  refine v_strLd dJ1_charAt_3b067_8 hi ?_
  refine v_sipush dJ1_charAt_3b067_9 (by decide : _ = (255 : Int32)) ?_
  refine v_iand dJ1_charAt_3b067_12 ?_
  refine v_i2c dJ1_charAt_3b067_13 ?_
  exact v_zret dJ1_charAt_3b067_14 rfl (wch_ok hi) (Nat.zero_le _) (Nat.zero_le _) ⟨rfl, rfl⟩
theorem t_J0_coder {l : Launch} {G : v_G} {h : v_H} : v_M l G yJ0_coder_7d493 cJ0_coder_7d493 1 (some .byte) 0 0 0 [.ref (v_str G)] h (QI 0 h) := by
  refine v_entry (by decide) (Nat.le_of_ble_eq_true rfl) ?_
  show V l G yJ0_coder_7d493 cJ0_coder_7d493 1 (some .byte) (v_rm 0 0 0) (QI 0 h) 0 0 0 [(0, .ref (v_str G))] [] h
  refine v_getCS dJ0_coder_7d493_0 fl_String_38 ?_
  refine v_if_eq (tgt := 13) dJ0_coder_7d493_3 (by decide) (fun c => absurd c (by decide)) (fun c => ?_)
  refine v_aload_n 0 dJ0_coder_7d493_6 rfl rfl ?_
  refine v_strCod dJ0_coder_7d493_7 fl_String_15 ?_
  refine v_goto (tgt := 14) dJ0_coder_7d493_10 (by decide) ?_
  exact v_zret dJ0_coder_7d493_14 rfl rfl (Nat.zero_le _) (Nat.zero_le _) ⟨rfl, rfl⟩
theorem t_J0_isLatin1 {l : Launch} {G : v_G} {h : v_H} : v_M l G yJ0_isLatin1_aae02 cJ0_isLatin1_aae02 1 (some .boolean) 0 0 0 [.ref (v_str G)] h (QI 1 h) := by
  refine v_entry (by decide) (Nat.le_of_ble_eq_true rfl) ?_
  show V l G yJ0_isLatin1_aae02 cJ0_isLatin1_aae02 1 (some .boolean) (v_rm 0 0 0) (QI 1 h) 0 0 0 [(0, .ref (v_str G))] [] h
  refine v_getCS dJ0_isLatin1_aae02_0 fl_String_38 ?_
  refine v_if_eq (tgt := 17) dJ0_isLatin1_aae02_3 (by decide) (fun c => absurd c (by decide)) (fun c => ?_)
  refine v_aload_n 0 dJ0_isLatin1_aae02_6 rfl rfl ?_
  refine v_strCod dJ0_isLatin1_aae02_7 fl_String_15 ?_
  refine v_if_ne (tgt := 17) dJ0_isLatin1_aae02_10 (by decide) (fun c => absurd rfl c) (fun c => ?_)
  refine v_iconst dJ0_isLatin1_aae02_13 (by decide : _ = (1 : Int32)) ?_
  refine v_goto (tgt := 18) dJ0_isLatin1_aae02_14 (by decide) ?_
  exact v_zret dJ0_isLatin1_aae02_18 rfl rfl (Nat.zero_le _) (Nat.zero_le _) ⟨rfl, rfl⟩
theorem t_J0_length {l : Launch} {G : v_G} {h : v_H} : v_M l G yJ0_length_8abf5 cJ0_length_8abf5 1 (some .int) 1 0 0 [.ref (v_str G)] h (QI 130 h) := by
  refine v_entry (by decide) (Nat.le_of_ble_eq_true rfl) ?_
  show V l G yJ0_length_8abf5 cJ0_length_8abf5 1 (some .int) (v_rm 1 0 0) (QI 130 h) 0 0 0 [(0, .ref (v_str G))] [] h
  refine v_aload_n 0 dJ0_length_8abf5_0 rfl rfl ?_
  refine v_strVal dJ0_length_8abf5_1 fl_String_9 ?_
  refine v_strLen dJ0_length_8abf5_4 ?_
  refine v_aload_n 0 dJ0_length_8abf5_5 rfl rfl ?_
  refine v_callStri t_J0_coder dJ0_length_8abf5_6 y_J0_coder_7d493 ml_String_335 rfl rfl rfl (Nat.le_of_ble_eq_true rfl) ⟨Nat.le_of_ble_eq_true rfl, Nat.le_of_ble_eq_true rfl⟩ ⟨Nat.zero_le _, Nat.zero_le _⟩ ?_
  refine v_ishr dJ0_length_8abf5_9 ?_
  exact v_iret dJ0_length_8abf5_10 rfl (Nat.zero_le _) (Nat.zero_le _) ⟨by decide, rfl⟩
theorem t_J0_charAt {l : Launch} {G : v_G} {h : v_H} {i : Int32} (hi : vp_in i 130) : v_M l G yJ0_charAt_5068e cJ0_charAt_5068e 2 (some .char) 3 0 0 [.ref (v_str G), .int i] h (QI (wch i) h) := by
  refine v_entry (by decide) (Nat.le_of_ble_eq_true rfl) ?_
  show V l G yJ0_charAt_5068e cJ0_charAt_5068e 2 (some .char) (v_rm 3 0 0) (QI (wch i) h) 0 0 0 [(0, .ref (v_str G)), (1, .int i)] [] h
  refine v_aload_n 0 dJ0_charAt_5068e_0 rfl rfl ?_
  refine v_callStri t_J0_isLatin1 dJ0_charAt_5068e_1 y_J0_isLatin1_aae02 ml_String_492 rfl rfl rfl (Nat.le_of_ble_eq_true rfl) ⟨Nat.le_of_ble_eq_true rfl, Nat.le_of_ble_eq_true rfl⟩ ⟨Nat.zero_le _, Nat.zero_le _⟩ ?_
  refine v_if_eq (tgt := 16) dJ0_charAt_5068e_4 (by decide) (fun c => absurd c (by decide)) (fun c => ?_)
  refine v_aload_n 0 dJ0_charAt_5068e_7 rfl rfl ?_
  refine v_strVal dJ0_charAt_5068e_8 fl_String_9 ?_
  refine v_iload_n 1 dJ0_charAt_5068e_11 rfl rfl ?_
  refine v_callSi (t_J1_charAt hi) dJ0_charAt_5068e_12 y_J1_charAt_3b067 ml_String_495 rfl rfl (Nat.le_of_ble_eq_true rfl) ⟨Nat.le_of_ble_eq_true rfl, Nat.le_of_ble_eq_true rfl⟩ ⟨Nat.zero_le _, Nat.zero_le _⟩ ?_
  exact v_zret dJ0_charAt_5068e_15 rfl (wch_ok hi) (Nat.zero_le _) (Nat.zero_le _) ⟨rfl, rfl⟩
theorem v_up_push {h : v_H} {e e2 : va_E} : v_up (v_push h e) h.2 e2 = v_push h e2 := by
  unfold v_up v_push
  refine Prod.ext (funext fun q => ?_) rfl
  dsimp only
  by_cases hq : q = h.2
  · rw [if_pos hq, if_pos hq]
  · rw [if_neg hq, if_neg hq, if_neg hq]
theorem v_R_pcell {G : v_G} {h : v_H} {H : Heap} {t : Nat} {x x' : vp_A} (hx : ∀ cA, vp_cell cA x = vp_cell cA x') (hR : v_R G (v_push h (.inl (t, x))) H) : v_R G (v_push h (.inl (t, x'))) H := by
  rw [← v_up_push (e := .inl (t, x))] at hR ⊢
  exact v_R_cell hx hR
theorem w_same : Cond.sameMethod "[I" "java/lang/Object" "clone" "()Ljava/lang/Object;" ∈ v_W := v_at 618 (w := Cond.sameMethod "[I" "java/lang/Object" "clone" "()Ljava/lang/Object;") (by decide +kernel) (by decide +kernel)
theorem w_natc : Cond.native ⟨"java/lang/Object", "clone", "()Ljava/lang/Object;"⟩ ∈ v_W := v_at 619 (w := Cond.native ⟨"java/lang/Object", "clone", "()Ljava/lang/Object;"⟩) (by decide +kernel) (by decide +kernel)
theorem w_instc : Cond.instanceMethod ⟨"java/lang/Object", "clone", "()Ljava/lang/Object;"⟩ ∈ v_W := v_at 620 (w := Cond.instanceMethod ⟨"java/lang/Object", "clone", "()Ljava/lang/Object;"⟩) (by decide +kernel) (by decide +kernel)
theorem w_selc : Cond.selects "[I" ⟨"[I", "clone", "()Ljava/lang/Object;"⟩ ⟨"java/lang/Object", "clone", "()Ljava/lang/Object;"⟩ ∈ v_W := v_at 621 (w := Cond.selects "[I" ⟨"[I", "clone", "()Ljava/lang/Object;"⟩ ⟨"java/lang/Object", "clone", "()Ljava/lang/Object;"⟩) (by decide +kernel) (by decide +kernel)
theorem w_oinst : Cond.instanceMethod Lib.objectInit ∈ v_W := v_at 122 (w := Cond.instanceMethod Lib.objectInit) (by decide +kernel) (by decide +kernel)
theorem w_ocode : Cond.code Lib.objectInit ⟨#[0xb1]⟩ 1 none ∈ v_W := v_at 123 (w := Cond.code Lib.objectInit ⟨#[0xb1]⟩ 1 none) (by decide +kernel) (by decide +kernel)
theorem v_up_self (h : v_H) (a : Nat) (e : va_E) : (v_up h a e).1 a = some e := by
  unfold v_up
  dsimp only
  rw [if_pos rfl]
theorem v_up_up {h : v_H} {a : Nat} {e e2 : va_E} : v_up (v_up h a e) a e2 = v_up h a e2 := by
  unfold v_up
  refine Prod.ext (funext fun q => ?_) rfl
  dsimp only
  by_cases hq : q = a
  · rw [if_pos hq, if_pos hq]
  · rw [if_neg hq, if_neg hq, if_neg hq]
/-- Arrays.copyOf of an int array, no longer than it: on any heap -/
theorem t_copyOf {l : Launch} {G : v_G} {h : v_H} {a n0 : Nat} {f : Nat → Int32} {n : Int32} (ha : h.1 a = some (.inl (0, n0, .inl f))) (hlt : a < h.2) (hB : v_B G ≤ h.2) (hn : ¬ n < 0) (hn0 : n.toNatClampNeg ≤ n0) (h300 : n0 ≤ 300) : v_M l G yJ7_copyOf_59c91 cJ7_copyOf_59c91 3 (some (.array .int)) 1 1 300 [.ref a, .int n] h (QA (.ref h.2) (v_push h (.inl (0, n.toNatClampNeg, .inl f)))) := by
  refine v_entry (by decide) (Nat.le_of_ble_eq_true rfl) ?_
  show V l G yJ7_copyOf_59c91 cJ7_copyOf_59c91 3 (some (.array .int)) (v_rm 1 1 300) (QA (.ref h.2) (v_push h (.inl (0, n.toNatClampNeg, .inl f)))) 0 0 0 [(0, .ref a), (1, .int n)] [] h
  have hnn := v_nn n hn
  have hof : (Int32.ofNat n0).toInt = n0 := by
    rw [Int32.toInt_ofNat_of_lt (by omega)]
  refine v_iload_n 1 dJ7_copyOf_59c91_0 rfl rfl ?_
  refine v_aload_n 0 dJ7_copyOf_59c91_1 rfl rfl ?_
  refine v_alen (ty := .int) dJ7_copyOf_59c91_2 (by decide) ha ?_
  refine v_icmp_ne (tgt := 14) dJ7_copyOf_59c91_3 (by decide) (fun c => ?_) (fun c => ?_)
  · refine v_iload_n 1 dJ7_copyOf_59c91_14 rfl rfl ?_
    refine v_newa (atype := .int) (ty := .int) (t := 0) (a0 := (n.toNatClampNeg, .inl (fun _ => 0))) dJ7_copyOf_59c91_15 rfl ac_int rfl (fun C h => by cases h) (fun cA => rfl) hn rfl (by show _ * 4 ≤ _; omega) (by show _ ≤ 1; omega) (by show _ ≤ 300; omega) ?_
    refine v_astore_n dJ7_copyOf_59c91_17 rfl (by decide) rfl ?_
    refine v_aload_n 1 dJ7_copyOf_59c91_18 rfl rfl ?_
    refine v_iconst dJ7_copyOf_59c91_19 (by decide : _ = (0 : Int32)) ?_
    refine v_aload_n 0 dJ7_copyOf_59c91_20 rfl rfl ?_
    refine v_iconst dJ7_copyOf_59c91_21 (by decide : _ = (0 : Int32)) ?_
    refine v_aload_n 1 dJ7_copyOf_59c91_22 rfl rfl ?_
    have hap : (v_push h (.inl (0, n.toNatClampNeg, .inl (fun _ => 0)))).1 a = some (.inl (0, n0, .inl f)) := by
      unfold v_push
      dsimp only
      rw [if_neg (by omega)]
      exact ha
    refine v_alen (ty := .int) dJ7_copyOf_59c91_23 (by decide) hap ?_
    refine v_iload_n 2 dJ7_copyOf_59c91_24 rfl rfl ?_
    refine v_mmin dJ7_copyOf_59c91_25 ml_Arrays_304 y_J9_min_7cf53.2 y_J9_min_7cf53.1.2.1 y_J9_min_7cf53.1.1 (Nat.le_of_ble_eq_true rfl) (Nat.le_of_ble_eq_true rfl) (Nat.le_refl _) (by show _ ≤ 300; omega) ?_
    have hmin : (if n < Int32.ofNat n0 then n else Int32.ofNat n0) = n := by
      by_cases hc : n < Int32.ofNat n0
      · rw [if_pos hc]
      · refine absurd ?_ c
        rw [Int32.lt_iff_toInt_lt, hnn, hof] at hc
        apply Int32.toInt_inj.mp
        rw [hnn, hof]
        omega
    show V l G _ _ _ _ _ _ _ _ _ _ (.int (if n < Int32.ofNat n0 then n else Int32.ofNat n0) :: _) _
    rw [hmin]
    have hnew : (v_push h (.inl (0, n.toNatClampNeg, .inl (fun _ => 0)))).1 h.2 = some (.inl (0, n.toNatClampNeg, .inl (fun _ => 0))) := by
      unfold v_push
      dsimp only
      rw [if_pos rfl]
    refine v_copyi dJ7_copyOf_59c91_28 ml_Arrays_150 nat_copy st_copy ini_System hB hap hnew (by decide) (by decide) hn (by show 0 + _ ≤ _; omega) (by show 0 + _ ≤ _; omega) (Nat.le_of_ble_eq_true rfl) (Nat.le_of_ble_eq_true rfl) ?_
    rw [v_up_push]
    refine v_aload_n 0 dJ7_copyOf_59c91_31 rfl rfl ?_
    refine v_conv (h2 := v_push h (.inl (0, n.toNatClampNeg, .inl f))) (fun H hR => v_R_pcell (fun cA => ?_) hR) ?_
    · rw [vp_cell_i, vp_cell_i]
      refine arrV_congr (fun i hi => ?_)
      show Value.int (va_cpy _ _ 0 0 _ i) = _
      unfold va_cpy
      rw [if_pos ⟨Nat.zero_le _, by omega⟩]
      simp
    · exact v_aret dJ7_copyOf_59c91_32 rfl (Or.inr ⟨_, rfl⟩) (Or.inr ⟨_, rfl⟩) (Nat.le_refl _) (by show _ ≤ 300; omega) ⟨rfl, rfl⟩
  · have hn1 : n.toNatClampNeg = n0 := by
      have := congrArg Int32.toInt c
      rw [hnn, hof] at this
      omega
    refine v_aload_n 0 dJ7_copyOf_59c91_6 rfl rfl ?_
    refine v_clone dJ7_copyOf_59c91_7 ml_Arrays_316 w_same w_natc w_instc w_selc ha (Nat.le_of_ble_eq_true rfl) (Nat.le_of_ble_eq_true rfl) (by show _ ≤ 1; omega) (by show _ ≤ 300; omega) ?_
    have hnew : (v_push h (.inl (0, n0, .inl f))).1 h.2 = some (.inl (0, n0, .inl f)) := by
      unfold v_push
      dsimp only
      rw [if_pos rfl]
    refine v_castI dJ7_copyOf_59c91_10 cl_Arrays_317 hnew ?_
    exact v_aret dJ7_copyOf_59c91_13 rfl (Or.inr ⟨_, rfl⟩) (Or.inr ⟨_, rfl⟩) (by show _ ≤ 1; omega) (by show _ ≤ 300; omega) ⟨rfl, by rw [hn1]⟩
/-- a text's constructor, on any heap -/
theorem t_X6_init {l : Launch} {G : v_G} {h : v_H} {b q1 q2 q3 : Nat} (hb : h.1 b = some (.inr (5, [.null, .null, .null]))) (hB : v_B G ≤ b) : v_M l G yX6_init cX6_init 4 none 1 0 0 [.ref b, .ref q1, .ref q2, .ref q3] h (QV (v_up h b (.inr (5, [.ref q1, .ref q2, .ref q3])))) := by
  refine v_entry (by decide) (Nat.le_of_ble_eq_true rfl) ?_
  show V l G yX6_init cX6_init 4 none (v_rm 1 0 0) (QV (v_up h b (.inr (5, [.ref q1, .ref q2, .ref q3])))) 0 0 0 [(0, .ref b), (1, .ref q1), (2, .ref q2), (3, .ref q3)] [] h
  refine v_aload_n 0 dX6_init_0 rfl rfl ?_
  refine v_objInit dX6_init_1 ml_X6_1 w_oinst w_ocode (Nat.le_of_ble_eq_true rfl) (Nat.le_of_ble_eq_true rfl) ?_
  refine v_aload_n 0 dX6_init_4 rfl rfl ?_
  refine v_aload_n 1 dX6_init_5 rfl rfl ?_
  refine v_putF tyX6 tyX6_ok nmX6 dX6_init_6 rfl (ci := 5) (k := 0) rfl i_X6 (by decide) fl_X6_7 rfl rfl rfl (tyX6_ok 0 (by decide)) rfl rfl (by decide) hB hb ?_
  refine v_aload_n 0 dX6_init_9 rfl rfl ?_
  refine v_aload_n 2 dX6_init_10 rfl rfl ?_
  refine v_putF tyX6 tyX6_ok nmX6 dX6_init_11 rfl (ci := 5) (k := 1) rfl i_X6 (by decide) fl_X6_13 rfl rfl rfl (tyX6_ok 1 (by decide)) rfl rfl (by simp) hB (v_up_self _ _ _) ?_
  refine v_aload_n 0 dX6_init_14 rfl rfl ?_
  refine v_aload_n 3 dX6_init_15 rfl rfl ?_
  refine v_putF tyX6 tyX6_ok nmX6 dX6_init_16 rfl (ci := 5) (k := 2) rfl i_X6 (by decide) fl_X6_16 rfl rfl rfl (tyX6_ok 2 (by decide)) rfl rfl (by simp) hB (v_up_self _ _ _) ?_
  rw [v_up_up, v_up_up]
  exact v_vret dX6_init_19 rfl (Nat.zero_le _) (Nat.zero_le _) ⟨rfl, rfl⟩
