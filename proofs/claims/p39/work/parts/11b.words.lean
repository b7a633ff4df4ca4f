theorem cv_X7_239 : CV RX7 239 yJ0_length_8abf5 RJ0 cJ0_length_8abf5 1 (some .int) 0 := ⟨⟨BG_at 855 (by decide +kernel) (by decide +kernel), BG_at 846 (by decide +kernel) (by decide +kernel), BG_at 847 (by decide +kernel) (by decide +kernel), BG_at 54 (by decide +kernel) (by decide +kernel), BG_at 848 (by decide +kernel) (by decide +kernel)⟩, rfl, by decide, by decide, by decide +kernel⟩
theorem cv_X7_244 : CV RX7 244 yJ0_charAt_5068e RJ0 cJ0_charAt_5068e 2 (some .char) 1 := ⟨⟨BG_at 856 (by decide +kernel) (by decide +kernel), BG_at 857 (by decide +kernel) (by decide +kernel), BG_at 858 (by decide +kernel) (by decide +kernel), BG_at 54 (by decide +kernel) (by decide +kernel), BG_at 859 (by decide +kernel) (by decide +kernel)⟩, rfl, by decide, by decide, by decide +kernel⟩
theorem cv_X10_106 : CV RX10 106 yJ0_length_8abf5 RJ0 cJ0_length_8abf5 1 (some .int) 0 := ⟨⟨BG_at 845 (by decide +kernel) (by decide +kernel), BG_at 846 (by decide +kernel) (by decide +kernel), BG_at 847 (by decide +kernel) (by decide +kernel), BG_at 54 (by decide +kernel) (by decide +kernel), BG_at 848 (by decide +kernel) (by decide +kernel)⟩, rfl, by decide, by decide, by decide +kernel⟩
theorem cv_J0_335 : CV RJ0 335 yJ0_coder_7d493 RJ0 cJ0_coder_7d493 1 (some .byte) 0 := ⟨⟨BG_at 849 (by decide +kernel) (by decide +kernel), BG_at 850 (by decide +kernel) (by decide +kernel), BG_at 851 (by decide +kernel) (by decide +kernel), BG_at 54 (by decide +kernel) (by decide +kernel), BG_at 852 (by decide +kernel) (by decide +kernel)⟩, rfl, by decide, by decide, by decide +kernel⟩
theorem cv_J0_492 : CV RJ0 492 yJ0_isLatin1_aae02 RJ0 cJ0_isLatin1_aae02 1 (some .boolean) 0 := ⟨⟨BG_at 860 (by decide +kernel) (by decide +kernel), BG_at 861 (by decide +kernel) (by decide +kernel), BG_at 862 (by decide +kernel) (by decide +kernel), BG_at 54 (by decide +kernel) (by decide +kernel), BG_at 863 (by decide +kernel) (by decide +kernel)⟩, rfl, by decide, by decide, by decide +kernel⟩
theorem cv_J0_495 : CS RJ0 495 yJ1_charAt_3b067 cJ1_charAt_3b067 2 (some .char) 2 := ⟨⟨BG_at 864 (by decide +kernel) (by decide +kernel), BG_at 865 (by decide +kernel) (by decide +kernel), BG_at 55 (by decide +kernel) (by decide +kernel), BG_at 866 (by decide +kernel) (by decide +kernel)⟩, by decide, by decide, by decide +kernel⟩
theorem cv_J1_9 : CS RJ1 9 yJ0_checkIndex_df160 cJ0_checkIndex_df160 2 none 2 := ⟨⟨BG_at 867 (by decide +kernel) (by decide +kernel), BG_at 868 (by decide +kernel) (by decide +kernel), BG_at 54 (by decide +kernel) (by decide +kernel), BG_at 869 (by decide +kernel) (by decide +kernel)⟩, by decide, by decide, by decide +kernel⟩
theorem cv_J0_1059 : CS RJ0 1059 yJ3_checkIndex_8e157 cJ3_checkIndex_8e157 3 (some .int) 3 := ⟨⟨BG_at 872 (by decide +kernel) (by decide +kernel), BG_at 873 (by decide +kernel) (by decide +kernel), BG_at 56 (by decide +kernel) (by decide +kernel), BG_at 874 (by decide +kernel) (by decide +kernel)⟩, by decide, by decide, by decide +kernel⟩
def xOrd : MethodName := ⟨RX10, "ordinal", "()I"⟩
theorem cu_X7_182 : (∀ w ∈ va_wsU RX7 182 RX10 RJx29ce0 xOrd yJx29ce0_ordinal_8abf5 [], w ∈ BG) ∧ Cond.code yJx29ce0_ordinal_8abf5 cJx29ce0_ordinal_8abf5 1 (some .int) ∈ BG ∧ yJx29ce0_ordinal_8abf5 = ⟨RJx29ce0, xOrd.name, xOrd.desc⟩ ∧ RJx29ce0 ≠ "java/lang/invoke/MethodHandle" ∧ RJx29ce0 ≠ "java/lang/invoke/VarHandle" ∧ (parseMethodDescriptor xOrd.desc).map (fun d => d.parameters.length) = some 0 := by
  refine ⟨fun w h => ?_, BG_at 909 (by decide +kernel) (by decide +kernel), rfl, by decide, by decide, by decide +kernel⟩
  unfold va_wsU at h
  rw [List.append_nil] at h
  simp only [List.mem_cons, List.not_mem_nil, or_false] at h
  rcases h with rfl | rfl | rfl | rfl | rfl
  · exact BG_at 904 (by decide +kernel) (by decide +kernel)
  · exact BG_at 905 (by decide +kernel) (by decide +kernel)
  · exact BG_at 907 (by decide +kernel) (by decide +kernel)
  · exact BG_at 908 (by decide +kernel) (by decide +kernel)
  · exact BG_at 52 (by decide +kernel) (by decide +kernel)
theorem fk_X10_120 : Cond.fieldLink RX10 120 "RationLisp$Word" "code" "I" ∈ BG := BG_at 1148 (by decide +kernel) (by decide +kernel)
theorem fk_X10_124 : Cond.fieldLink RX10 124 "RationLisp$Word" "form" "Ljava/lang/String;" ∈ BG := BG_at 1149 (by decide +kernel) (by decide +kernel)
theorem fk_X10_128 : Cond.fieldLink RX10 128 "RationLisp$Word" "goesOn" "Z" ∈ BG := BG_at 1152 (by decide +kernel) (by decide +kernel)
theorem fk_X10_132 : Cond.fieldLink RX10 132 "RationLisp$Word" "ALL" "[LRationLisp$Word;" ∈ BG := BG_at 807 (by decide +kernel) (by decide +kernel)
theorem fk_J0_9 : Cond.fieldLink RJ0 9 "java/lang/String" "value" "[B" ∈ BG := BG_at 1150 (by decide +kernel) (by decide +kernel)
theorem fk_J0_15 : Cond.fieldLink RJ0 15 "java/lang/String" "coder" "B" ∈ BG := BG_at 1151 (by decide +kernel) (by decide +kernel)
theorem fk_J0_38 : Cond.fieldLink RJ0 38 "java/lang/String" "COMPACT_STRINGS" "Z" ∈ BG := BG_at 853 (by decide +kernel) (by decide +kernel)
theorem fk_J0_1053 : Cond.fieldLink RJ0 1053 "jdk/internal/util/Preconditions" "SIOOBE_FORMATTER" "Ljava/util/function/BiFunction;" ∈ BG := BG_at 870 (by decide +kernel) (by decide +kernel)
theorem fk_Jx29ce0_7 : Cond.fieldLink RJx29ce0 7 "java/lang/Enum" "ordinal" "I" ∈ BG := BG_at 1154 (by decide +kernel) (by decide +kernel)
theorem fk_X7_176 : Cond.fieldLink RX7 176 "RationLisp$1" "$SwitchMap$RationLisp$Word" "[I" ∈ BG := BG_at 902 (by decide +kernel) (by decide +kernel)
theorem fk_X7_260 : Cond.fieldLink RX7 260 "RationLisp$Word" "IF" "LRationLisp$Word;" ∈ BG := BG_at 914 (by decide +kernel) (by decide +kernel)
theorem fk_X7_264 : Cond.fieldLink RX7 264 "RationLisp$Word" "AND" "LRationLisp$Word;" ∈ BG := BG_at 916 (by decide +kernel) (by decide +kernel)
theorem fk_X7_235 : Cond.fieldLinkNest RX7 235 "RationLisp$Word" "form" "Ljava/lang/String;" "RationLisp" ∈ NG := NG_at 1153 (by decide +kernel) (by decide +kernel)

def wref (ad : wAd) (w : Int32) : Value := if w < 0 then .null else .ref (ad 10 0 w)
def frw (ad : wAd) (M : Wm) (w : Int32) : Option Value × Wm := (some (wref ad w), M)
theorem st_all : ∀ a, a < 9 → ∀ b, b < stLen (nI a) → ((stByte (nI a) (nI b) &&& 255).toUInt32 % 65536).toInt32 = stByte (nI a) (nI b) ∧ narrow .char (.int (stByte (nI a) (nI b))) = .int (stByte (nI a) (nI b)) := by decide +kernel
theorem st_len : ∀ a, a < 9 → stLen (nI a) < 4 := by decide +kernel
theorem st_char {i j : Int32} (hi : vp_in i 9) (hj : vp_in j (stLen i)) : ((stByte i j &&& 255).toUInt32 % 65536).toInt32 = stByte i j ∧ narrow .char (.int (stByte i j)) = .int (stByte i j) := by
  obtain ⟨a, ha, rfl⟩ := vp_in_of hi (by decide)
  obtain ⟨b, hb, rfl⟩ := vp_in_of hj (by have := st_len a ha; omega)
  exact st_all a ha b hb
theorem st_lenI {i : Int32} (hi : vp_in i 9) : stLen i < 4 := by
  obtain ⟨a, ha, rfl⟩ := vp_in_of hi (by decide)
  exact st_len a ha
theorem wd_form : ∀ a, a < 26 → vp_in (wdForm (nI a)) 9 := by
  intro a ha
  exact vin_lit (by revert a; decide +kernel)
theorem wd_formI {w : Int32} (hw : vp_in w 26) : vp_in (wdForm w) 9 := by
  obtain ⟨a, ha, rfl⟩ := vp_in_of hw (by decide)
  exact wd_form a ha
theorem shr0 {n : Nat} (h : n < 2 ^ 31) : nI n >>> ((0 : Int32) &&& 31) = nI n := sc_shr0 h
set_option maxHeartbeats 4000000 in
set_option maxRecDepth 100000 in
theorem mc_ordinal (l : Launch) (D : va_G) (ta : wTa) (ad : wAd) (M : Wm) (p0 : Int32) (h0 : vp_in p0 26) : MC l D ta ad yJx29ce0_ordinal_8abf5 cJx29ce0_ordinal_8abf5 1 (some .int) 0 [.ref (ad 10 0 p0)] M (fip M p0) := by
  refine MC.of (fip M) p0 rfl (by decide) (Nat.le_of_ble_eq_true rfl) (fun p e s m args below meth c cx hr => ?_)
  refine mw_sub (lv' := [(0, .ref (ad 10 0 p0))]) [0] rfl ?_
  refine mw_aload_n cx (q := 1) 0 rfl rfl dJx29ce0_ordinal_8abf5_0 rfl ?_
  refine mw_getK cx (q := 4) (v := .int p0) ((cx_st cx).2.1 p0 h0).2.2.2.2 fk_Jx29ce0_7 dJx29ce0_ordinal_8abf5_1 rfl ?_
  exact mw_iret cx hr rfl dJx29ce0_ordinal_8abf5_4
set_option maxHeartbeats 4000000 in
set_option maxRecDepth 100000 in
theorem mc_coder (l : Launch) (D : va_G) (ta : wTa) (ad : wAd) (M : Wm) (p0 : Int32) (h0 : vp_in p0 9) : MC l D ta ad yJ0_coder_7d493 cJ0_coder_7d493 1 (some .byte) 0 [.ref (ad 10 1 p0)] M (fip M 0) := by
  refine MC.of (fip M) 0 rfl (by decide) (Nat.le_of_ble_eq_true rfl) (fun p e s m args below meth c cx hr => ?_)
  refine mw_sub (lv' := [(0, .ref (ad 10 1 p0))]) [0] rfl ?_
  refine mw_gets cx (q := 3) (v := .int 1) (cx_st cx).1.2.2.2.2.1 fk_J0_38 dJ0_coder_7d493_0 rfl ?_
  refine mw_if_eq_k cx (tgt := 13) (q := 6) dJ0_coder_7d493_3 (by decide) rfl (fun h => absurd h (by decide)) (fun _ => ?_)
  refine mw_aload_n cx (q := 7) 0 rfl rfl dJ0_coder_7d493_6 rfl ?_
  refine mw_getK cx (q := 10) (v := .int 0) ((cx_st cx).2.2.1 p0 h0).2.2.1 fk_J0_15 dJ0_coder_7d493_7 rfl ?_
  refine mw_goto cx (tgt := 14) dJ0_coder_7d493_10 (by decide) ?_
  exact mw_zret cx hr rfl rfl dJ0_coder_7d493_14
set_option maxHeartbeats 4000000 in
set_option maxRecDepth 100000 in
theorem mc_isLatin1 (l : Launch) (D : va_G) (ta : wTa) (ad : wAd) (M : Wm) (p0 : Int32) (h0 : vp_in p0 9) : MC l D ta ad yJ0_isLatin1_aae02 cJ0_isLatin1_aae02 1 (some .boolean) 0 [.ref (ad 10 1 p0)] M (fip M 1) := by
  refine MC.of (fip M) 1 rfl (by decide) (Nat.le_of_ble_eq_true rfl) (fun p e s m args below meth c cx hr => ?_)
  refine mw_sub (lv' := [(0, .ref (ad 10 1 p0))]) [0] rfl ?_
  refine mw_gets cx (q := 3) (v := .int 1) (cx_st cx).1.2.2.2.2.1 fk_J0_38 dJ0_isLatin1_aae02_0 rfl ?_
  refine mw_if_eq_k cx (tgt := 17) (q := 6) dJ0_isLatin1_aae02_3 (by decide) rfl (fun h => absurd h (by decide)) (fun _ => ?_)
  refine mw_aload_n cx (q := 7) 0 rfl rfl dJ0_isLatin1_aae02_6 rfl ?_
  refine mw_getK cx (q := 10) (v := .int 0) ((cx_st cx).2.2.1 p0 h0).2.2.1 fk_J0_15 dJ0_isLatin1_aae02_7 rfl ?_
  refine mw_if_ne_k cx (tgt := 17) (q := 13) dJ0_isLatin1_aae02_10 (by decide) rfl (fun h => absurd rfl h) (fun _ => ?_)
  refine mw_iconst cx (q := 14) (v := 1) dJ0_isLatin1_aae02_13 rfl rfl ?_
  refine mw_goto cx (tgt := 18) dJ0_isLatin1_aae02_14 (by decide) ?_
  exact mw_zret cx hr rfl rfl dJ0_isLatin1_aae02_18
def fstrLen (i : Int32) : Int32 := nI (stLen i)
set_option maxHeartbeats 4000000 in
set_option maxRecDepth 100000 in
theorem mc_strLen (l : Launch) (D : va_G) (ta : wTa) (ad : wAd) (M : Wm) (p0 : Int32) (h0 : vp_in p0 9) : MC l D ta ad yJ0_length_8abf5 cJ0_length_8abf5 1 (some .int) 1 [.ref (ad 10 1 p0)] M (fip M (fstrLen p0)) := by
  refine MC.of (fip M) (fstrLen p0) rfl (by decide) (Nat.le_of_ble_eq_true rfl) (fun p e s m args below meth c cx hr => ?_)
  refine mw_sub (lv' := [(0, .ref (ad 10 1 p0))]) [0] rfl ?_
  refine mw_aload_n cx (q := 1) 0 rfl rfl dJ0_length_8abf5_0 rfl ?_
  refine mw_getK cx (q := 4) (v := .ref (ad 10 4 p0)) ((cx_st cx).2.2.1 p0 h0).2.1 fk_J0_9 dJ0_length_8abf5_1 rfl ?_
  refine mw_tlen cx (q := 5) (v := nI (stLen p0)) ((cx_st cx).2.2.1 p0 h0).2.2.2 rfl dJ0_length_8abf5_4 rfl ?_
  refine mw_aload_n cx (q := 6) 0 rfl rfl dJ0_length_8abf5_5 rfl ?_
  refine mw_callVK cx (q := 9) (d := 0) (As := []) (z := fip M 0) (st := [.int (nI (stLen p0))]) (st1 := [.int 0, .int (nI (stLen p0))]) (M' := M) (mc_coder l D ta ad M p0 h0) cv_J0_335 ((cx_st cx).2.2.1 p0 h0).1 ⟨Nat.le_of_ble_eq_true rfl, Nat.le_of_ble_eq_true rfl⟩ ⟨Nat.le_refl _, Nat.le_refl _⟩ (by simp [Value.category]) rfl rfl rfl dJ0_length_8abf5_6 rfl ?_
  refine mw_ishr cx (q := 10) dJ0_length_8abf5_9 rfl ?_
  rw [shr0 (by have := st_lenI h0; omega)]
  exact mw_iret cx hr rfl dJ0_length_8abf5_10
set_option maxHeartbeats 4000000 in
set_option maxRecDepth 100000 in
theorem mc_check3 (l : Launch) (D : va_G) (ta : wTa) (ad : wAd) (M : Wm) (p1 p2 : Int32) (r : Option Nat) (h0 : ¬ p1 < 0) (h1 : p1 < p2) : MC l D ta ad yJ3_checkIndex_8e157 cJ3_checkIndex_8e157 3 (some .int) 0 [.int p1, .int p2, va_rf r] M (fip M p1) := by
  cases r with
  | none =>
    refine MC.of (fip M) p1 rfl (by decide) (Nat.le_of_ble_eq_true rfl) (fun p e s m args below meth c cx hr => ?_)
    refine mw_sub (lv' := [(0, .int p1), (1, .int p2)]) [0, 1] rfl ?_
    refine mw_iload_n cx (q := 1) 0 rfl rfl dJ3_checkIndex_8e157_0 rfl ?_
    refine mw_if_lt_k cx (tgt := 9) (q := 4) dJ3_checkIndex_8e157_1 (by decide) rfl (fun h => absurd h h0) (fun _ => ?_)
    refine mw_iload_n cx (q := 5) 0 rfl rfl dJ3_checkIndex_8e157_4 rfl ?_
    refine mw_iload_n cx (q := 6) 1 rfl rfl dJ3_checkIndex_8e157_5 rfl ?_
    refine mw_icmp_lt_k cx (tgt := 16) (q := 9) dJ3_checkIndex_8e157_6 (by decide) rfl (fun _ => ?_) (fun h => absurd h1 h)
    refine mw_iload_n cx (q := 17) 0 rfl rfl dJ3_checkIndex_8e157_16 rfl ?_
    exact mw_iret cx hr rfl dJ3_checkIndex_8e157_17
  | some a =>
    refine MC.of (fip M) p1 rfl (by decide) (Nat.le_of_ble_eq_true rfl) (fun p e s m args below meth c cx hr => ?_)
    refine mw_sub (lv' := [(0, .int p1), (1, .int p2)]) [0, 1] rfl ?_
    refine mw_iload_n cx (q := 1) 0 rfl rfl dJ3_checkIndex_8e157_0 rfl ?_
    refine mw_if_lt_k cx (tgt := 9) (q := 4) dJ3_checkIndex_8e157_1 (by decide) rfl (fun h => absurd h h0) (fun _ => ?_)
    refine mw_iload_n cx (q := 5) 0 rfl rfl dJ3_checkIndex_8e157_4 rfl ?_
    refine mw_iload_n cx (q := 6) 1 rfl rfl dJ3_checkIndex_8e157_5 rfl ?_
    refine mw_icmp_lt_k cx (tgt := 16) (q := 9) dJ3_checkIndex_8e157_6 (by decide) rfl (fun _ => ?_) (fun h => absurd h1 h)
    refine mw_iload_n cx (q := 17) 0 rfl rfl dJ3_checkIndex_8e157_16 rfl ?_
    exact mw_iret cx hr rfl dJ3_checkIndex_8e157_17
set_option maxHeartbeats 4000000 in
set_option maxRecDepth 100000 in
theorem mc_check2 (l : Launch) (D : va_G) (ta : wTa) (ad : wAd) (M : Wm) (p1 p2 : Int32) (h0 : ¬ p1 < 0) (h1 : p1 < p2) : MC l D ta ad yJ0_checkIndex_df160 cJ0_checkIndex_df160 2 none 1 [.int p1, .int p2] M (fv M) := by
  refine MC.of fv M rfl (by decide) (Nat.le_of_ble_eq_true rfl) (fun p e s m args below meth c cx hr => ?_)
  obtain ⟨r, hr9⟩ := (cx_st cx).1.2.2.2.2.2
  refine mw_sub (lv' := [(0, .int p1), (1, .int p2)]) [0, 1] rfl ?_
  refine mw_iload_n cx (q := 1) 0 rfl rfl dJ0_checkIndex_df160_0 rfl ?_
  refine mw_iload_n cx (q := 2) 1 rfl rfl dJ0_checkIndex_df160_1 rfl ?_
  refine mw_gets cx (q := 5) (v := va_rf r) hr9 fk_J0_1053 dJ0_checkIndex_df160_2 rfl ?_
  refine mw_callS cx (q := 8) (d := 0) (As := [.int p1, .int p2, va_rf r]) (z := fip M p1) (st := []) (st1 := [.int p1]) (M' := M) (mc_check3 l D ta ad M p1 p2 r h0 h1) cv_J0_1059 ⟨Nat.le_of_ble_eq_true rfl, Nat.le_of_ble_eq_true rfl⟩ ⟨Nat.le_refl _, Nat.le_refl _⟩ (by simp) rfl rfl rfl dJ0_checkIndex_df160_5 rfl ?_
  refine mw_pop cx (q := 9) dJ0_checkIndex_df160_8 rfl rfl ?_
  exact mw_vret cx hr rfl dJ0_checkIndex_df160_9
set_option maxHeartbeats 4000000 in
set_option maxRecDepth 100000 in
theorem mc_lchar (l : Launch) (D : va_G) (ta : wTa) (ad : wAd) (M : Wm) (p0 p1 : Int32) (h0 : vp_in p0 9) (h1 : vp_in p1 (stLen p0)) : MC l D ta ad yJ1_charAt_3b067 cJ1_charAt_3b067 2 (some .char) 2 [.ref (ad 10 4 p0), .int p1] M (fip M (stByte p0 p1)) := by
  refine MC.of (fip M) (stByte p0 p1) rfl (by decide) (Nat.le_of_ble_eq_true rfl) (fun p e s m args below meth c cx hr => ?_)
  have hl := st_lenI h0
  have hT := ((cx_st cx).2.2.1 p0 h0).2.2.2
  refine mw_sub (lv' := [(0, .ref (ad 10 4 p0)), (1, .int p1)]) [0, 1] rfl ?_
  refine mw_iload_n cx (q := 1) 1 rfl rfl dJ1_charAt_3b067_0 rfl ?_
  refine mw_aload_n cx (q := 2) 0 rfl rfl dJ1_charAt_3b067_1 rfl ?_
  refine mw_tlen cx (q := 3) (v := nI (stLen p0)) hT rfl dJ1_charAt_3b067_2 rfl ?_
  refine mw_callS cx (q := 6) (d := 1) (As := [.int p1, .int (nI (stLen p0))]) (z := fv M) (st := []) (st1 := []) (M' := M) (mc_check2 l D ta ad M p1 (nI (stLen p0)) (fun z => h1 (Or.inl z)) (by rw [vp_in_iff] at h1; rw [i32lt, nI_toInt (by omega)]; omega)) cv_J1_9 ⟨Nat.le_of_ble_eq_true rfl, Nat.le_of_ble_eq_true rfl⟩ ⟨Nat.le_refl _, Nat.le_refl _⟩ (by simp) rfl rfl rfl dJ1_charAt_3b067_3 rfl ?_
  refine mw_aload_n cx (q := 7) 0 rfl rfl dJ1_charAt_3b067_6 rfl ?_
  refine mw_iload_n cx (q := 8) 1 rfl rfl dJ1_charAt_3b067_7 rfl ?_
  refine mw_tb cx (q := 9) (v := .int (stByte p0 p1)) hT h1 (by rw [nI_tn h1]) dJ1_charAt_3b067_8 rfl ?_
  refine mw_sipush cx (q := 12) (v := 255) dJ1_charAt_3b067_9 rfl rfl ?_
  refine mw_iand cx (q := 13) dJ1_charAt_3b067_12 rfl ?_
  refine mw_i2c cx (q := 14) (v := stByte p0 p1) (st_char h0 h1).1 dJ1_charAt_3b067_13 rfl ?_
  exact mw_zret cx hr (st_char h0 h1).2 rfl dJ1_charAt_3b067_14
set_option maxHeartbeats 4000000 in
set_option maxRecDepth 100000 in
theorem mc_charAt (l : Launch) (D : va_G) (ta : wTa) (ad : wAd) (M : Wm) (p0 p1 : Int32) (h0 : vp_in p0 9) (h1 : vp_in p1 (stLen p0)) : MC l D ta ad yJ0_charAt_5068e cJ0_charAt_5068e 2 (some .char) 3 [.ref (ad 10 1 p0), .int p1] M (fip M (stByte p0 p1)) := by
  refine MC.of (fip M) (stByte p0 p1) rfl (by decide) (Nat.le_of_ble_eq_true rfl) (fun p e s m args below meth c cx hr => ?_)
  have hS := (cx_st cx).2.2.1 p0 h0
  refine mw_sub (lv' := [(0, .ref (ad 10 1 p0)), (1, .int p1)]) [0, 1] rfl ?_
  refine mw_aload_n cx (q := 1) 0 rfl rfl dJ0_charAt_5068e_0 rfl ?_
  refine mw_callVK cx (q := 4) (d := 0) (As := []) (z := fip M 1) (st := []) (st1 := [.int 1]) (M' := M) (mc_isLatin1 l D ta ad M p0 h0) cv_J0_492 hS.1 ⟨Nat.le_of_ble_eq_true rfl, Nat.le_of_ble_eq_true rfl⟩ ⟨Nat.le_refl _, Nat.le_refl _⟩ (by simp) rfl rfl rfl dJ0_charAt_5068e_1 rfl ?_
  refine mw_if_eq_k cx (tgt := 16) (q := 7) dJ0_charAt_5068e_4 (by decide) rfl (fun h => absurd h (by decide)) (fun _ => ?_)
  refine mw_aload_n cx (q := 8) 0 rfl rfl dJ0_charAt_5068e_7 rfl ?_
  refine mw_getK cx (q := 11) (v := .ref (ad 10 4 p0)) hS.2.1 fk_J0_9 dJ0_charAt_5068e_8 rfl ?_
  refine mw_iload_n cx (q := 12) 1 rfl rfl dJ0_charAt_5068e_11 rfl ?_
  refine mw_callS cx (q := 15) (d := 2) (As := [.ref (ad 10 4 p0), .int p1]) (z := fip M (stByte p0 p1)) (st := []) (st1 := [.int (stByte p0 p1)]) (M' := M) (mc_lchar l D ta ad M p0 p1 h0 h1) cv_J0_495 ⟨Nat.le_of_ble_eq_true rfl, Nat.le_of_ble_eq_true rfl⟩ ⟨Nat.le_refl _, Nat.le_refl _⟩ (by simp) rfl rfl rfl dJ0_charAt_5068e_12 rfl ?_
  exact mw_zret cx hr (st_char h0 h1).2 rfl dJ0_charAt_5068e_15
/-- the first word of that code, from one on; -1 if there is none -/
def f10_of_lp (p1 : Int32) : Nat → Int32 → Int32
  | 0, _ => -1
  | k + 1, x => if 26 ≤ x then -1 else if wdCode x = p1 then x else f10_of_lp p1 k (x + 1)
def f10_of (p1 : Int32) : Int32 := f10_of_lp p1 27 0
set_option maxHeartbeats 4000000 in
set_option maxRecDepth 100000 in
theorem mc_X10_of (l : Launch) (D : va_G) (ta : wTa) (ad : wAd) (M : Wm) (p1 : Int32) : MC l D ta ad yX10_of cX10_of 2 (some (.object "RationLisp$Word")) 0 [.int p1] M (frw ad M (f10_of p1)) := by
  refine MC.of (frw ad M) (f10_of p1) rfl (by decide) (Nat.le_of_ble_eq_true rfl) (fun p e s m args below meth c cx hr => ?_)
  have hA := (cx_st cx).1.1
  have hT := (cx_st cx).2.2.2.1
  unfold f10_of
  refine mw_sub (lv' := [(0, .int p1)]) [0] rfl ?_
  refine mw_iconst cx (q := 1) (v := 0) dX10_of_0 rfl rfl ?_
  refine mw_istore_n cx (q := 2) (lv' := [(1, .int 0), (0, .int p1)]) rfl rfl (by decide) dX10_of_1 rfl ?_
  refine mw_loop (F := f10_of_lp p1) (I := fun x : Int32 => 0 ≤ x.toInt ∧ x.toInt ≤ 26) (μ := fun x : Int32 => (26 - x.toInt).toNat) (Mx := fun _ => M) (px := 2) (lx := fun x : Int32 => [(1, .int x), (0, .int p1)]) (fun k x iv ih => ?_) 27 0 (by decide) (by decide)
  show mw _ _ _ _ _ _ _ _ _ _ _ _ _ _ _ _ _ _ _ _ _ (if 26 ≤ x then -1 else if wdCode x = p1 then x else f10_of_lp p1 k (x + 1))
  refine mw_iload_n cx (q := 3) 0 rfl rfl dX10_of_2 rfl ?_
  refine mw_gets cx (q := 6) (v := .ref (ad 10 2 0)) hA fk_X10_132 dX10_of_3 rfl ?_
  refine mw_tlen cx (q := 7) (v := 26) hT rfl dX10_of_6 rfl ?_
  refine mw_icmp_ge cx (tgt := 34) (q := 10) dX10_of_7 (by decide) rfl (fun h => ?_) (fun h => ?_)
  · refine mw_null cx (q := 35) dX10_of_34 rfl ?_
    exact mw_aret cx hr (Or.inl ⟨_, rfl⟩) (Or.inl rfl) rfl dX10_of_35
  · have hx : vp_in x 26 := by rw [vp_in_iff]; simp only [i32le, t32_26] at h; omega
    have hx0 : ¬ x < 0 := fun z => hx (Or.inl z)
    have hv : (fun j : Nat => Value.ref (ad 10 0 (nI j))) x.toNatClampNeg = .ref (ad 10 0 x) := by show Value.ref (ad 10 0 (nI x.toNatClampNeg)) = _; rw [nI_tn hx]
    refine mw_gets cx (q := 13) (v := .ref (ad 10 2 0)) hA fk_X10_132 dX10_of_10 rfl ?_
    refine mw_iload_n cx (q := 14) 0 rfl rfl dX10_of_13 rfl ?_
    refine mw_tq cx (q := 15) hT hx hv dX10_of_14 rfl ?_
    refine mw_getK cx (q := 18) (v := .int (wdCode x)) ((cx_st cx).2.1 x hx).2.1 fk_X10_120 dX10_of_15 rfl ?_
    refine mw_iload_n cx (q := 19) 1 rfl rfl dX10_of_18 rfl ?_
    refine mw_icmp_ne cx (tgt := 28) (q := 22) dX10_of_19 (by decide) rfl (fun h2 => ?_) (fun h2 => ?_)
    · refine mw_iinc cx (q := 31) (v := x + 1) (lv' := [(1, .int (x + 1)), (0, .int p1)]) 0 rfl rfl rfl (by decide) dX10_of_28 rfl ?_
      refine mw_goto cx (tgt := 2) dX10_of_31 (by decide) ?_
      have hq : (x + 1).toInt = x.toInt + 1 := by simp only [i32le, t32_26] at h; rw [i32addn (by rw [t32_1]; omega) (by rw [t32_1]; omega), t32_1]
      simp only [i32le, t32_26] at h
      exact ih (x + 1) ⟨by omega, by omega⟩ (by omega)
    · refine mw_gets cx (q := 25) (v := .ref (ad 10 2 0)) hA fk_X10_132 dX10_of_22 rfl ?_
      refine mw_iload_n cx (q := 26) 0 rfl rfl dX10_of_25 rfl ?_
      refine mw_tq cx (q := 27) hT hx hv dX10_of_26 rfl ?_
      exact mw_aret cx hr (Or.inl ⟨_, rfl⟩) (Or.inr ⟨_, rfl⟩) (by show (some (wref ad x), M) = _; rw [wref, if_neg hx0]) dX10_of_27
theorem f10_of_lp_in (p1 : Int32) : ∀ (k : Nat) (x : Int32), 0 ≤ x.toInt → x.toInt ≤ 26 → ¬ f10_of_lp p1 k x < 0 → vp_in (f10_of_lp p1 k x) 26 ∧ wdCode (f10_of_lp p1 k x) = p1 := by
  intro k
  induction k with
  | zero => intro x _ _ h; exact absurd (show (-1 : Int32) < 0 by decide) h
  | succ k ih =>
    intro x h0 h1 h
    unfold f10_of_lp at h ⊢
    by_cases c1 : 26 ≤ x
    · rw [if_pos c1] at h; exact absurd (by decide) h
    · rw [if_neg c1] at h ⊢
      simp only [i32le, t32_26] at c1
      by_cases c2 : wdCode x = p1
      · rw [if_pos c2]; exact ⟨by rw [vp_in_iff]; omega, c2⟩
      · rw [if_neg c2] at h ⊢
        have hq : (x + 1).toInt = x.toInt + 1 := by rw [i32addn (by rw [t32_1]; omega) (by rw [t32_1]; omega), t32_1]
        exact ih (x + 1) (by omega) (by omega) h
theorem f10_of_in {p1 : Int32} (h : ¬ f10_of p1 < 0) : vp_in (f10_of p1) 26 := (f10_of_lp_in p1 27 0 (by decide) (by decide) h).1
def f10_allows (w p1 : Int32) : Bool := if p1 = fstrLen (wdForm w) then true else if wdOn w = 0 then false else if p1 ≤ fstrLen (wdForm w) then false else true
set_option maxHeartbeats 4000000 in
set_option maxRecDepth 100000 in
theorem mc_X10_allows (l : Launch) (D : va_G) (ta : wTa) (ad : wAd) (M : Wm) (w p1 : Int32) (hw : vp_in w 26) : MC l D ta ad yX10_allows cX10_allows 2 (some .boolean) 2 [.ref (ad 10 0 w), .int p1] M (fzp M (f10_allows w p1)) := by
  refine MC.of (fzp M) (f10_allows w p1) rfl (by decide) (Nat.le_of_ble_eq_true rfl) (fun p e s m args below meth c cx hr => ?_)
  have hS := (cx_st cx).2.1 w hw
  have hf := wd_formI hw
  unfold f10_allows
  refine mw_sub (lv' := [(0, .ref (ad 10 0 w)), (1, .int p1)]) [0, 1] rfl ?_
  refine mw_iload_n cx (q := 1) 1 rfl rfl dX10_allows_0 rfl ?_
  refine mw_aload_n cx (q := 2) 0 rfl rfl dX10_allows_1 rfl ?_
  refine mw_getK cx (q := 5) (v := .ref (ad 10 1 (wdForm w))) hS.2.2.1 fk_X10_124 dX10_allows_2 rfl ?_
  refine mw_callVK cx (q := 8) (d := 1) (As := []) (z := fip M (fstrLen (wdForm w))) (st := [.int p1]) (st1 := [.int (fstrLen (wdForm w)), .int p1]) (M' := M) (mc_strLen l D ta ad M (wdForm w) hf) cv_X10_106 ((cx_st cx).2.2.1 _ hf).1 ⟨Nat.le_of_ble_eq_true rfl, Nat.le_of_ble_eq_true rfl⟩ ⟨Nat.le_refl _, Nat.le_refl _⟩ (by simp [Value.category]) rfl rfl rfl dX10_allows_5 rfl ?_
  refine mw_icmp_eq cx (tgt := 29) (q := 11) dX10_allows_8 (by decide) rfl (fun h => ?_) (fun h => ?_)
  · refine mw_iconst cx (q := 30) (v := 1) dX10_allows_29 rfl rfl ?_
    refine mw_goto cx (tgt := 34) dX10_allows_30 (by decide) ?_
    exact mw_zret cx hr rfl rfl dX10_allows_34
  · refine mw_aload_n cx (q := 12) 0 rfl rfl dX10_allows_11 rfl ?_
    refine mw_getK cx (q := 15) (v := .int (wdOn w)) hS.2.2.2.1 fk_X10_128 dX10_allows_12 rfl ?_
    refine mw_if_eq cx (tgt := 33) (q := 18) dX10_allows_15 (by decide) rfl (fun h => ?_) (fun h => ?_)
    · refine mw_iconst cx (q := 34) (v := 0) dX10_allows_33 rfl rfl ?_
      exact mw_zret cx hr rfl rfl dX10_allows_34
    · refine mw_iload_n cx (q := 19) 1 rfl rfl dX10_allows_18 rfl ?_
      refine mw_aload_n cx (q := 20) 0 rfl rfl dX10_allows_19 rfl ?_
      refine mw_getK cx (q := 23) (v := .ref (ad 10 1 (wdForm w))) hS.2.2.1 fk_X10_124 dX10_allows_20 rfl ?_
      refine mw_callVK cx (q := 26) (d := 1) (As := []) (z := fip M (fstrLen (wdForm w))) (st := [.int p1]) (st1 := [.int (fstrLen (wdForm w)), .int p1]) (M' := M) (mc_strLen l D ta ad M (wdForm w) hf) cv_X10_106 ((cx_st cx).2.2.1 _ hf).1 ⟨Nat.le_of_ble_eq_true rfl, Nat.le_of_ble_eq_true rfl⟩ ⟨Nat.le_refl _, Nat.le_refl _⟩ (by simp [Value.category]) rfl rfl rfl dX10_allows_23 rfl ?_
      refine mw_icmp_le cx (tgt := 33) (q := 29) dX10_allows_26 (by decide) rfl (fun h => ?_) (fun h => ?_)
      · refine mw_iconst cx (q := 34) (v := 0) dX10_allows_33 rfl rfl ?_
        exact mw_zret cx hr rfl rfl dX10_allows_34
      · refine mw_iconst cx (q := 30) (v := 1) dX10_allows_29 rfl rfl ?_
        refine mw_goto cx (tgt := 34) dX10_allows_30 (by decide) ?_
        exact mw_zret cx hr rfl rfl dX10_allows_34
