theorem ok7_f7_valueOfFunction (VA : Wm → Int32 → Int32 → Int32 × Wm) (hOk : HOk VA) {M : Wm} (h : Ok7 M) (p1 p2 p3 : Int32) : Ok7 (f7_valueOfFunction VA M p1 p2 p3).2 := by
  have key : ∀ {N : Wm} (_ : Ok7 N) (e a b c q : Int32), Ok7 (uW (f7_valueOfPart VA (f7_bindInner (f7_bindInner (f7_bindInner (uW N 2 (f2_enter (N 2)).2) e 0 a) e 1 b) e 2 c) q 3 p3).2 2 (f2_leave ((f7_valueOfPart VA (f7_bindInner (f7_bindInner (f7_bindInner (uW N 2 (f2_enter (N 2)).2) e 0 a) e 1 b) e 2 c) q 3 p3).2 2) (f2_enter (N 2)).1)) := by
    intro N hN e a b c q
    have h1 := ok7_f7_bindInner (ok7_f7_bindInner (ok7_f7_bindInner (ok7_f2_enter hN) e 0 a) e 1 b) e 2 c
    exact ok7_f2_leave (ok7_f7_valueOfPart VA hOk h1 q 3 p3) _ ⟨hN.2.2.2.1, hN.2.2.2.2.1⟩
  have h1 := ok7_f7_valueOfPart VA hOk h p2 1 p3
  have h2 := ok7_f7_valueOfPart VA hOk h1 p2 2 p3
  have h3 := ok7_f7_valueOfPart VA hOk h2 p2 3 p3
  have g1 := ok7_f7_valueOfPart VA hOk h p2 2 p3
  have g2 := ok7_f7_valueOfPart VA hOk g1 p2 3 p3
  have g3 := ok7_f7_valueOfPart VA hOk h p2 3 p3
  have g4 := ok7_f7_valueOfPart VA hOk h1 p2 3 p3
  unfold f7_valueOfFunction; simp only [bnd, jn]
  repeat' split
  all_goals first
    | with_reducible exact ok7_f7_stop h _
    | with_reducible exact key h _ _ _ _ _
    | with_reducible exact key h1 _ _ _ _ _
    | with_reducible exact key h2 _ _ _ _ _
    | with_reducible exact key h3 _ _ _ _ _
    | with_reducible exact key g1 _ _ _ _ _
    | with_reducible exact key g2 _ _ _ _ _
    | with_reducible exact key g3 _ _ _ _ _
    | with_reducible exact key g4 _ _ _ _ _
theorem ok7_f7_valueOfScript (VA : Wm → Int32 → Int32 → Int32 × Wm) (hOk : HOk VA) {M : Wm} (h : Ok7 M) (p1 p2 : Int32) : Ok7 (f7_valueOfScript VA M p1 p2).2 := by
  have hb : Ok7 (uW (f7_valueOfRow VA (uW M 2 (f2_enter (M 2)).2) (f9_rowOf p1) 0 p2).2 2 (f2_leave ((f7_valueOfRow VA (uW M 2 (f2_enter (M 2)).2) (f9_rowOf p1) 0 p2).2 2) (f2_enter (M 2)).1)) := ok7_f2_leave (ok7_f7_valueOfRow VA hOk (ok7_f2_enter h) _ 0 p2) _ ⟨h.2.2.2.1, h.2.2.2.2.1⟩
  unfold f7_valueOfScript; simp only [bnd, jn]
  repeat' split
  all_goals first | with_reducible exact h | with_reducible exact ok7_f7_stop h _ | with_reducible exact hb
theorem ok7_f7_give (VA : Wm → Int32 → Int32 → Int32 × Wm) (hOk : HOk VA) {M : Wm} (h : Ok7 M) (p1 p2 : Int32) : Ok7 (f7_give VA M p1 p2).2 := by
  have h2 := ok7_f7_valueOfPart VA hOk (ok7_f7_valueOfPart VA hOk h p1 1 p2) p1 3 p2
  unfold f7_give; simp only [bnd, jn]
  repeat' split
  all_goals first | with_reducible exact ok7_f7_stop h2 _ | skip
  all_goals refine ok7_f7_carry h2 _ _ _ _ (own_in h2.1) (fun h9 => ?_)
  all_goals first | (exact absurd h9 (by assumption)) | exact own_in (isIn_in (by assumption) (by decide))
theorem ok7_f7_orderAhead (VA : Wm → Int32 → Int32 → Int32 × Wm) (hOk : HOk VA) {M : Wm} (h : Ok7 M) (p1 p2 : Int32) : Ok7 (f7_orderAhead VA M p1 p2).2 := by
  have h3 := ok7_f7_valueOfPart VA hOk (ok7_f7_valueOfPart VA hOk (ok7_f7_valueOfPart VA hOk h p1 1 p2) p1 2 p2) p1 3 p2
  unfold f7_orderAhead; simp only [bnd, jn]
  repeat' split
  all_goals first | with_reducible exact h3 | with_reducible exact ok7_f7_stop h3 _ | with_reducible exact ok7_f4_add h3 _ _ _ _
def f7_valueOfList (VA : Wm → Int32 → Int32 → Int32 × Wm) (M : Wm) (p1 : Int32) (p2 : Int32) : (Int32 × Wm) := bnd (f9_partOf (M 9) p1 0) (fun (r1 : Int32) => bnd (f9_kindOf (M 9) r1) (fun (r2 : Int32) => if r2 = 2 then bnd (f9_contentOf (M 9) r1) (fun (r4 : Int32) => bnd (f10_of r4) (fun (r5 : Int32) => if r5 < 0 then bnd (f9_contentOf (M 9) r1) (fun (r7 : Int32) => bnd (f7_valueOfFunction VA M r7 p1 p2) (fun (r8 : Int32 × Wm) => (r8.1, r8.2))) else bnd (f7_fits M p1 r5) (fun (r10 : Bool) => if r10 = true then if (wdSw r5) = 1 then bnd (f7_valueOfPart VA M p1 1 p2) (fun (r13 : Int32 × Wm) => if r13.1 = 0 then (1, r13.2) else (0, r13.2)) else if (wdSw r5) = 2 then bnd (f7_valueOfChoice VA M r5 p1 p2) (fun (r17 : Int32 × Wm) => (r17.1, r17.2)) else if (wdSw r5) = 3 then bnd (f7_valueOfChoice VA M r5 p1 p2) (fun (r20 : Int32 × Wm) => (r20.1, r20.2)) else if (wdSw r5) = 4 then bnd (f7_valueOfChoice VA M r5 p1 p2) (fun (r23 : Int32 × Wm) => (r23.1, r23.2)) else if (wdSw r5) = 5 then bnd (f7_valueOfWhile VA M p1 p2) (fun (r26 : Int32 × Wm) => (r26.1, r26.2)) else if (wdSw r5) = 6 then bnd (f7_valueOfRow VA M p1 1 p2) (fun (r29 : Int32 × Wm) => (r29.1, r29.2)) else if (wdSw r5) = 7 then bnd (f7_valueOfLet VA M p1 p2) (fun (r32 : Int32 × Wm) => (r32.1, r32.2)) else if (wdSw r5) = 8 then bnd (f7_setBinding VA M p1 p2) (fun (r35 : Int32 × Wm) => (r35.1, r35.2)) else if (wdSw r5) = 9 then bnd (f7_define M p1) (fun (r38 : Int32 × Wm) => (r38.1, r38.2)) else if (wdSw r5) = 10 then bnd (f9_partOf (M 9) p1 1) (fun (r41 : Int32) => bnd (f7_valueOfPart VA M p1 2 p2) (fun (r42 : Int32 × Wm) => bnd (f7_carry r42.2 (-1) (M 7 0 0 7) r41 r42.1) (fun (r44 : Int32 × Wm) => (r44.1, r44.2)))) else if (wdSw r5) = 11 then bnd (f9_partOf (M 9) p1 1) (fun (r47 : Int32) => bnd (f7_valueOfPart VA M p1 2 p2) (fun (r48 : Int32 × Wm) => bnd (f7_carry r48.2 (M 7 0 0 7) (-1) r47 r48.1) (fun (r50 : Int32 × Wm) => (r50.1, r50.2)))) else if (wdSw r5) = 12 then bnd (f7_give VA M p1 p2) (fun (r53 : Int32 × Wm) => (r53.1, r53.2)) else if (wdSw r5) = 13 then bnd (f7_orderAhead VA M p1 p2) (fun (r56 : Int32 × Wm) => (r56.1, r56.2)) else if (wdSw r5) = 14 then bnd (f7_valueOfPart VA M p1 1 p2) (fun (r59 : Int32 × Wm) => bnd (f7_valueOfScript VA r59.2 r59.1 p2) (fun (r61 : Int32 × Wm) => (r61.1, r61.2))) else if (wdSw r5) = 15 then bnd (f7_valueOfPart VA M p1 1 p2) (fun (r64 : Int32 × Wm) => bnd (f7_buyWith r64.2 r64.1) (fun (r66 : Int32 × Wm) => (r66.1, r66.2))) else if (wdSw r5) = 16 then bnd (f5_fuelOf (M 5) (M 7 0 0 7)) (fun (r69 : Int32) => (r69, M)) else if (wdSw r5) = 17 then ((M 4 0 0 2), M) else bnd (f7_valueOfPart VA M p1 1 p2) (fun (r71 : Int32 × Wm) => bnd (f7_valueOfPart VA r71.2 p1 2 p2) (fun (r73 : Int32 × Wm) => bnd (f7_combine r73.2 r5 r71.1 r73.1) (fun (r75 : Int32 × Wm) => (r75.1, r75.2)))) else bnd (f7_stop (M 7) 4) (fun (r77 : Int32 × Cm) => bnd (uW M 7 r77.2) (fun (M78 : Wm) => (r77.1, M78)))))) else bnd (f7_stop (M 7) 4) (fun (r80 : Int32 × Cm) => bnd (uW M 7 r80.2) (fun (M81 : Wm) => (r80.1, M81)))))
set_option maxHeartbeats 4000000 in
set_option maxRecDepth 100000 in
theorem mc_X7_valueOfList (l : Launch) (D : va_G) (ta : wTa) (ad : wAd) (d : Nat) (VA : Wm → Int32 → Int32 → Int32 × Wm) (P : Int32 → Prop) (hVA : HVA l D ta ad d VA P) (hOk : HOk VA) (M : Wm) (p1 : Int32) (p2 : Int32) (hok : Ok7 M) (hP : P (p2 + 1)) : MC l D ta ad yX7_valueOfList cX7_valueOfList 5 (some .int) (d + 6) [.ref (ad 7 0 0), .int p1, .int p2] M (fi (f7_valueOfList VA M p1 p2)) := by
  refine MC.of (fi) (f7_valueOfList VA M p1 p2) rfl (by decide) (Nat.le_of_ble_eq_true rfl) (fun p e s m args below meth c cx hr => ?_)
  unfold f7_valueOfList
  refine mw_sub (lv' := [(0, .ref (ad 7 0 0)), (1, .int p1), (2, .int p2)]) [0, 1, 2] rfl ?_
  refine mw_aload_n cx (q := 1) 0 rfl rfl dX7_valueOfList_0 rfl ?_
  refine mw_get cx (q := 4) (v := .ref (ad 9 0 0)) gf_X7_18 rfl rfl vi_7_0 dX7_valueOfList_1 rfl ?_
  refine mw_iload_n cx (q := 5) 1 rfl rfl dX7_valueOfList_4 rfl ?_
  refine mw_iconst cx (q := 6) (v := 0) dX7_valueOfList_5 rfl rfl ?_
  refine mw_bnd (fun r1 er1 => ?_)
  refine mw_callV cx (q := 9) (d := 0) (As := [.int p1, .int 0]) (z := fip M r1) (st := []) (st1 := [.int r1]) (M' := M) (by rw [er1]; exact mc_X9_partOf l D ta ad M p1 0) cv_X7_86 rfl rfl rfl vi_9_0 ⟨by show _ ≤ d + 6; omega, by show _ ≤ 40 * (d + 6); omega⟩ ⟨Nat.le_refl _, Nat.le_refl _⟩ (by simp [Value.category]) rfl rfl rfl dX7_valueOfList_6 rfl ?_
  refine mw_istore_n cx (q := 10) (lv' := [(3, .int r1), (0, .ref (ad 7 0 0)), (1, .int p1), (2, .int p2)]) rfl rfl (by decide) dX7_valueOfList_9 rfl ?_
  refine mw_aload_n cx (q := 11) 1 rfl rfl dX7_valueOfList_10 rfl ?_
  refine mw_get cx (q := 14) (v := .ref (ad 9 0 0)) gf_X7_18 rfl rfl vi_7_0 dX7_valueOfList_11 rfl ?_
  refine mw_iload_n cx (q := 15) 0 rfl rfl dX7_valueOfList_14 rfl ?_
  refine mw_bnd (fun r2 er2 => ?_)
  refine mw_callV cx (q := 18) (d := 0) (As := [.int r1]) (z := fip M r2) (st := []) (st1 := [.int r2]) (M' := M) (by rw [er2]; exact mc_X9_kindOf l D ta ad M r1) cv_X7_139 rfl rfl rfl vi_9_0 ⟨by show _ ≤ d + 6; omega, by show _ ≤ 40 * (d + 6); omega⟩ ⟨Nat.le_refl _, Nat.le_refl _⟩ (by simp [Value.category]) rfl rfl rfl dX7_valueOfList_15 rfl ?_
  refine mw_iconst cx (q := 19) (v := 2) dX7_valueOfList_18 rfl rfl ?_
  refine mw_icmp_eq cx (tgt := 28) (q := 22) dX7_valueOfList_19 (by decide) rfl (fun h3 => ?_) (fun h3 => ?_)
  · refine mw_aload_n cx (q := 29) 1 rfl rfl dX7_valueOfList_28 rfl ?_
    refine mw_get cx (q := 32) (v := .ref (ad 9 0 0)) gf_X7_18 rfl rfl vi_7_0 dX7_valueOfList_29 rfl ?_
    refine mw_iload_n cx (q := 33) 0 rfl rfl dX7_valueOfList_32 rfl ?_
    refine mw_bnd (fun r4 er4 => ?_)
    refine mw_callV cx (q := 36) (d := 0) (As := [.int r1]) (z := fip M r4) (st := []) (st1 := [.int r4]) (M' := M) (by rw [er4]; exact mc_X9_contentOf l D ta ad M r1) cv_X7_142 rfl rfl rfl vi_9_0 ⟨by show _ ≤ d + 6; omega, by show _ ≤ 40 * (d + 6); omega⟩ ⟨Nat.le_refl _, Nat.le_refl _⟩ (by simp [Value.category]) rfl rfl rfl dX7_valueOfList_33 rfl ?_
    refine mw_bnd (fun r5 er5 => ?_)
    refine mw_split (fun h6 => ?_) (fun h6 => ?_)
    · refine mw_callS cx (q := 39) (d := 0) (As := [.int r4]) (z := frw ad M r5) (st := []) (st1 := [.null]) (M' := M) (by rw [er5]; exact mc_X10_of l D ta ad M r4) cv_X7_164 ⟨by show _ ≤ d + 6; omega, by show _ ≤ 40 * (d + 6); omega⟩ ⟨Nat.le_refl _, Nat.le_refl _⟩ (by simp [Value.category]) rfl (by show (wref ad r5 :: _) = _; rw [wref, if_pos h6]; rfl) rfl dX7_valueOfList_36 rfl ?_
      refine mw_astoreN cx (q := 41) (lv' := [(4, .null), (3, .int r1), (0, .ref (ad 7 0 0)), (1, .int p1), (2, .int p2)]) rfl (by decide) dX7_valueOfList_39 rfl ?_
      refine mw_aloadN cx (q := 43) 0 rfl dX7_valueOfList_41 rfl ?_
      refine mw_ifnonnullN cx (q := 46) dX7_valueOfList_43 rfl ?_
      refine mw_aload_n cx (q := 47) 2 rfl rfl dX7_valueOfList_46 rfl ?_
      refine mw_aload_n cx (q := 48) 2 rfl rfl dX7_valueOfList_47 rfl ?_
      refine mw_get cx (q := 51) (v := .ref (ad 9 0 0)) gf_X7_18 rfl rfl vi_7_0 dX7_valueOfList_48 rfl ?_
      refine mw_iload_n cx (q := 52) 1 rfl rfl dX7_valueOfList_51 rfl ?_
      refine mw_bnd (fun r7 er7 => ?_)
      refine mw_callV cx (q := 55) (d := 0) (As := [.int r1]) (z := fip M r7) (st := [.ref (ad 7 0 0)]) (st1 := [.int r7, .ref (ad 7 0 0)]) (M' := M) (by rw [er7]; exact mc_X9_contentOf l D ta ad M r1) cv_X7_142 rfl rfl rfl vi_9_0 ⟨by show _ ≤ d + 6; omega, by show _ ≤ 40 * (d + 6); omega⟩ ⟨Nat.le_refl _, Nat.le_refl _⟩ (by simp [Value.category]) rfl rfl rfl dX7_valueOfList_52 rfl ?_
      refine mw_iload_n cx (q := 56) 3 rfl rfl dX7_valueOfList_55 rfl ?_
      refine mw_iload_n cx (q := 57) 4 rfl rfl dX7_valueOfList_56 rfl ?_
      refine mw_bnd (fun r8 er8 => ?_)
      refine mw_callV cx (q := 60) (d := d + 2) (As := [.int r7, .int p1, .int p2]) (z := fi r8) (st := []) (st1 := [.int r8.1]) (M' := r8.2) (by rw [er8]; exact mc_X7_valueOfFunction l D ta ad d VA P hVA hOk M r7 p1 p2 hok hP) cv_X7_168 rfl rfl rfl vi_7_0 ⟨by show _ ≤ d + 6; omega, by show _ ≤ 40 * (d + 6); omega⟩ ⟨Nat.le_refl _, Nat.le_refl _⟩ (by simp [Value.category]) rfl rfl rfl dX7_valueOfList_57 rfl ?_
      have ok9 : Ok7 r8.2 := (by rw [er8]; exact ok7_f7_valueOfFunction VA hOk hok r7 p1 p2)
      exact mw_iret cx hr rfl dX7_valueOfList_60
    · have wr5 : vp_in r5 26 := (by rw [er5] at h6 ⊢; exact f10_of_in h6)
      refine mw_callS cx (q := 39) (d := 0) (As := [.int r4]) (z := frw ad M r5) (st := []) (st1 := [.ref (ad 10 0 r5)]) (M' := M) (by rw [er5]; exact mc_X10_of l D ta ad M r4) cv_X7_164 ⟨by show _ ≤ d + 6; omega, by show _ ≤ 40 * (d + 6); omega⟩ ⟨Nat.le_refl _, Nat.le_refl _⟩ (by simp [Value.category]) rfl (by show (wref ad r5 :: _) = _; rw [wref, if_neg h6]; rfl) rfl dX7_valueOfList_36 rfl ?_
      refine mw_astore cx (q := 41) (lv' := [(4, .ref (ad 10 0 r5)), (3, .int r1), (0, .ref (ad 7 0 0)), (1, .int p1), (2, .int p2)]) rfl (by decide) dX7_valueOfList_39 rfl ?_
      refine mw_aload cx (q := 43) 0 rfl dX7_valueOfList_41 rfl ?_
      refine mw_ifnonnull cx (tgt := 61) dX7_valueOfList_43 (by decide) ?_
      refine mw_aload_n cx (q := 62) 2 rfl rfl dX7_valueOfList_61 rfl ?_
      refine mw_iload_n cx (q := 63) 3 rfl rfl dX7_valueOfList_62 rfl ?_
      refine mw_aload cx (q := 65) 0 rfl dX7_valueOfList_63 rfl ?_
      refine mw_bnd (fun r10 er10 => ?_)
      refine mw_callV cx (q := 68) (d := 4) (As := [.int p1, .ref (ad 10 0 r5)]) (z := fzp M r10) (st := []) (st1 := [.int (b2i r10)]) (M' := M) (by rw [er10]; exact mc_X7_fits l D ta ad M p1 r5 wr5) cv_X7_172 rfl rfl rfl vi_7_0 ⟨by show _ ≤ d + 6; omega, by show _ ≤ 40 * (d + 6); omega⟩ ⟨Nat.le_refl _, Nat.le_refl _⟩ (by simp [Value.category]) rfl rfl rfl dX7_valueOfList_65 rfl ?_
      refine mw_ifb_ne cx (tgt := 77) (q := 71) dX7_valueOfList_68 (by decide) rfl (fun h11 => ?_) (fun h11 => ?_)
      · refine mw_gets cx (q := 80) (v := .ref (ad 10 3 0)) (cx_st cx).1.2.1 fk_X7_176 dX7_valueOfList_77 rfl ?_
        refine mw_aload cx (q := 82) 0 rfl dX7_valueOfList_80 rfl ?_
        refine mw_callUK cx (q := 85) (d := 0) (As := []) (z := fip M r5) (st := [.ref (ad 10 3 0)]) (st1 := [.int r5, .ref (ad 10 3 0)]) (M' := M) (by exact mc_ordinal l D ta ad M r5 wr5) cu_X7_182 ((cx_st cx).2.1 _ wr5).1 ⟨by show _ ≤ d + 6; omega, by show _ ≤ 40 * (d + 6); omega⟩ ⟨Nat.le_refl _, Nat.le_refl _⟩ (by simp [Value.category]) rfl rfl rfl dX7_valueOfList_82 rfl ?_
        refine mw_ti cx (q := 86) (v := .int (wdSw r5)) (cx_st cx).2.2.2.2.1 wr5 (by rw [nI_tn wr5]) dX7_valueOfList_85 rfl ?_
        refine mw_split (fun h12 => ?_) (fun h12 => ?_)
        · refine mw_tableIn cx (tgt := 168) dX7_valueOfList_86 (by rw [h12]; decide) (by rw [h12]; decide) (by rw [h12]; try rfl) (by decide) ?_
          refine mw_aload_n cx (q := 169) 2 rfl rfl dX7_valueOfList_168 rfl ?_
          refine mw_iload_n cx (q := 170) 3 rfl rfl dX7_valueOfList_169 rfl ?_
          refine mw_iconst cx (q := 171) (v := 1) dX7_valueOfList_170 rfl rfl ?_
          refine mw_iload_n cx (q := 172) 4 rfl rfl dX7_valueOfList_171 rfl ?_
          refine mw_bnd (fun r13 er13 => ?_)
          refine mw_callV cx (q := 175) (d := d + 1) (As := [.int p1, .int 1, .int p2]) (z := fi r13) (st := []) (st1 := [.int r13.1]) (M' := r13.2) (by rw [er13]; exact mc_X7_valueOfPart l D ta ad d VA P hVA hOk M p1 1 p2 hok hP) cv_X7_185 rfl rfl rfl vi_7_0 ⟨by show _ ≤ d + 6; omega, by show _ ≤ 40 * (d + 6); omega⟩ ⟨Nat.le_refl _, Nat.le_refl _⟩ (by simp [Value.category]) rfl rfl rfl dX7_valueOfList_172 rfl ?_
          have ok14 : Ok7 r13.2 := (by rw [er13]; exact ok7_f7_valueOfPart VA hOk hok p1 1 p2)
          refine mw_if_ne cx (tgt := 182) (q := 178) dX7_valueOfList_175 (by decide) rfl (fun h15 => ?_) (fun h15 => ?_)
          · refine mw_iconst cx (q := 183) (v := 0) dX7_valueOfList_182 rfl rfl ?_
            exact mw_iret cx hr rfl dX7_valueOfList_183
          · refine mw_iconst cx (q := 179) (v := 1) dX7_valueOfList_178 rfl rfl ?_
            refine mw_goto cx (tgt := 183) dX7_valueOfList_179 (by decide) ?_
            exact mw_iret cx hr rfl dX7_valueOfList_183
        · refine mw_split (fun h16 => ?_) (fun h16 => ?_)
          · refine mw_tableIn cx (tgt := 184) dX7_valueOfList_86 (by rw [h16]; decide) (by rw [h16]; decide) (by rw [h16]; try rfl) (by decide) ?_
            refine mw_aload_n cx (q := 185) 2 rfl rfl dX7_valueOfList_184 rfl ?_
            refine mw_aload cx (q := 187) 0 rfl dX7_valueOfList_185 rfl ?_
            refine mw_iload_n cx (q := 188) 3 rfl rfl dX7_valueOfList_187 rfl ?_
            refine mw_iload_n cx (q := 189) 4 rfl rfl dX7_valueOfList_188 rfl ?_
            refine mw_bnd (fun r17 er17 => ?_)
            refine mw_callV cx (q := 192) (d := d + 2) (As := [.ref (ad 10 0 r5), .int p1, .int p2]) (z := fi r17) (st := []) (st1 := [.int r17.1]) (M' := r17.2) (by rw [er17]; exact mc_X7_valueOfChoice l D ta ad d VA P hVA hOk M r5 p1 p2 hok wr5 hP) cv_X7_188 rfl rfl rfl vi_7_0 ⟨by show _ ≤ d + 6; omega, by show _ ≤ 40 * (d + 6); omega⟩ ⟨Nat.le_refl _, Nat.le_refl _⟩ (by simp [Value.category]) rfl rfl rfl dX7_valueOfList_189 rfl ?_
            have ok18 : Ok7 r17.2 := (by rw [er17]; exact ok7_f7_valueOfChoice VA hOk hok r5 p1 p2)
            exact mw_iret cx hr rfl dX7_valueOfList_192
          · refine mw_split (fun h19 => ?_) (fun h19 => ?_)
            · refine mw_tableIn cx (tgt := 184) dX7_valueOfList_86 (by rw [h19]; decide) (by rw [h19]; decide) (by rw [h19]; try rfl) (by decide) ?_
              refine mw_aload_n cx (q := 185) 2 rfl rfl dX7_valueOfList_184 rfl ?_
              refine mw_aload cx (q := 187) 0 rfl dX7_valueOfList_185 rfl ?_
              refine mw_iload_n cx (q := 188) 3 rfl rfl dX7_valueOfList_187 rfl ?_
              refine mw_iload_n cx (q := 189) 4 rfl rfl dX7_valueOfList_188 rfl ?_
              refine mw_bnd (fun r20 er20 => ?_)
              refine mw_callV cx (q := 192) (d := d + 2) (As := [.ref (ad 10 0 r5), .int p1, .int p2]) (z := fi r20) (st := []) (st1 := [.int r20.1]) (M' := r20.2) (by rw [er20]; exact mc_X7_valueOfChoice l D ta ad d VA P hVA hOk M r5 p1 p2 hok wr5 hP) cv_X7_188 rfl rfl rfl vi_7_0 ⟨by show _ ≤ d + 6; omega, by show _ ≤ 40 * (d + 6); omega⟩ ⟨Nat.le_refl _, Nat.le_refl _⟩ (by simp [Value.category]) rfl rfl rfl dX7_valueOfList_189 rfl ?_
              have ok21 : Ok7 r20.2 := (by rw [er20]; exact ok7_f7_valueOfChoice VA hOk hok r5 p1 p2)
              exact mw_iret cx hr rfl dX7_valueOfList_192
            · refine mw_split (fun h22 => ?_) (fun h22 => ?_)
              · refine mw_tableIn cx (tgt := 184) dX7_valueOfList_86 (by rw [h22]; decide) (by rw [h22]; decide) (by rw [h22]; try rfl) (by decide) ?_
                refine mw_aload_n cx (q := 185) 2 rfl rfl dX7_valueOfList_184 rfl ?_
                refine mw_aload cx (q := 187) 0 rfl dX7_valueOfList_185 rfl ?_
                refine mw_iload_n cx (q := 188) 3 rfl rfl dX7_valueOfList_187 rfl ?_
                refine mw_iload_n cx (q := 189) 4 rfl rfl dX7_valueOfList_188 rfl ?_
                refine mw_bnd (fun r23 er23 => ?_)
                refine mw_callV cx (q := 192) (d := d + 2) (As := [.ref (ad 10 0 r5), .int p1, .int p2]) (z := fi r23) (st := []) (st1 := [.int r23.1]) (M' := r23.2) (by rw [er23]; exact mc_X7_valueOfChoice l D ta ad d VA P hVA hOk M r5 p1 p2 hok wr5 hP) cv_X7_188 rfl rfl rfl vi_7_0 ⟨by show _ ≤ d + 6; omega, by show _ ≤ 40 * (d + 6); omega⟩ ⟨Nat.le_refl _, Nat.le_refl _⟩ (by simp [Value.category]) rfl rfl rfl dX7_valueOfList_189 rfl ?_
                have ok24 : Ok7 r23.2 := (by rw [er23]; exact ok7_f7_valueOfChoice VA hOk hok r5 p1 p2)
                exact mw_iret cx hr rfl dX7_valueOfList_192
              · refine mw_split (fun h25 => ?_) (fun h25 => ?_)
                · refine mw_tableIn cx (tgt := 193) dX7_valueOfList_86 (by rw [h25]; decide) (by rw [h25]; decide) (by rw [h25]; try rfl) (by decide) ?_
                  refine mw_aload_n cx (q := 194) 2 rfl rfl dX7_valueOfList_193 rfl ?_
                  refine mw_iload_n cx (q := 195) 3 rfl rfl dX7_valueOfList_194 rfl ?_
                  refine mw_iload_n cx (q := 196) 4 rfl rfl dX7_valueOfList_195 rfl ?_
                  refine mw_bnd (fun r26 er26 => ?_)
                  refine mw_callV cx (q := 199) (d := d + 2) (As := [.int p1, .int p2]) (z := fi r26) (st := []) (st1 := [.int r26.1]) (M' := r26.2) (by rw [er26]; exact mc_X7_valueOfWhile l D ta ad d VA P hVA hOk M p1 p2 hok hP) cv_X7_192 rfl rfl rfl vi_7_0 ⟨by show _ ≤ d + 6; omega, by show _ ≤ 40 * (d + 6); omega⟩ ⟨Nat.le_refl _, Nat.le_refl _⟩ (by simp [Value.category]) rfl rfl rfl dX7_valueOfList_196 rfl ?_
                  have ok27 : Ok7 r26.2 := (by rw [er26]; exact ok7_f7_valueOfWhile VA hOk hok p1 p2)
                  exact mw_iret cx hr rfl dX7_valueOfList_199
                · refine mw_split (fun h28 => ?_) (fun h28 => ?_)
                  · refine mw_tableIn cx (tgt := 200) dX7_valueOfList_86 (by rw [h28]; decide) (by rw [h28]; decide) (by rw [h28]; try rfl) (by decide) ?_
                    refine mw_aload_n cx (q := 201) 2 rfl rfl dX7_valueOfList_200 rfl ?_
                    refine mw_iload_n cx (q := 202) 3 rfl rfl dX7_valueOfList_201 rfl ?_
                    refine mw_iconst cx (q := 203) (v := 1) dX7_valueOfList_202 rfl rfl ?_
                    refine mw_iload_n cx (q := 204) 4 rfl rfl dX7_valueOfList_203 rfl ?_
                    refine mw_bnd (fun r29 er29 => ?_)
                    refine mw_callV cx (q := 207) (d := d + 1) (As := [.int p1, .int 1, .int p2]) (z := fi r29) (st := []) (st1 := [.int r29.1]) (M' := r29.2) (by rw [er29]; exact mc_X7_valueOfRow l D ta ad d VA P hVA hOk M p1 1 p2 hok hP (by decide)) cv_X7_195 rfl rfl rfl vi_7_0 ⟨by show _ ≤ d + 6; omega, by show _ ≤ 40 * (d + 6); omega⟩ ⟨Nat.le_refl _, Nat.le_refl _⟩ (by simp [Value.category]) rfl rfl rfl dX7_valueOfList_204 rfl ?_
                    have ok30 : Ok7 r29.2 := (by rw [er29]; exact ok7_f7_valueOfRow VA hOk hok p1 1 p2)
                    exact mw_iret cx hr rfl dX7_valueOfList_207
                  · refine mw_split (fun h31 => ?_) (fun h31 => ?_)
                    · refine mw_tableIn cx (tgt := 208) dX7_valueOfList_86 (by rw [h31]; decide) (by rw [h31]; decide) (by rw [h31]; try rfl) (by decide) ?_
                      refine mw_aload_n cx (q := 209) 2 rfl rfl dX7_valueOfList_208 rfl ?_
                      refine mw_iload_n cx (q := 210) 3 rfl rfl dX7_valueOfList_209 rfl ?_
                      refine mw_iload_n cx (q := 211) 4 rfl rfl dX7_valueOfList_210 rfl ?_
                      refine mw_bnd (fun r32 er32 => ?_)
                      refine mw_callV cx (q := 214) (d := d + 2) (As := [.int p1, .int p2]) (z := fi r32) (st := []) (st1 := [.int r32.1]) (M' := r32.2) (by rw [er32]; exact mc_X7_valueOfLet l D ta ad d VA P hVA hOk M p1 p2 hok hP) cv_X7_198 rfl rfl rfl vi_7_0 ⟨by show _ ≤ d + 6; omega, by show _ ≤ 40 * (d + 6); omega⟩ ⟨Nat.le_refl _, Nat.le_refl _⟩ (by simp [Value.category]) rfl rfl rfl dX7_valueOfList_211 rfl ?_
                      have ok33 : Ok7 r32.2 := (by rw [er32]; exact ok7_f7_valueOfLet VA hOk hok p1 p2)
                      exact mw_iret cx hr rfl dX7_valueOfList_214
                    · refine mw_split (fun h34 => ?_) (fun h34 => ?_)
                      · refine mw_tableIn cx (tgt := 215) dX7_valueOfList_86 (by rw [h34]; decide) (by rw [h34]; decide) (by rw [h34]; try rfl) (by decide) ?_
                        refine mw_aload_n cx (q := 216) 2 rfl rfl dX7_valueOfList_215 rfl ?_
                        refine mw_iload_n cx (q := 217) 3 rfl rfl dX7_valueOfList_216 rfl ?_
                        refine mw_iload_n cx (q := 218) 4 rfl rfl dX7_valueOfList_217 rfl ?_
                        refine mw_bnd (fun r35 er35 => ?_)
                        refine mw_callV cx (q := 221) (d := d + 2) (As := [.int p1, .int p2]) (z := fi r35) (st := []) (st1 := [.int r35.1]) (M' := r35.2) (by rw [er35]; exact mc_X7_setBinding l D ta ad d VA P hVA hOk M p1 p2 hok hP) cv_X7_201 rfl rfl rfl vi_7_0 ⟨by show _ ≤ d + 6; omega, by show _ ≤ 40 * (d + 6); omega⟩ ⟨Nat.le_refl _, Nat.le_refl _⟩ (by simp [Value.category]) rfl rfl rfl dX7_valueOfList_218 rfl ?_
                        have ok36 : Ok7 r35.2 := (by rw [er35]; exact ok7_f7_setBinding VA hOk hok p1 p2)
                        exact mw_iret cx hr rfl dX7_valueOfList_221
                      · refine mw_split (fun h37 => ?_) (fun h37 => ?_)
                        · refine mw_tableIn cx (tgt := 222) dX7_valueOfList_86 (by rw [h37]; decide) (by rw [h37]; decide) (by rw [h37]; try rfl) (by decide) ?_
                          refine mw_aload_n cx (q := 223) 2 rfl rfl dX7_valueOfList_222 rfl ?_
                          refine mw_iload_n cx (q := 224) 3 rfl rfl dX7_valueOfList_223 rfl ?_
                          refine mw_bnd (fun r38 er38 => ?_)
                          refine mw_callV cx (q := 227) (d := 2) (As := [.int p1]) (z := fi r38) (st := []) (st1 := [.int r38.1]) (M' := r38.2) (by rw [er38]; exact mc_X7_define l D ta ad M p1 hok) cv_X7_204 rfl rfl rfl vi_7_0 ⟨by show _ ≤ d + 6; omega, by show _ ≤ 40 * (d + 6); omega⟩ ⟨Nat.le_refl _, Nat.le_refl _⟩ (by simp [Value.category]) rfl rfl rfl dX7_valueOfList_224 rfl ?_
                          have ok39 : Ok7 r38.2 := (by rw [er38]; exact ok7_f7_define hok p1)
                          exact mw_iret cx hr rfl dX7_valueOfList_227
                        · refine mw_split (fun h40 => ?_) (fun h40 => ?_)
                          · refine mw_tableIn cx (tgt := 228) dX7_valueOfList_86 (by rw [h40]; decide) (by rw [h40]; decide) (by rw [h40]; try rfl) (by decide) ?_
                            refine mw_aload_n cx (q := 229) 2 rfl rfl dX7_valueOfList_228 rfl ?_
                            refine mw_iconst cx (q := 230) (v := (-1)) dX7_valueOfList_229 rfl rfl ?_
                            refine mw_aload_n cx (q := 231) 2 rfl rfl dX7_valueOfList_230 rfl ?_
                            refine mw_get cx (q := 234) (v := .int (M 7 0 0 7)) gf_X7_53 rfl rfl vi_7_0 dX7_valueOfList_231 rfl ?_
                            refine mw_aload_n cx (q := 235) 2 rfl rfl dX7_valueOfList_234 rfl ?_
                            refine mw_get cx (q := 238) (v := .ref (ad 9 0 0)) gf_X7_18 rfl rfl vi_7_0 dX7_valueOfList_235 rfl ?_
                            refine mw_iload_n cx (q := 239) 3 rfl rfl dX7_valueOfList_238 rfl ?_
                            refine mw_iconst cx (q := 240) (v := 1) dX7_valueOfList_239 rfl rfl ?_
                            refine mw_bnd (fun r41 er41 => ?_)
                            refine mw_callV cx (q := 243) (d := 0) (As := [.int p1, .int 1]) (z := fip M r41) (st := [.int (M 7 0 0 7), .int (-1), .ref (ad 7 0 0)]) (st1 := [.int r41, .int (M 7 0 0 7), .int (-1), .ref (ad 7 0 0)]) (M' := M) (by rw [er41]; exact mc_X9_partOf l D ta ad M p1 1) cv_X7_86 rfl rfl rfl vi_9_0 ⟨by show _ ≤ d + 6; omega, by show _ ≤ 40 * (d + 6); omega⟩ ⟨Nat.le_refl _, Nat.le_refl _⟩ (by simp [Value.category]) rfl rfl rfl dX7_valueOfList_240 rfl ?_
                            refine mw_aload_n cx (q := 244) 2 rfl rfl dX7_valueOfList_243 rfl ?_
                            refine mw_iload_n cx (q := 245) 3 rfl rfl dX7_valueOfList_244 rfl ?_
                            refine mw_iconst cx (q := 246) (v := 2) dX7_valueOfList_245 rfl rfl ?_
                            refine mw_iload_n cx (q := 247) 4 rfl rfl dX7_valueOfList_246 rfl ?_
                            refine mw_bnd (fun r42 er42 => ?_)
                            refine mw_callV cx (q := 250) (d := d + 1) (As := [.int p1, .int 2, .int p2]) (z := fi r42) (st := [.int r41, .int (M 7 0 0 7), .int (-1), .ref (ad 7 0 0)]) (st1 := [.int r42.1, .int r41, .int (M 7 0 0 7), .int (-1), .ref (ad 7 0 0)]) (M' := r42.2) (by rw [er42]; exact mc_X7_valueOfPart l D ta ad d VA P hVA hOk M p1 2 p2 hok hP) cv_X7_185 rfl rfl rfl vi_7_0 ⟨by show _ ≤ d + 6; omega, by show _ ≤ 40 * (d + 6); omega⟩ ⟨Nat.le_refl _, Nat.le_refl _⟩ (by simp [Value.category]) rfl rfl rfl dX7_valueOfList_247 rfl ?_
                            have ok43 : Ok7 r42.2 := (by rw [er42]; exact ok7_f7_valueOfPart VA hOk hok p1 2 p2)
                            refine mw_bnd (fun r44 er44 => ?_)
                            refine mw_callV cx (q := 253) (d := 1) (As := [.int (-1), .int (M 7 0 0 7), .int r41, .int r42.1]) (z := fi r44) (st := []) (st1 := [.int r44.1]) (M' := r44.2) (by rw [er44]; exact mc_X7_carry l D ta ad r42.2 (-1) (M 7 0 0 7) r41 r42.1 ok43 (vin_lit (by decide)) (fun _ => own_in hok.1)) cv_X7_207 rfl rfl rfl vi_7_0 ⟨by show _ ≤ d + 6; omega, by show _ ≤ 40 * (d + 6); omega⟩ ⟨Nat.le_refl _, Nat.le_refl _⟩ (by simp [Value.category]) rfl rfl rfl dX7_valueOfList_250 rfl ?_
                            have ok45 : Ok7 r44.2 := (by rw [er44]; exact ok7_f7_carry ok43 (-1) (M 7 0 0 7) r41 r42.1 (vin_lit (by decide)) (fun _ => own_in hok.1))
                            exact mw_iret cx hr rfl dX7_valueOfList_253
                          · refine mw_split (fun h46 => ?_) (fun h46 => ?_)
                            · refine mw_tableIn cx (tgt := 254) dX7_valueOfList_86 (by rw [h46]; decide) (by rw [h46]; decide) (by rw [h46]; try rfl) (by decide) ?_
                              refine mw_aload_n cx (q := 255) 2 rfl rfl dX7_valueOfList_254 rfl ?_
                              refine mw_aload_n cx (q := 256) 2 rfl rfl dX7_valueOfList_255 rfl ?_
                              refine mw_get cx (q := 259) (v := .int (M 7 0 0 7)) gf_X7_53 rfl rfl vi_7_0 dX7_valueOfList_256 rfl ?_
                              refine mw_iconst cx (q := 260) (v := (-1)) dX7_valueOfList_259 rfl rfl ?_
                              refine mw_aload_n cx (q := 261) 2 rfl rfl dX7_valueOfList_260 rfl ?_
                              refine mw_get cx (q := 264) (v := .ref (ad 9 0 0)) gf_X7_18 rfl rfl vi_7_0 dX7_valueOfList_261 rfl ?_
                              refine mw_iload_n cx (q := 265) 3 rfl rfl dX7_valueOfList_264 rfl ?_
                              refine mw_iconst cx (q := 266) (v := 1) dX7_valueOfList_265 rfl rfl ?_
                              refine mw_bnd (fun r47 er47 => ?_)
                              refine mw_callV cx (q := 269) (d := 0) (As := [.int p1, .int 1]) (z := fip M r47) (st := [.int (-1), .int (M 7 0 0 7), .ref (ad 7 0 0)]) (st1 := [.int r47, .int (-1), .int (M 7 0 0 7), .ref (ad 7 0 0)]) (M' := M) (by rw [er47]; exact mc_X9_partOf l D ta ad M p1 1) cv_X7_86 rfl rfl rfl vi_9_0 ⟨by show _ ≤ d + 6; omega, by show _ ≤ 40 * (d + 6); omega⟩ ⟨Nat.le_refl _, Nat.le_refl _⟩ (by simp [Value.category]) rfl rfl rfl dX7_valueOfList_266 rfl ?_
                              refine mw_aload_n cx (q := 270) 2 rfl rfl dX7_valueOfList_269 rfl ?_
                              refine mw_iload_n cx (q := 271) 3 rfl rfl dX7_valueOfList_270 rfl ?_
                              refine mw_iconst cx (q := 272) (v := 2) dX7_valueOfList_271 rfl rfl ?_
                              refine mw_iload_n cx (q := 273) 4 rfl rfl dX7_valueOfList_272 rfl ?_
                              refine mw_bnd (fun r48 er48 => ?_)
                              refine mw_callV cx (q := 276) (d := d + 1) (As := [.int p1, .int 2, .int p2]) (z := fi r48) (st := [.int r47, .int (-1), .int (M 7 0 0 7), .ref (ad 7 0 0)]) (st1 := [.int r48.1, .int r47, .int (-1), .int (M 7 0 0 7), .ref (ad 7 0 0)]) (M' := r48.2) (by rw [er48]; exact mc_X7_valueOfPart l D ta ad d VA P hVA hOk M p1 2 p2 hok hP) cv_X7_185 rfl rfl rfl vi_7_0 ⟨by show _ ≤ d + 6; omega, by show _ ≤ 40 * (d + 6); omega⟩ ⟨Nat.le_refl _, Nat.le_refl _⟩ (by simp [Value.category]) rfl rfl rfl dX7_valueOfList_273 rfl ?_
                              have ok49 : Ok7 r48.2 := (by rw [er48]; exact ok7_f7_valueOfPart VA hOk hok p1 2 p2)
                              refine mw_bnd (fun r50 er50 => ?_)
                              refine mw_callV cx (q := 279) (d := 1) (As := [.int (M 7 0 0 7), .int (-1), .int r47, .int r48.1]) (z := fi r50) (st := []) (st1 := [.int r50.1]) (M' := r50.2) (by rw [er50]; exact mc_X7_carry l D ta ad r48.2 (M 7 0 0 7) (-1) r47 r48.1 ok49 (own_in hok.1) (fun _ => vin_lit (by decide))) cv_X7_207 rfl rfl rfl vi_7_0 ⟨by show _ ≤ d + 6; omega, by show _ ≤ 40 * (d + 6); omega⟩ ⟨Nat.le_refl _, Nat.le_refl _⟩ (by simp [Value.category]) rfl rfl rfl dX7_valueOfList_276 rfl ?_
                              have ok51 : Ok7 r50.2 := (by rw [er50]; exact ok7_f7_carry ok49 (M 7 0 0 7) (-1) r47 r48.1 (own_in hok.1) (fun _ => vin_lit (by decide)))
                              exact mw_iret cx hr rfl dX7_valueOfList_279
                            · refine mw_split (fun h52 => ?_) (fun h52 => ?_)
                              · refine mw_tableIn cx (tgt := 280) dX7_valueOfList_86 (by rw [h52]; decide) (by rw [h52]; decide) (by rw [h52]; try rfl) (by decide) ?_
                                refine mw_aload_n cx (q := 281) 2 rfl rfl dX7_valueOfList_280 rfl ?_
                                refine mw_iload_n cx (q := 282) 3 rfl rfl dX7_valueOfList_281 rfl ?_
                                refine mw_iload_n cx (q := 283) 4 rfl rfl dX7_valueOfList_282 rfl ?_
                                refine mw_bnd (fun r53 er53 => ?_)
                                refine mw_callV cx (q := 286) (d := d + 2) (As := [.int p1, .int p2]) (z := fi r53) (st := []) (st1 := [.int r53.1]) (M' := r53.2) (by rw [er53]; exact mc_X7_give l D ta ad d VA P hVA hOk M p1 p2 hok hP) cv_X7_211 rfl rfl rfl vi_7_0 ⟨by show _ ≤ d + 6; omega, by show _ ≤ 40 * (d + 6); omega⟩ ⟨Nat.le_refl _, Nat.le_refl _⟩ (by simp [Value.category]) rfl rfl rfl dX7_valueOfList_283 rfl ?_
                                have ok54 : Ok7 r53.2 := (by rw [er53]; exact ok7_f7_give VA hOk hok p1 p2)
                                exact mw_iret cx hr rfl dX7_valueOfList_286
                              · refine mw_split (fun h55 => ?_) (fun h55 => ?_)
                                · refine mw_tableIn cx (tgt := 287) dX7_valueOfList_86 (by rw [h55]; decide) (by rw [h55]; decide) (by rw [h55]; try rfl) (by decide) ?_
                                  refine mw_aload_n cx (q := 288) 2 rfl rfl dX7_valueOfList_287 rfl ?_
                                  refine mw_iload_n cx (q := 289) 3 rfl rfl dX7_valueOfList_288 rfl ?_
                                  refine mw_iload_n cx (q := 290) 4 rfl rfl dX7_valueOfList_289 rfl ?_
                                  refine mw_bnd (fun r56 er56 => ?_)
                                  refine mw_callV cx (q := 293) (d := d + 2) (As := [.int p1, .int p2]) (z := fi r56) (st := []) (st1 := [.int r56.1]) (M' := r56.2) (by rw [er56]; exact mc_X7_orderAhead l D ta ad d VA P hVA hOk M p1 p2 hok hP) cv_X7_214 rfl rfl rfl vi_7_0 ⟨by show _ ≤ d + 6; omega, by show _ ≤ 40 * (d + 6); omega⟩ ⟨Nat.le_refl _, Nat.le_refl _⟩ (by simp [Value.category]) rfl rfl rfl dX7_valueOfList_290 rfl ?_
                                  have ok57 : Ok7 r56.2 := (by rw [er56]; exact ok7_f7_orderAhead VA hOk hok p1 p2)
                                  exact mw_iret cx hr rfl dX7_valueOfList_293
                                · refine mw_split (fun h58 => ?_) (fun h58 => ?_)
                                  · refine mw_tableIn cx (tgt := 294) dX7_valueOfList_86 (by rw [h58]; decide) (by rw [h58]; decide) (by rw [h58]; try rfl) (by decide) ?_
                                    refine mw_aload_n cx (q := 295) 2 rfl rfl dX7_valueOfList_294 rfl ?_
                                    refine mw_aload_n cx (q := 296) 2 rfl rfl dX7_valueOfList_295 rfl ?_
                                    refine mw_iload_n cx (q := 297) 3 rfl rfl dX7_valueOfList_296 rfl ?_
                                    refine mw_iconst cx (q := 298) (v := 1) dX7_valueOfList_297 rfl rfl ?_
                                    refine mw_iload_n cx (q := 299) 4 rfl rfl dX7_valueOfList_298 rfl ?_
                                    refine mw_bnd (fun r59 er59 => ?_)
                                    refine mw_callV cx (q := 302) (d := d + 1) (As := [.int p1, .int 1, .int p2]) (z := fi r59) (st := [.ref (ad 7 0 0)]) (st1 := [.int r59.1, .ref (ad 7 0 0)]) (M' := r59.2) (by rw [er59]; exact mc_X7_valueOfPart l D ta ad d VA P hVA hOk M p1 1 p2 hok hP) cv_X7_185 rfl rfl rfl vi_7_0 ⟨by show _ ≤ d + 6; omega, by show _ ≤ 40 * (d + 6); omega⟩ ⟨Nat.le_refl _, Nat.le_refl _⟩ (by simp [Value.category]) rfl rfl rfl dX7_valueOfList_299 rfl ?_
                                    have ok60 : Ok7 r59.2 := (by rw [er59]; exact ok7_f7_valueOfPart VA hOk hok p1 1 p2)
                                    refine mw_iload_n cx (q := 303) 4 rfl rfl dX7_valueOfList_302 rfl ?_
                                    refine mw_bnd (fun r61 er61 => ?_)
                                    refine mw_callV cx (q := 306) (d := d + 2) (As := [.int r59.1, .int p2]) (z := fi r61) (st := []) (st1 := [.int r61.1]) (M' := r61.2) (by rw [er61]; exact mc_X7_valueOfScript l D ta ad d VA P hVA hOk r59.2 r59.1 p2 ok60 hP) cv_X7_217 rfl rfl rfl vi_7_0 ⟨by show _ ≤ d + 6; omega, by show _ ≤ 40 * (d + 6); omega⟩ ⟨Nat.le_refl _, Nat.le_refl _⟩ (by simp [Value.category]) rfl rfl rfl dX7_valueOfList_303 rfl ?_
                                    have ok62 : Ok7 r61.2 := (by rw [er61]; exact ok7_f7_valueOfScript VA hOk ok60 r59.1 p2)
                                    exact mw_iret cx hr rfl dX7_valueOfList_306
                                  · refine mw_split (fun h63 => ?_) (fun h63 => ?_)
                                    · refine mw_tableIn cx (tgt := 307) dX7_valueOfList_86 (by rw [h63]; decide) (by rw [h63]; decide) (by rw [h63]; try rfl) (by decide) ?_
                                      refine mw_aload_n cx (q := 308) 2 rfl rfl dX7_valueOfList_307 rfl ?_
                                      refine mw_aload_n cx (q := 309) 2 rfl rfl dX7_valueOfList_308 rfl ?_
                                      refine mw_iload_n cx (q := 310) 3 rfl rfl dX7_valueOfList_309 rfl ?_
                                      refine mw_iconst cx (q := 311) (v := 1) dX7_valueOfList_310 rfl rfl ?_
                                      refine mw_iload_n cx (q := 312) 4 rfl rfl dX7_valueOfList_311 rfl ?_
                                      refine mw_bnd (fun r64 er64 => ?_)
                                      refine mw_callV cx (q := 315) (d := d + 1) (As := [.int p1, .int 1, .int p2]) (z := fi r64) (st := [.ref (ad 7 0 0)]) (st1 := [.int r64.1, .ref (ad 7 0 0)]) (M' := r64.2) (by rw [er64]; exact mc_X7_valueOfPart l D ta ad d VA P hVA hOk M p1 1 p2 hok hP) cv_X7_185 rfl rfl rfl vi_7_0 ⟨by show _ ≤ d + 6; omega, by show _ ≤ 40 * (d + 6); omega⟩ ⟨Nat.le_refl _, Nat.le_refl _⟩ (by simp [Value.category]) rfl rfl rfl dX7_valueOfList_312 rfl ?_
                                      have ok65 : Ok7 r64.2 := (by rw [er64]; exact ok7_f7_valueOfPart VA hOk hok p1 1 p2)
                                      refine mw_bnd (fun r66 er66 => ?_)
                                      refine mw_callV cx (q := 318) (d := 2) (As := [.int r64.1]) (z := fi r66) (st := []) (st1 := [.int r66.1]) (M' := r66.2) (by rw [er66]; exact mc_X7_buyWith l D ta ad r64.2 r64.1 ok65) cv_X7_220 rfl rfl rfl vi_7_0 ⟨by show _ ≤ d + 6; omega, by show _ ≤ 40 * (d + 6); omega⟩ ⟨Nat.le_refl _, Nat.le_refl _⟩ (by simp [Value.category]) rfl rfl rfl dX7_valueOfList_315 rfl ?_
                                      have ok67 : Ok7 r66.2 := (by rw [er66]; exact ok7_f7_buyWith ok65 r64.1)
                                      exact mw_iret cx hr rfl dX7_valueOfList_318
                                    · refine mw_split (fun h68 => ?_) (fun h68 => ?_)
                                      · refine mw_tableIn cx (tgt := 319) dX7_valueOfList_86 (by rw [h68]; decide) (by rw [h68]; decide) (by rw [h68]; try rfl) (by decide) ?_
                                        refine mw_aload_n cx (q := 320) 2 rfl rfl dX7_valueOfList_319 rfl ?_
                                        refine mw_get cx (q := 323) (v := .ref (ad 5 0 0)) gf_X7_26 rfl rfl vi_7_0 dX7_valueOfList_320 rfl ?_
                                        refine mw_aload_n cx (q := 324) 2 rfl rfl dX7_valueOfList_323 rfl ?_
                                        refine mw_get cx (q := 327) (v := .int (M 7 0 0 7)) gf_X7_53 rfl rfl vi_7_0 dX7_valueOfList_324 rfl ?_
                                        refine mw_bnd (fun r69 er69 => ?_)
                                        refine mw_callV cx (q := 330) (d := 0) (As := [.int (M 7 0 0 7)]) (z := fip M r69) (st := []) (st1 := [.int r69]) (M' := M) (by rw [er69]; exact mc_X5_fuelOf l D ta ad M (M 7 0 0 7) hok.1) cv_X7_223 rfl rfl rfl vi_5_0 ⟨by show _ ≤ d + 6; omega, by show _ ≤ 40 * (d + 6); omega⟩ ⟨Nat.le_refl _, Nat.le_refl _⟩ (by simp [Value.category]) rfl rfl rfl dX7_valueOfList_327 rfl ?_
                                        exact mw_iret cx hr rfl dX7_valueOfList_330
                                      · refine mw_split (fun h70 => ?_) (fun h70 => ?_)
                                        · refine mw_tableIn cx (tgt := 331) dX7_valueOfList_86 (by rw [h70]; decide) (by rw [h70]; decide) (by rw [h70]; try rfl) (by decide) ?_
                                          refine mw_aload_n cx (q := 332) 2 rfl rfl dX7_valueOfList_331 rfl ?_
                                          refine mw_get cx (q := 335) (v := .ref (ad 4 0 0)) gf_X7_34 rfl rfl vi_7_0 dX7_valueOfList_332 rfl ?_
                                          refine mw_getN cx (q := 338) (v := .int (M 4 0 0 2)) gf_X7_226 rfl rfl vi_4_0 dX7_valueOfList_335 rfl ?_
                                          exact mw_iret cx hr rfl dX7_valueOfList_338
                                        · refine mw_tableOut cx (tgt := 339) dX7_valueOfList_86 (by simp only [i32eq, t32_1, t32_2, t32_3, t32_4, t32_5, t32_6, t32_7, t32_8, t32_9, t32_10, t32_11, t32_12, t32_13, t32_14, t32_15, t32_16, t32_17] at h12 h16 h19 h22 h25 h28 h31 h34 h37 h40 h46 h52 h55 h58 h63 h68 h70; omega) (by decide) ?_
                                          refine mw_aload_n cx (q := 340) 2 rfl rfl dX7_valueOfList_339 rfl ?_
                                          refine mw_aload cx (q := 342) 0 rfl dX7_valueOfList_340 rfl ?_
                                          refine mw_aload_n cx (q := 343) 2 rfl rfl dX7_valueOfList_342 rfl ?_
                                          refine mw_iload_n cx (q := 344) 3 rfl rfl dX7_valueOfList_343 rfl ?_
                                          refine mw_iconst cx (q := 345) (v := 1) dX7_valueOfList_344 rfl rfl ?_
                                          refine mw_iload_n cx (q := 346) 4 rfl rfl dX7_valueOfList_345 rfl ?_
                                          refine mw_bnd (fun r71 er71 => ?_)
                                          refine mw_callV cx (q := 349) (d := d + 1) (As := [.int p1, .int 1, .int p2]) (z := fi r71) (st := [.ref (ad 10 0 r5), .ref (ad 7 0 0)]) (st1 := [.int r71.1, .ref (ad 10 0 r5), .ref (ad 7 0 0)]) (M' := r71.2) (by rw [er71]; exact mc_X7_valueOfPart l D ta ad d VA P hVA hOk M p1 1 p2 hok hP) cv_X7_185 rfl rfl rfl vi_7_0 ⟨by show _ ≤ d + 6; omega, by show _ ≤ 40 * (d + 6); omega⟩ ⟨Nat.le_refl _, Nat.le_refl _⟩ (by simp [Value.category]) rfl rfl rfl dX7_valueOfList_346 rfl ?_
                                          have ok72 : Ok7 r71.2 := (by rw [er71]; exact ok7_f7_valueOfPart VA hOk hok p1 1 p2)
                                          refine mw_aload_n cx (q := 350) 2 rfl rfl dX7_valueOfList_349 rfl ?_
                                          refine mw_iload_n cx (q := 351) 3 rfl rfl dX7_valueOfList_350 rfl ?_
                                          refine mw_iconst cx (q := 352) (v := 2) dX7_valueOfList_351 rfl rfl ?_
                                          refine mw_iload_n cx (q := 353) 4 rfl rfl dX7_valueOfList_352 rfl ?_
                                          refine mw_bnd (fun r73 er73 => ?_)
                                          refine mw_callV cx (q := 356) (d := d + 1) (As := [.int p1, .int 2, .int p2]) (z := fi r73) (st := [.int r71.1, .ref (ad 10 0 r5), .ref (ad 7 0 0)]) (st1 := [.int r73.1, .int r71.1, .ref (ad 10 0 r5), .ref (ad 7 0 0)]) (M' := r73.2) (by rw [er73]; exact mc_X7_valueOfPart l D ta ad d VA P hVA hOk r71.2 p1 2 p2 ok72 hP) cv_X7_185 rfl rfl rfl vi_7_0 ⟨by show _ ≤ d + 6; omega, by show _ ≤ 40 * (d + 6); omega⟩ ⟨Nat.le_refl _, Nat.le_refl _⟩ (by simp [Value.category]) rfl rfl rfl dX7_valueOfList_353 rfl ?_
                                          have ok74 : Ok7 r73.2 := (by rw [er73]; exact ok7_f7_valueOfPart VA hOk ok72 p1 2 p2)
                                          refine mw_bnd (fun r75 er75 => ?_)
                                          refine mw_callV cx (q := 359) (d := 1) (As := [.ref (ad 10 0 r5), .int r71.1, .int r73.1]) (z := fi r75) (st := []) (st1 := [.int r75.1]) (M' := r75.2) (by rw [er75]; exact mc_X7_combine l D ta ad r73.2 r5 r71.1 r73.1 ok74 wr5) cv_X7_229 rfl rfl rfl vi_7_0 ⟨by show _ ≤ d + 6; omega, by show _ ≤ 40 * (d + 6); omega⟩ ⟨Nat.le_refl _, Nat.le_refl _⟩ (by simp [Value.category]) rfl rfl rfl dX7_valueOfList_356 rfl ?_
                                          have ok76 : Ok7 r75.2 := (by rw [er75]; exact ok7_f7_combine ok74 r5 r71.1 r73.1)
                                          exact mw_iret cx hr rfl dX7_valueOfList_359
      · refine mw_aload_n cx (q := 72) 2 rfl rfl dX7_valueOfList_71 rfl ?_
        refine mw_iconst cx (q := 73) (v := 4) dX7_valueOfList_72 rfl rfl ?_
        refine mw_bnd (fun r77 er77 => ?_)
        refine mw_callV cx (q := 76) (d := 0) (As := [.int 4]) (z := fic M 7 r77) (st := []) (st1 := [.int r77.1]) (M' := uW M 7 r77.2) (by rw [er77]; exact mc_X7_stop l D ta ad M 4) cv_X7_136 rfl rfl rfl vi_7_0 ⟨by show _ ≤ d + 6; omega, by show _ ≤ 40 * (d + 6); omega⟩ ⟨Nat.le_refl _, Nat.le_refl _⟩ (by simp [Value.category]) rfl rfl rfl dX7_valueOfList_73 rfl ?_
        refine mw_bndM (fun M78 eM78 => ?_)
        have ok79 : Ok7 M78 := (by rw [eM78, er77]; exact ok7_f7_stop hok 4)
        exact mw_iret cx hr rfl dX7_valueOfList_76
  · refine mw_aload_n cx (q := 23) 1 rfl rfl dX7_valueOfList_22 rfl ?_
    refine mw_iconst cx (q := 24) (v := 4) dX7_valueOfList_23 rfl rfl ?_
    refine mw_bnd (fun r80 er80 => ?_)
    refine mw_callV cx (q := 27) (d := 0) (As := [.int 4]) (z := fic M 7 r80) (st := []) (st1 := [.int r80.1]) (M' := uW M 7 r80.2) (by rw [er80]; exact mc_X7_stop l D ta ad M 4) cv_X7_136 rfl rfl rfl vi_7_0 ⟨by show _ ≤ d + 6; omega, by show _ ≤ 40 * (d + 6); omega⟩ ⟨Nat.le_refl _, Nat.le_refl _⟩ (by simp [Value.category]) rfl rfl rfl dX7_valueOfList_24 rfl ?_
    refine mw_bndM (fun M81 eM81 => ?_)
    have ok82 : Ok7 M81 := (by rw [eM81, er80]; exact ok7_f7_stop hok 4)
    exact mw_iret cx hr rfl dX7_valueOfList_27
theorem ok_ite {α : Type} {c : Prop} [hdc : Decidable c] {A B : α × Wm} (h1 : c → Ok7 A.2) (h2 : ¬ c → Ok7 B.2) : Ok7 (if c then A else B).2 := by
  by_cases h : c
  · rw [if_pos h]; exact h1 h
  · rw [if_neg h]; exact h2 h
theorem ok7_f7_valueOfList (VA : Wm → Int32 → Int32 → Int32 × Wm) (hOk : HOk VA) {M : Wm} (h : Ok7 M) (p1 p2 : Int32) : Ok7 (f7_valueOfList VA M p1 p2).2 := by
  have d0 : vp_in ((-1 : Int32) + 1) 5 := vin_lit (by decide)
  have hv := ok7_f7_valueOfPart VA hOk h p1 2 p2
  have h1 := ok7_f7_valueOfPart VA hOk h p1 1 p2
  have hc : ∀ {N : Wm} (_ : Ok7 N) (a b : Int32), Ok7 (f7_carry N (-1) (M 7 0 0 7) a b).2 := fun hN a b => ok7_f7_carry hN _ _ a b d0 (fun _ => own_in h.1)
  have hd : ∀ {N : Wm} (_ : Ok7 N) (a b : Int32), Ok7 (f7_carry N (M 7 0 0 7) (-1) a b).2 := fun hN a b => ok7_f7_carry hN _ _ a b (own_in h.1) (fun _ => d0)
  unfold f7_valueOfList; simp only [bnd, jn]
  repeat' (with_reducible refine ok_ite (fun _ => ?_) (fun _ => ?_))
  all_goals first
    | with_reducible exact h
    | with_reducible exact h1
    | with_reducible exact ok7_f7_stop h _
    | with_reducible exact ok7_f7_valueOfFunction VA hOk h _ _ _
    | with_reducible exact ok7_f7_valueOfChoice VA hOk h _ _ _
    | with_reducible exact ok7_f7_valueOfWhile VA hOk h _ _
    | with_reducible exact ok7_f7_valueOfRow VA hOk h _ _ _
    | with_reducible exact ok7_f7_valueOfLet VA hOk h _ _
    | with_reducible exact ok7_f7_setBinding VA hOk h _ _
    | with_reducible exact ok7_f7_define h _
    | with_reducible exact hc hv _ _
    | with_reducible exact hd hv _ _
    | with_reducible exact ok7_f7_give VA hOk h _ _
    | with_reducible exact ok7_f7_orderAhead VA hOk h _ _
    | with_reducible exact ok7_f7_valueOfScript VA hOk h1 _ _
    | with_reducible exact ok7_f7_buyWith h1 _
    | with_reducible exact ok7_f7_combine (ok7_f7_valueOfPart VA hOk h1 _ _ _) _ _ _
def f7_valueAt (VA : Wm → Int32 → Int32 → Int32 × Wm) (M : Wm) (p1 : Int32) (p2 : Int32) : (Int32 × Wm) := if (M 7 0 0 10) = 0 then if (M 7 0 0 8) ≤ (M 7 0 0 9) then bnd (f7_stop (M 7) 7) (fun (r3 : Int32 × Cm) => bnd (uW M 7 r3.2) (fun (M4 : Wm) => (r3.1, M4))) else bnd (f5_takesOne (M 5) (M 7 0 0 7)) (fun (r6 : Bool × Cm) => bnd (uW M 5 r6.2) (fun (M7 : Wm) => if r6.1 = true then bnd (uW M7 7 (u3 (M7 7) 0 0 9 ((M 7 0 0 9) + 1))) (fun (M10 : Wm) => if p2 < 30 then bnd (f9_kindOf (M10 9) p1) (fun (r13 : Int32) => if r13 = 1 then bnd (f9_contentOf (M10 9) p1) (fun (r15 : Int32) => (r15, M10)) else if r13 = 2 then bnd (f9_contentOf (M10 9) p1) (fun (r17 : Int32) => bnd (f7_valueOfName M10 r17) (fun (r18 : Int32 × Wm) => (r18.1, r18.2))) else bnd (f7_valueOfList VA M10 p1 p2) (fun (r20 : Int32 × Wm) => (r20.1, r20.2))) else bnd (f7_stop (M10 7) 2) (fun (r22 : Int32 × Cm) => bnd (uW M10 7 r22.2) (fun (M23 : Wm) => (r22.1, M23)))) else bnd (f7_stop (M7 7) 7) (fun (r25 : Int32 × Cm) => bnd (uW M7 7 r25.2) (fun (M26 : Wm) => (r25.1, M26))))) else (0, M)
set_option maxHeartbeats 4000000 in
set_option maxRecDepth 100000 in
theorem mc_X7_valueAt (l : Launch) (D : va_G) (ta : wTa) (ad : wAd) (d : Nat) (VA : Wm → Int32 → Int32 → Int32 × Wm) (P : Int32 → Prop) (hVA : HVA l D ta ad d VA P) (hOk : HOk VA) (M : Wm) (p1 : Int32) (p2 : Int32) (hok : Ok7 M) (hP : p2 < 30 → P (p2 + 1)) : MC l D ta ad yX7_valueAt cX7_valueAt 3 (some .int) (d + 7) [.ref (ad 7 0 0), .int p1, .int p2] M (fi (f7_valueAt VA M p1 p2)) := by
  refine MC.of (fi) (f7_valueAt VA M p1 p2) rfl (by decide) (Nat.le_of_ble_eq_true rfl) (fun p e s m args below meth c cx hr => ?_)
  unfold f7_valueAt
  refine mw_sub (lv' := [(0, .ref (ad 7 0 0)), (1, .int p1), (2, .int p2)]) [0, 1, 2] rfl ?_
  refine mw_aload_n cx (q := 1) 0 rfl rfl dX7_valueAt_0 rfl ?_
  refine mw_get cx (q := 4) (v := .int (M 7 0 0 10)) gf_X7_60 rfl rfl vi_7_0 dX7_valueAt_1 rfl ?_
  refine mw_if_eq cx (tgt := 9) (q := 7) dX7_valueAt_4 (by decide) rfl (fun h1 => ?_) (fun h1 => ?_)
  · refine mw_aload_n cx (q := 10) 0 rfl rfl dX7_valueAt_9 rfl ?_
    refine mw_get cx (q := 13) (v := .int (M 7 0 0 9)) gf_X7_57 rfl rfl vi_7_0 dX7_valueAt_10 rfl ?_
    refine mw_aload_n cx (q := 14) 0 rfl rfl dX7_valueAt_13 rfl ?_
    refine mw_get cx (q := 17) (v := .int (M 7 0 0 8)) gf_X7_54 rfl rfl vi_7_0 dX7_valueAt_14 rfl ?_
    refine mw_icmp_ge cx (tgt := 34) (q := 20) dX7_valueAt_17 (by decide) rfl (fun h2 => ?_) (fun h2 => ?_)
    · refine mw_aload_n cx (q := 35) 0 rfl rfl dX7_valueAt_34 rfl ?_
      refine mw_bipush cx (q := 37) (v := 7) dX7_valueAt_35 rfl rfl ?_
      refine mw_bnd (fun r3 er3 => ?_)
      refine mw_callV cx (q := 40) (d := 0) (As := [.int 7]) (z := fic M 7 r3) (st := []) (st1 := [.int r3.1]) (M' := uW M 7 r3.2) (by rw [er3]; exact mc_X7_stop l D ta ad M 7) cv_X7_136 rfl rfl rfl vi_7_0 ⟨by show _ ≤ d + 7; omega, by show _ ≤ 40 * (d + 7); omega⟩ ⟨Nat.le_refl _, Nat.le_refl _⟩ (by simp [Value.category]) rfl rfl rfl dX7_valueAt_37 rfl ?_
      refine mw_bndM (fun M4 eM4 => ?_)
      have ok5 : Ok7 M4 := (by rw [eM4, er3]; exact ok7_f7_stop hok 7)
      exact mw_iret cx hr rfl dX7_valueAt_40
    · refine mw_aload_n cx (q := 21) 0 rfl rfl dX7_valueAt_20 rfl ?_
      refine mw_get cx (q := 24) (v := .ref (ad 5 0 0)) gf_X7_26 rfl rfl vi_7_0 dX7_valueAt_21 rfl ?_
      refine mw_aload_n cx (q := 25) 0 rfl rfl dX7_valueAt_24 rfl ?_
      refine mw_get cx (q := 28) (v := .int (M 7 0 0 7)) gf_X7_53 rfl rfl vi_7_0 dX7_valueAt_25 rfl ?_
      refine mw_bnd (fun r6 er6 => ?_)
      refine mw_callV cx (q := 31) (d := 2) (As := [.int (M 7 0 0 7)]) (z := fzc M 5 r6) (st := []) (st1 := [.int (b2i r6.1)]) (M' := uW M 5 r6.2) (by rw [er6]; exact mc_X5_takesOne l D ta ad M (M 7 0 0 7) hok.1) cv_X7_130 rfl rfl rfl vi_5_0 ⟨by show _ ≤ d + 7; omega, by show _ ≤ 40 * (d + 7); omega⟩ ⟨Nat.le_refl _, Nat.le_refl _⟩ (by simp [Value.category]) rfl rfl rfl dX7_valueAt_28 rfl ?_
      refine mw_bndM (fun M7 eM7 => ?_)
      have ok8 : Ok7 M7 := (by rw [eM7, er6]; exact ok7_f5_takesOne hok (M 7 0 0 7))
      refine mw_ifb_ne cx (tgt := 41) (q := 34) dX7_valueAt_31 (by decide) rfl (fun h9 => ?_) (fun h9 => ?_)
      · refine mw_aload_n cx (q := 42) 0 rfl rfl dX7_valueAt_41 rfl ?_
        refine mw_dup cx (q := 43) dX7_valueAt_42 rfl rfl ?_
        refine mw_get cx (q := 46) (v := .int (M 7 0 0 9)) gf_X7_57 rfl (by rw [eM7]; rfl) vi_7_0 dX7_valueAt_43 rfl ?_
        refine mw_iconst cx (q := 47) (v := 1) dX7_valueAt_46 rfl rfl ?_
        refine mw_iadd cx (q := 48) dX7_valueAt_47 rfl ?_
        refine mw_putW cx (q := 51) 9 gf_X7_57 pf_X7_9 (int_fit _) rfl (Nat.le_of_ble_eq_true rfl) rfl vi_7_0 (by decide) dX7_valueAt_48 rfl (fun M10 eM10 => ?_)
        have ok11 : Ok7 M10 := (by rw [eM10]; exact ok7_put7 ok8 (by decide))
        refine mw_iload_n cx (q := 52) 2 rfl rfl dX7_valueAt_51 rfl ?_
        refine mw_bipush cx (q := 54) (v := 30) dX7_valueAt_52 rfl rfl ?_
        refine mw_icmp_lt cx (tgt := 63) (q := 57) dX7_valueAt_54 (by decide) rfl (fun h12 => ?_) (fun h12 => ?_)
        · refine mw_aload_n cx (q := 64) 0 rfl rfl dX7_valueAt_63 rfl ?_
          refine mw_get cx (q := 67) (v := .ref (ad 9 0 0)) gf_X7_18 rfl rfl vi_7_0 dX7_valueAt_64 rfl ?_
          refine mw_iload_n cx (q := 68) 1 rfl rfl dX7_valueAt_67 rfl ?_
          refine mw_bnd (fun r13 er13 => ?_)
          refine mw_callV cx (q := 71) (d := 0) (As := [.int p1]) (z := fip M10 r13) (st := []) (st1 := [.int r13]) (M' := M10) (by rw [er13]; exact mc_X9_kindOf l D ta ad M10 p1) cv_X7_139 rfl rfl rfl vi_9_0 ⟨by show _ ≤ d + 7; omega, by show _ ≤ 40 * (d + 7); omega⟩ ⟨Nat.le_refl _, Nat.le_refl _⟩ (by simp [Value.category]) rfl rfl rfl dX7_valueAt_68 rfl ?_
          refine mw_split (fun h14 => ?_) (fun h14 => ?_)
          · refine mw_lookup cx (tgt := 96) dX7_valueAt_71 rfl (by rw [h14]; try rfl) (by decide) ?_
            refine mw_aload_n cx (q := 97) 0 rfl rfl dX7_valueAt_96 rfl ?_
            refine mw_get cx (q := 100) (v := .ref (ad 9 0 0)) gf_X7_18 rfl rfl vi_7_0 dX7_valueAt_97 rfl ?_
            refine mw_iload_n cx (q := 101) 1 rfl rfl dX7_valueAt_100 rfl ?_
            refine mw_bnd (fun r15 er15 => ?_)
            refine mw_callV cx (q := 104) (d := 0) (As := [.int p1]) (z := fip M10 r15) (st := []) (st1 := [.int r15]) (M' := M10) (by rw [er15]; exact mc_X9_contentOf l D ta ad M10 p1) cv_X7_142 rfl rfl rfl vi_9_0 ⟨by show _ ≤ d + 7; omega, by show _ ≤ 40 * (d + 7); omega⟩ ⟨Nat.le_refl _, Nat.le_refl _⟩ (by simp [Value.category]) rfl rfl rfl dX7_valueAt_101 rfl ?_
            exact mw_iret cx hr rfl dX7_valueAt_104
          · refine mw_split (fun h16 => ?_) (fun h16 => ?_)
            · refine mw_lookup cx (tgt := 105) dX7_valueAt_71 rfl (by rw [h16]; try rfl) (by decide) ?_
              refine mw_aload_n cx (q := 106) 0 rfl rfl dX7_valueAt_105 rfl ?_
              refine mw_aload_n cx (q := 107) 0 rfl rfl dX7_valueAt_106 rfl ?_
              refine mw_get cx (q := 110) (v := .ref (ad 9 0 0)) gf_X7_18 rfl rfl vi_7_0 dX7_valueAt_107 rfl ?_
              refine mw_iload_n cx (q := 111) 1 rfl rfl dX7_valueAt_110 rfl ?_
              refine mw_bnd (fun r17 er17 => ?_)
              refine mw_callV cx (q := 114) (d := 0) (As := [.int p1]) (z := fip M10 r17) (st := [.ref (ad 7 0 0)]) (st1 := [.int r17, .ref (ad 7 0 0)]) (M' := M10) (by rw [er17]; exact mc_X9_contentOf l D ta ad M10 p1) cv_X7_142 rfl rfl rfl vi_9_0 ⟨by show _ ≤ d + 7; omega, by show _ ≤ 40 * (d + 7); omega⟩ ⟨Nat.le_refl _, Nat.le_refl _⟩ (by simp [Value.category]) rfl rfl rfl dX7_valueAt_111 rfl ?_
              refine mw_bnd (fun r18 er18 => ?_)
              refine mw_callV cx (q := 117) (d := 2) (As := [.int r17]) (z := fi r18) (st := []) (st1 := [.int r18.1]) (M' := r18.2) (by rw [er18]; exact mc_X7_valueOfName l D ta ad M10 r17 ok11) cv_X7_145 rfl rfl rfl vi_7_0 ⟨by show _ ≤ d + 7; omega, by show _ ≤ 40 * (d + 7); omega⟩ ⟨Nat.le_refl _, Nat.le_refl _⟩ (by simp [Value.category]) rfl rfl rfl dX7_valueAt_114 rfl ?_
              have ok19 : Ok7 r18.2 := (by rw [er18]; exact ok7_f7_valueOfName ok11 r17)
              exact mw_iret cx hr rfl dX7_valueAt_117
            · refine mw_lookup cx (tgt := 118) dX7_valueAt_71 rfl (look_out2 h14 h16) (by decide) ?_
              refine mw_aload_n cx (q := 119) 0 rfl rfl dX7_valueAt_118 rfl ?_
              refine mw_iload_n cx (q := 120) 1 rfl rfl dX7_valueAt_119 rfl ?_
              refine mw_iload_n cx (q := 121) 2 rfl rfl dX7_valueAt_120 rfl ?_
              refine mw_bnd (fun r20 er20 => ?_)
              refine mw_callV cx (q := 124) (d := d + 6) (As := [.int p1, .int p2]) (z := fi r20) (st := []) (st1 := [.int r20.1]) (M' := r20.2) (by rw [er20]; exact mc_X7_valueOfList l D ta ad d VA P hVA hOk M10 p1 p2 ok11 (hP h12)) cv_X7_148 rfl rfl rfl vi_7_0 ⟨by show _ ≤ d + 7; omega, by show _ ≤ 40 * (d + 7); omega⟩ ⟨Nat.le_refl _, Nat.le_refl _⟩ (by simp [Value.category]) rfl rfl rfl dX7_valueAt_121 rfl ?_
              have ok21 : Ok7 r20.2 := (by rw [er20]; exact ok7_f7_valueOfList VA hOk ok11 p1 p2)
              exact mw_iret cx hr rfl dX7_valueAt_124
        · refine mw_aload_n cx (q := 58) 0 rfl rfl dX7_valueAt_57 rfl ?_
          refine mw_iconst cx (q := 59) (v := 2) dX7_valueAt_58 rfl rfl ?_
          refine mw_bnd (fun r22 er22 => ?_)
          refine mw_callV cx (q := 62) (d := 0) (As := [.int 2]) (z := fic M10 7 r22) (st := []) (st1 := [.int r22.1]) (M' := uW M10 7 r22.2) (by rw [er22]; exact mc_X7_stop l D ta ad M10 2) cv_X7_136 rfl rfl rfl vi_7_0 ⟨by show _ ≤ d + 7; omega, by show _ ≤ 40 * (d + 7); omega⟩ ⟨Nat.le_refl _, Nat.le_refl _⟩ (by simp [Value.category]) rfl rfl rfl dX7_valueAt_59 rfl ?_
          refine mw_bndM (fun M23 eM23 => ?_)
          have ok24 : Ok7 M23 := (by rw [eM23, er22]; exact ok7_f7_stop ok11 2)
          exact mw_iret cx hr rfl dX7_valueAt_62
      · refine mw_aload_n cx (q := 35) 0 rfl rfl dX7_valueAt_34 rfl ?_
        refine mw_bipush cx (q := 37) (v := 7) dX7_valueAt_35 rfl rfl ?_
        refine mw_bnd (fun r25 er25 => ?_)
        refine mw_callV cx (q := 40) (d := 0) (As := [.int 7]) (z := fic M7 7 r25) (st := []) (st1 := [.int r25.1]) (M' := uW M7 7 r25.2) (by rw [er25]; exact mc_X7_stop l D ta ad M7 7) cv_X7_136 rfl rfl rfl vi_7_0 ⟨by show _ ≤ d + 7; omega, by show _ ≤ 40 * (d + 7); omega⟩ ⟨Nat.le_refl _, Nat.le_refl _⟩ (by simp [Value.category]) rfl rfl rfl dX7_valueAt_37 rfl ?_
        refine mw_bndM (fun M26 eM26 => ?_)
        have ok27 : Ok7 M26 := (by rw [eM26, er25]; exact ok7_f7_stop ok8 7)
        exact mw_iret cx hr rfl dX7_valueAt_40
  · refine mw_iconst cx (q := 8) (v := 0) dX7_valueAt_7 rfl rfl ?_
    exact mw_iret cx hr rfl dX7_valueAt_8
theorem ok7_f7_valueAt (VA : Wm → Int32 → Int32 → Int32 × Wm) (hOk : HOk VA) {M : Wm} (h : Ok7 M) (p1 p2 : Int32) : Ok7 (f7_valueAt VA M p1 p2).2 := by
  have hT := ok7_f5_takesOne h (M 7 0 0 7)
  have hU : ∀ x : Int32, Ok7 (uW (uW M 5 (f5_takesOne (M 5) (M 7 0 0 7)).2) 7 (u3 ((uW M 5 (f5_takesOne (M 5) (M 7 0 0 7)).2) 7) 0 0 9 x)) := fun x => ok7_put7 hT (by decide)
  unfold f7_valueAt; simp only [bnd, jn]
  repeat' split
  all_goals first
    | with_reducible exact h
    | with_reducible exact ok7_f7_stop h _
    | with_reducible exact hU _
    | with_reducible exact ok7_f7_stop hT _
    | with_reducible exact ok7_f7_stop (hU _) _
    | with_reducible exact ok7_f7_valueOfName (hU _) _
    | with_reducible exact ok7_f7_valueOfList VA hOk (hU _) _ _
/-- the class' interpreter, with so many levels left -/
def f7_ev : Nat → Wm → Int32 → Int32 → Int32 × Wm
  | 0 => fun M a dep => f7_valueAt (fun N _ _ => (0, N)) M a dep
  | k + 1 => fun M a dep => f7_valueAt (f7_ev k) M a dep
theorem ok7_ev : ∀ k : Nat, HOk (f7_ev k) := by
  intro k
  induction k with
  | zero => intro M h a dep; exact ok7_f7_valueAt _ (fun h _ _ => h) h a dep
  | succ k ih => intro M h a dep; exact ok7_f7_valueAt _ ih h a dep
theorem mc_ev (l : Launch) (D : va_G) (ta : wTa) (ad : wAd) : ∀ k : Nat, HVA l D ta ad (7 * k + 7) (f7_ev k) (fun dep => 0 ≤ dep.toInt ∧ dep.toInt ≤ 30 ∧ 30 ≤ dep.toInt + k) := by
  intro k
  induction k with
  | zero =>
    intro M a dep hd hok
    exact mc_X7_valueAt l D ta ad 0 (fun N _ _ => (0, N)) (fun _ => False) (fun _ _ _ h => h.elim) (fun h _ _ => h) M a dep hok (fun h => by simp only [i32lt, t32_30] at h; omega)
  | succ k ih =>
    intro M a dep hd hok
    exact mc_X7_valueAt l D ta ad (7 * k + 7) (f7_ev k) _ ih (ok7_ev k) M a dep hok (fun h => by
      simp only [i32lt, t32_30] at h
      have e : (dep + 1).toInt = dep.toInt + 1 := by rw [i32addn (by rw [t32_1]; omega) (by rw [t32_1]; omega), t32_1]
      refine ⟨by omega, by omega, by omega⟩)
theorem mc_ev30 (l : Launch) (D : va_G) (ta : wTa) (ad : wAd) (M : Wm) (a dep : Int32) (h0 : dep = 0) (hok : Ok7 M) : MC l D ta ad yX7_valueAt cX7_valueAt 3 (some .int) 217 [.ref (ad 7 0 0), .int a, .int dep] M (fi (f7_ev 30 M a dep)) := mc_ev l D ta ad 30 M a dep (by subst h0; decide) hok
