def f7_runExpression (M : Wm) (p1 : Int32) (p2 : Int32) : Wm := bnd ((M 1 0 0 7)) (fun (v1 : Int32) => bnd ((M 4 0 0 1)) (fun (v2 : Int32) => bnd (f7_ev 30 M p2 0) (fun (r3 : Int32 × Wm) => if (r3.2 7 0 0 10) = 0 then bnd (uW r3.2 4 (u3 (r3.2 4) 4 p1 7 r3.1)) (fun (M12 : Wm) => bnd (uW M12 4 (u3 (M12 4) 4 p1 6 ((r3.2 4 4 p1 6) + 1))) (fun (M14 : Wm) => M14)) else bnd (f1_undoTo (r3.2 1) v1) (fun (r6 : Cm) => bnd (uW r3.2 1 r6) (fun (M7 : Wm) => bnd (f4_undoFrom (M7 4) v2) (fun (r9 : Cm) => bnd (uW M7 4 r9) (fun (M10 : Wm) => M10)))))))
set_option maxHeartbeats 4000000 in
set_option maxRecDepth 100000 in
theorem mc_X7_runExpression (l : Launch) (D : va_G) (ta : wTa) (ad : wAd) (M : Wm) (p1 : Int32) (p2 : Int32) (hok : Ok7 M) (hp1 : vp_in p1 60) : MC l D ta ad yX7_runExpression cX7_runExpression 6 none 218 [.ref (ad 7 0 0), .ref (ad 4 4 p1), .int p2] M (fv (f7_runExpression M p1 p2)) := by
  refine MC.of (fv) (f7_runExpression M p1 p2) rfl (by decide) (Nat.le_of_ble_eq_true rfl) (fun p e s m args below meth c cx hr => ?_)
  unfold f7_runExpression
  refine mw_sub (lv' := [(0, .ref (ad 7 0 0)), (1, .ref (ad 4 4 p1)), (2, .int p2)]) [0, 1, 2] rfl ?_
  refine mw_aload_n cx (q := 1) 0 rfl rfl dX7_runExpression_0 rfl ?_
  refine mw_get cx (q := 4) (v := .ref (ad 1 0 0)) gf_X7_30 rfl rfl vi_7_0 dX7_runExpression_1 rfl ?_
  refine mw_getN cx (q := 7) (v := .int (M 1 0 0 7)) gf_X7_111 rfl rfl vi_1_0 dX7_runExpression_4 rfl ?_
  refine mw_bndT (fun v1 ev1 => ?_)
  refine mw_istore_n cx (q := 8) (lv' := [(3, .int v1), (0, .ref (ad 7 0 0)), (1, .ref (ad 4 4 p1)), (2, .int p2)]) rfl rfl (by decide) dX7_runExpression_7 rfl ?_
  refine mw_aload_n cx (q := 9) 1 rfl rfl dX7_runExpression_8 rfl ?_
  refine mw_get cx (q := 12) (v := .ref (ad 4 0 0)) gf_X7_34 rfl rfl vi_7_0 dX7_runExpression_9 rfl ?_
  refine mw_getN cx (q := 15) (v := .int (M 4 0 0 1)) gf_X7_116 rfl rfl vi_4_0 dX7_runExpression_12 rfl ?_
  refine mw_bndT (fun v2 ev2 => ?_)
  refine mw_istore cx (q := 17) (lv' := [(4, .int v2), (3, .int v1), (0, .ref (ad 7 0 0)), (1, .ref (ad 4 4 p1)), (2, .int p2)]) rfl (by decide) dX7_runExpression_15 rfl ?_
  refine mw_aload_n cx (q := 18) 2 rfl rfl dX7_runExpression_17 rfl ?_
  refine mw_iload_n cx (q := 19) 4 rfl rfl dX7_runExpression_18 rfl ?_
  refine mw_iconst cx (q := 20) (v := 0) dX7_runExpression_19 rfl rfl ?_
  refine mw_bnd (fun r3 er3 => ?_)
  refine mw_callV cx (q := 23) (d := 217) (As := [.int p2, .int 0]) (z := fi r3) (st := []) (st1 := [.int r3.1]) (M' := r3.2) (by rw [er3]; exact mc_ev30 l D ta ad M p2 0 rfl hok) cv_X7_117 rfl rfl rfl vi_7_0 ⟨Nat.le_of_ble_eq_true rfl, Nat.le_of_ble_eq_true rfl⟩ ⟨Nat.le_refl _, Nat.le_refl _⟩ (by simp [Value.category]) rfl rfl rfl dX7_runExpression_20 rfl ?_
  have ok4 : Ok7 r3.2 := (by rw [er3]; exact ok7_ev 30 hok p2 0)
  refine mw_istore cx (q := 25) (lv' := [(5, .int r3.1), (4, .int v2), (3, .int v1), (0, .ref (ad 7 0 0)), (1, .ref (ad 4 4 p1)), (2, .int p2)]) rfl (by decide) dX7_runExpression_23 rfl ?_
  refine mw_aload_n cx (q := 26) 3 rfl rfl dX7_runExpression_25 rfl ?_
  refine mw_get cx (q := 29) (v := .int (r3.2 7 0 0 10)) gf_X7_60 rfl rfl vi_7_0 dX7_runExpression_26 rfl ?_
  refine mw_if_ne cx (tgt := 51) (q := 32) dX7_runExpression_29 (by decide) rfl (fun h5 => ?_) (fun h5 => ?_)
  · refine mw_aload_n cx (q := 52) 3 rfl rfl dX7_runExpression_51 rfl ?_
    refine mw_get cx (q := 55) (v := .ref (ad 1 0 0)) gf_X7_30 rfl rfl vi_7_0 dX7_runExpression_52 rfl ?_
    refine mw_iload_n cx (q := 56) 2 rfl rfl dX7_runExpression_55 rfl ?_
    refine mw_bnd (fun r6 er6 => ?_)
    refine mw_callV cx (q := 59) (d := 0) (As := [.int v1]) (z := fvc r3.2 1 r6) (st := []) (st1 := []) (M' := uW r3.2 1 r6) (by rw [er6]; exact mc_X1_undoTo l D ta ad r3.2 v1 ok4.2.2.2.2.2.2.2.1 ok4.2.2.2.2.2.2.2.2.1 ok4.2.2.2.2.2.2.2.2.2.1) cv_X7_123 rfl rfl rfl vi_1_0 ⟨Nat.le_of_ble_eq_true rfl, Nat.le_of_ble_eq_true rfl⟩ ⟨Nat.le_refl _, Nat.le_refl _⟩ (by simp [Value.category]) rfl rfl rfl dX7_runExpression_56 rfl ?_
    refine mw_bndM (fun M7 eM7 => ?_)
    have ok8 : Ok7 M7 := (by rw [eM7, er6]; exact ok7_f1_undoTo ok4 v1)
    refine mw_aload_n cx (q := 60) 3 rfl rfl dX7_runExpression_59 rfl ?_
    refine mw_get cx (q := 63) (v := .ref (ad 4 0 0)) gf_X7_34 rfl rfl vi_7_0 dX7_runExpression_60 rfl ?_
    refine mw_iload cx (q := 65) 1 rfl dX7_runExpression_63 rfl ?_
    refine mw_bnd (fun r9 er9 => ?_)
    refine mw_callV cx (q := 68) (d := 0) (As := [.int v2]) (z := fvc M7 4 r9) (st := []) (st1 := []) (M' := uW M7 4 r9) (by rw [er9]; exact mc_X4_undoFrom l D ta ad M7 v2 ok8.2.2.2.2.2.2.2.2.2.2.2 (by rw [ev2]; exact hok.o.1)) cv_X7_127 rfl rfl rfl vi_4_0 ⟨Nat.le_of_ble_eq_true rfl, Nat.le_of_ble_eq_true rfl⟩ ⟨Nat.le_refl _, Nat.le_refl _⟩ (by simp [Value.category]) rfl rfl rfl dX7_runExpression_65 rfl ?_
    refine mw_bndM (fun M10 eM10 => ?_)
    have ok11 : Ok7 M10 := (by rw [eM10, er9]; exact ok7_f4_undoFrom ok8 v2)
    exact mw_vret cx hr rfl dX7_runExpression_68
  · refine mw_aload_n cx (q := 33) 4 rfl rfl dX7_runExpression_32 rfl ?_
    refine mw_iload cx (q := 35) 0 rfl dX7_runExpression_33 rfl ?_
    refine mw_putNW cx (q := 38) 7 gf_X7_120 pf_X3_7 (int_fit _) rfl (Nat.le_of_ble_eq_true rfl) rfl hp1 (by decide) dX7_runExpression_35 rfl (fun M12 eM12 => ?_)
    have ok13 : Ok7 M12 := (by rw [eM12]; exact ok7_put4 ok4)
    refine mw_aload_n cx (q := 39) 4 rfl rfl dX7_runExpression_38 rfl ?_
    refine mw_dup cx (q := 40) dX7_runExpression_39 rfl rfl ?_
    refine mw_getN cx (q := 43) (v := .int (r3.2 4 4 p1 6)) gf_X7_83 rfl (by rw [eM12]; simp [uW, u3, fI]) hp1 dX7_runExpression_40 rfl ?_
    refine mw_iconst cx (q := 44) (v := 1) dX7_runExpression_43 rfl rfl ?_
    refine mw_iadd cx (q := 45) dX7_runExpression_44 rfl ?_
    refine mw_putNW cx (q := 48) 6 gf_X7_83 pf_X3_6 (int_fit _) rfl (Nat.le_of_ble_eq_true rfl) rfl hp1 (by decide) dX7_runExpression_45 rfl (fun M14 eM14 => ?_)
    have ok15 : Ok7 M14 := (by rw [eM14]; exact ok7_put4 ok13)
    refine mw_goto cx (tgt := 68) dX7_runExpression_48 (by decide) ?_
    exact mw_vret cx hr rfl dX7_runExpression_68
theorem ok7_f7_runExpression {M : Wm} (h : Ok7 M) (p1 p2 : Int32) : Ok7 (f7_runExpression M p1 p2) := by
  have h1 := ok7_ev 30 h p2 0
  unfold f7_runExpression; simp only [bnd, jn]
  by_cases c : (f7_ev 30 M p2 0).2 7 0 0 10 = 0
  · rw [if_pos c]; exact ok7_put4 (ok7_put4 h1)
  · rw [if_neg c]; exact ok7_f4_undoFrom (ok7_f1_undoTo h1 _) _
/-- what reading the texts anew leaves -/
def rcS (M M' : Wm) : Prop := ∀ c : Nat, c ≠ 6 → c ≠ 9 → c ≠ 8 → M' c = M c
theorem rcS_readChanged (M : Wm) : rcS M (f8_readChanged M) := by
  have key : ∀ (k : Nat) (x : Int32 × Wm), rcS x.2 (f8_readChanged_lp2 k x) := by
    intro k
    induction k with
    | zero => intro x c _ _ _; rfl
    | succ k ih =>
      intro x c h6 h9 h8
      unfold f8_readChanged_lp2; simp only [bnd, jn]
      have e1 := (rdS_faultRead x.2 x.1).1 c h6 h9
      repeat' split
      all_goals first
        | rfl
        | (rw [ih _ c h6 h9 h8]; done)
        | (rw [ih _ c h6 h9 h8]; show uW (uW _ 8 _) 8 _ c = _; rw [uW_ne _ _ h8, uW_ne _ _ h8, e1])
  exact key 9 (0, M)
theorem ok7_f8_readChanged {M : Wm} (h : Ok7 M) : Ok7 (f8_readChanged M) := by
  have e := rcS_readChanged M
  have e7 := e 7 (by decide) (by decide) (by decide)
  have e2 := e 2 (by decide) (by decide) (by decide)
  have e1 := e 1 (by decide) (by decide) (by decide)
  have e4 := e 4 (by decide) (by decide) (by decide)
  refine Ok7.mk ?_ ?_ ?_ ?_
  · rw [e7]; exact h.1
  · rw [e2]; exact h.n
  · rw [e1]; exact h.b
  · rw [e4]; exact h.o
def f7_execute_lp105 (p1 : Int32) (K18 : Wm → Wm) (r20 : Int32) : Nat → (Int32 × Int32 × Wm) → Wm
  | 0, x23 => x23.2.2
  | n24 + 1, x23 => bnd (f9_partsOf (x23.2.2 9) r20) (fun (r25 : Int32) => if r25 ≤ x23.1 then K18 x23.2.2 else if (x23.2.2 7 0 0 10) = 0 then bnd (f7_runExpression x23.2.2 p1 x23.2.1) (fun (r28 : Wm) => bnd (f9_nextOf (r28 9) x23.2.1) (fun (r30 : Int32) => bnd (x23.1 + 1) (fun (v31 : Int32) => f7_execute_lp105 p1 K18 r20 n24 (v31, r30, r28)))) else K18 x23.2.2)
theorem f7_execute_lp105_s (p1 : Int32) (K18 : Wm → Wm) (r20 : Int32) (n24 : Nat) (x23 : Int32 × Int32 × Wm) : f7_execute_lp105 p1 K18 r20 (n24 + 1) x23 = bnd (f9_partsOf (x23.2.2 9) r20) (fun (r25 : Int32) => if r25 ≤ x23.1 then K18 x23.2.2 else if (x23.2.2 7 0 0 10) = 0 then bnd (f7_runExpression x23.2.2 p1 x23.2.1) (fun (r28 : Wm) => bnd (f9_nextOf (r28 9) x23.2.1) (fun (r30 : Int32) => bnd (x23.1 + 1) (fun (v31 : Int32) => f7_execute_lp105 p1 K18 r20 n24 (v31, r30, r28)))) else K18 x23.2.2) := rfl
def f7_execute (M : Wm) (p1 : Int32) (p2 : Int32) : Wm := bnd (uW M 7 (u3 (M 7) 0 0 6 p1)) (fun (M1 : Wm) => bnd (uW M1 7 (u3 (M1 7) 0 0 7 (M 4 4 p1 0))) (fun (M3 : Wm) => bnd (uW M3 7 (u3 (M3 7) 0 0 8 p2)) (fun (M5 : Wm) => bnd (uW M5 7 (u3 (M5 7) 0 0 9 0)) (fun (M7 : Wm) => bnd (uW M7 7 (u3 (M7 7) 0 0 10 0)) (fun (M9 : Wm) => bnd (f2_clear (M9 2)) (fun (r11 : Cm) => bnd (uW M9 2 r11) (fun (M12 : Wm) => bnd (f8_readChanged M12) (fun (r14 : Wm) => bnd (f8_faultOf (r14 8) (r14 4 4 p1 1)) (fun (r16 : Int32) => jn (fun (v17 : Wm) => bnd (uW v17 4 (u3 (v17 4) 4 p1 8 ((v17 4 4 p1 8) + (v17 7 0 0 9)))) (fun (M34 : Wm) => bnd (f7_stateThen (M34 7)) (fun (r36 : Int32) => bnd (uW M34 4 (u3 (M34 4) 4 p1 4 r36)) (fun (M37 : Wm) => jn (fun (v39 : Int32) => bnd (uW M37 4 (u3 (M37 4) 4 p1 5 v39)) (fun (M42 : Wm) => M42)) (fun K40 => if (M37 4 4 p1 4) = 3 then K40 (v17 7 0 0 10) else K40 0))))) (fun K18 => if r16 = (-1) then bnd (f9_rowOf (r14 4 4 p1 1)) (fun (r20 : Int32) => bnd (f9_partOf (r14 9) r20 (r14 4 4 p1 6)) (fun (r21 : Int32) => bnd ((r14 4 4 p1 6)) (fun (v22 : Int32) => f7_execute_lp105 p1 K18 r20 (4294967296 + 0 * (p1).toInt.toNat) (v22, r21, r14)))) else bnd (uW r14 7 (u3 (r14 7) 0 0 10 1)) (fun (M32 : Wm) => K18 M32)))))))))))
set_option maxHeartbeats 4000000 in
set_option maxRecDepth 100000 in
theorem mc_X7_execute (l : Launch) (D : va_G) (ta : wTa) (ad : wAd) (M : Wm) (p1 : Int32) (p2 : Int32) (hok : Ok7 M) (hp1 : vp_in p1 60) (hco : vp_in (M 4 4 p1 0) 4) (hsc : vp_in (M 4 4 p1 1) 8) (hln : ∀ j : Int32, vp_in j 8 → 0 ≤ (M 8 2 0 j).toInt ∧ (M 8 2 0 j).toInt ≤ 120) : MC l D ta ad yX7_execute cX7_execute 7 none 219 [.ref (ad 7 0 0), .int p1, .int p2] M (fv (f7_execute M p1 p2)) := by
  refine MC.of (fv) (f7_execute M p1 p2) rfl (by decide) (Nat.le_of_ble_eq_true rfl) (fun p e s m args below meth c cx hr => ?_)
  unfold f7_execute
  refine mw_sub (lv' := [(0, .ref (ad 7 0 0)), (1, .int p1), (2, .int p2)]) [0, 1, 2] rfl ?_
  refine mw_aload_n cx (q := 1) 0 rfl rfl dX7_execute_0 rfl ?_
  refine mw_get cx (q := 4) (v := .ref (ad 4 0 0)) gf_X7_34 rfl rfl vi_7_0 dX7_execute_1 rfl ?_
  refine mw_getN cx (q := 7) (v := .ref (ad 4 1 0)) gf_X7_38 rfl rfl vi_4_0 dX7_execute_4 rfl ?_
  refine mw_iload_n cx (q := 8) 1 rfl rfl dX7_execute_7 rfl ?_
  refine mw_aald cx (q := 9) (fun _ => rfl) rfl rfl vi_4_1 hp1 dX7_execute_8 rfl ?_
  refine mw_astore_n cx (q := 10) (lv' := [(3, .ref (ad 4 4 p1)), (0, .ref (ad 7 0 0)), (1, .int p1), (2, .int p2)]) rfl rfl (by decide) dX7_execute_9 rfl ?_
  refine mw_aload_n cx (q := 11) 1 rfl rfl dX7_execute_10 rfl ?_
  refine mw_iload_n cx (q := 12) 2 rfl rfl dX7_execute_11 rfl ?_
  refine mw_putW cx (q := 15) 6 gf_X7_44 pf_X7_6 (int_fit _) rfl (Nat.le_of_ble_eq_true rfl) rfl vi_7_0 (by decide) dX7_execute_12 rfl (fun M1 eM1 => ?_)
  have ok2 : Ok7 M1 := (by rw [eM1]; exact ok7_put7 hok (by decide))
  refine mw_aload_n cx (q := 16) 1 rfl rfl dX7_execute_15 rfl ?_
  refine mw_aload_n cx (q := 17) 0 rfl rfl dX7_execute_16 rfl ?_
  refine mw_getN cx (q := 20) (v := .int (M 4 4 p1 0)) gf_X7_48 rfl (by rw [eM1]; rfl) hp1 dX7_execute_17 rfl ?_
  refine mw_putW cx (q := 23) 7 gf_X7_53 pf_X7_7 (int_fit _) rfl (Nat.le_of_ble_eq_true rfl) rfl vi_7_0 (by decide) dX7_execute_20 rfl (fun M3 eM3 => ?_)
  have ok4 : Ok7 M3 := (by rw [eM3]; exact ok7_put7c ok2 hco)
  refine mw_aload_n cx (q := 24) 1 rfl rfl dX7_execute_23 rfl ?_
  refine mw_iload_n cx (q := 25) 3 rfl rfl dX7_execute_24 rfl ?_
  refine mw_putW cx (q := 28) 8 gf_X7_54 pf_X7_8 (int_fit _) rfl (Nat.le_of_ble_eq_true rfl) rfl vi_7_0 (by decide) dX7_execute_25 rfl (fun M5 eM5 => ?_)
  have ok6 : Ok7 M5 := (by rw [eM5]; exact ok7_put7 ok4 (by decide))
  refine mw_aload_n cx (q := 29) 1 rfl rfl dX7_execute_28 rfl ?_
  refine mw_iconst cx (q := 30) (v := 0) dX7_execute_29 rfl rfl ?_
  refine mw_putW cx (q := 33) 9 gf_X7_57 pf_X7_9 (int_fit _) rfl (Nat.le_of_ble_eq_true rfl) rfl vi_7_0 (by decide) dX7_execute_30 rfl (fun M7 eM7 => ?_)
  have ok8 : Ok7 M7 := (by rw [eM7]; exact ok7_put7 ok6 (by decide))
  refine mw_aload_n cx (q := 34) 1 rfl rfl dX7_execute_33 rfl ?_
  refine mw_iconst cx (q := 35) (v := 0) dX7_execute_34 rfl rfl ?_
  refine mw_putW cx (q := 38) 10 gf_X7_60 pf_X7_10 (int_fit _) rfl (Nat.le_of_ble_eq_true rfl) rfl vi_7_0 (by decide) dX7_execute_35 rfl (fun M9 eM9 => ?_)
  have ok10 : Ok7 M9 := (by rw [eM9]; exact ok7_put7 ok8 (by decide))
  refine mw_aload_n cx (q := 39) 1 rfl rfl dX7_execute_38 rfl ?_
  refine mw_get cx (q := 42) (v := .ref (ad 2 0 0)) gf_X7_12 rfl rfl vi_7_0 dX7_execute_39 rfl ?_
  refine mw_bnd (fun r11 er11 => ?_)
  refine mw_callV cx (q := 45) (d := 0) (As := []) (z := fvc M9 2 r11) (st := []) (st1 := []) (M' := uW M9 2 r11) (by rw [er11]; exact mc_X2_clear l D ta ad M9) cv_X7_63 rfl rfl rfl vi_2_0 ⟨Nat.le_of_ble_eq_true rfl, Nat.le_of_ble_eq_true rfl⟩ ⟨Nat.le_refl _, Nat.le_refl _⟩ (by simp [Value.category]) rfl rfl rfl dX7_execute_42 rfl ?_
  refine mw_bndM (fun M12 eM12 => ?_)
  have ok13 : Ok7 M12 := (by rw [eM12, er11]; exact ok7_f2_clear ok10)
  refine mw_aload_n cx (q := 46) 1 rfl rfl dX7_execute_45 rfl ?_
  refine mw_get cx (q := 49) (v := .ref (ad 8 0 0)) gf_X7_22 rfl rfl vi_7_0 dX7_execute_46 rfl ?_
  refine mw_bnd (fun r14 er14 => ?_)
  refine mw_callV cx (q := 52) (d := 5) (As := []) (z := fv r14) (st := []) (st1 := []) (M' := r14) (by rw [er14]; exact mc_X8_readChanged l D ta ad M12 (by rw [eM12, eM9, eM7, eM5, eM3, eM1]; exact hln)) cv_X7_66 rfl rfl rfl vi_8_0 ⟨Nat.le_of_ble_eq_true rfl, Nat.le_of_ble_eq_true rfl⟩ ⟨Nat.le_refl _, Nat.le_refl _⟩ (by simp [Value.category]) rfl rfl rfl dX7_execute_49 rfl ?_
  have ok15 : Ok7 r14 := (by rw [er14]; exact ok7_f8_readChanged ok13)
  have hs4 : r14 4 = M 4 := (by rw [er14, rcS_readChanged _ 4 (by decide) (by decide) (by decide)]; rw [eM12, eM9, eM7, eM5, eM3, eM1]; rfl)
  have hs8 : vp_in (r14 4 4 p1 1) 8 := (by rw [hs4]; exact hsc)
  refine mw_aload_n cx (q := 53) 1 rfl rfl dX7_execute_52 rfl ?_
  refine mw_get cx (q := 56) (v := .ref (ad 8 0 0)) gf_X7_22 rfl rfl vi_7_0 dX7_execute_53 rfl ?_
  refine mw_aload_n cx (q := 57) 0 rfl rfl dX7_execute_56 rfl ?_
  refine mw_getN cx (q := 60) (v := .int (r14 4 4 p1 1)) gf_X7_71 rfl rfl hp1 dX7_execute_57 rfl ?_
  refine mw_bnd (fun r16 er16 => ?_)
  refine mw_callV cx (q := 63) (d := 0) (As := [.int (r14 4 4 p1 1)]) (z := fip r14 r16) (st := []) (st1 := [.int r16]) (M' := r14) (by rw [er16]; exact mc_X8_faultOf l D ta ad r14 (r14 4 4 p1 1) hs8) cv_X7_74 rfl rfl rfl vi_8_0 ⟨Nat.le_of_ble_eq_true rfl, Nat.le_of_ble_eq_true rfl⟩ ⟨Nat.le_refl _, Nat.le_refl _⟩ (by simp [Value.category]) rfl rfl rfl dX7_execute_60 rfl ?_
  refine mw_iconst cx (q := 64) (v := (-1)) dX7_execute_63 rfl rfl ?_
  refine mw_jnP (P := fun (v17 : Wm) => (Ok7 v17)) (Mj := fun (v17 : Wm) => v17) (pj := 150) (lj := fun (v17 : Wm) => [(0, .ref (ad 7 0 0)), (3, .ref (ad 4 4 p1))]) (sj := fun (v17 : Wm) => []) (fun v17 jv17 => ?_) (fun K18 hK18 => ?_)
  · have jv17_0 := jv17
    refine mw_aload_n cx (q := 151) 1 rfl rfl dX7_execute_150 rfl ?_
    refine mw_dup cx (q := 152) dX7_execute_151 rfl rfl ?_
    refine mw_getN cx (q := 155) (v := .int (v17 4 4 p1 8)) gf_X7_100 rfl rfl hp1 dX7_execute_152 rfl ?_
    refine mw_aload_n cx (q := 156) 0 rfl rfl dX7_execute_155 rfl ?_
    refine mw_get cx (q := 159) (v := .int (v17 7 0 0 9)) gf_X7_57 rfl rfl vi_7_0 dX7_execute_156 rfl ?_
    refine mw_iadd cx (q := 160) dX7_execute_159 rfl ?_
    refine mw_putNW cx (q := 163) 8 gf_X7_100 pf_X3_8 (int_fit _) rfl (Nat.le_of_ble_eq_true rfl) rfl hp1 (by decide) dX7_execute_160 rfl (fun M34 eM34 => ?_)
    have ok35 : Ok7 M34 := (by rw [eM34]; exact ok7_put4 jv17_0)
    refine mw_aload_n cx (q := 164) 1 rfl rfl dX7_execute_163 rfl ?_
    refine mw_aload_n cx (q := 165) 0 rfl rfl dX7_execute_164 rfl ?_
    refine mw_bnd (fun r36 er36 => ?_)
    refine mw_callV cx (q := 168) (d := 0) (As := []) (z := fip M34 r36) (st := [.ref (ad 4 4 p1)]) (st1 := [.int r36, .ref (ad 4 4 p1)]) (M' := M34) (by rw [er36]; exact mc_X7_stateThen l D ta ad M34) cv_X7_101 rfl rfl rfl vi_7_0 ⟨Nat.le_of_ble_eq_true rfl, Nat.le_of_ble_eq_true rfl⟩ ⟨Nat.le_refl _, Nat.le_refl _⟩ (by simp [Value.category]) rfl rfl rfl dX7_execute_165 rfl ?_
    refine mw_putNW cx (q := 171) 4 gf_X7_105 pf_X3_4 (int_fit _) rfl (Nat.le_of_ble_eq_true rfl) rfl hp1 (by decide) dX7_execute_168 rfl (fun M37 eM37 => ?_)
    have ok38 : Ok7 M37 := (by rw [eM37]; exact ok7_put4 ok35)
    refine mw_aload_n cx (q := 172) 1 rfl rfl dX7_execute_171 rfl ?_
    refine mw_aload_n cx (q := 173) 1 rfl rfl dX7_execute_172 rfl ?_
    refine mw_getN cx (q := 176) (v := .int (M37 4 4 p1 4)) gf_X7_105 rfl rfl hp1 dX7_execute_173 rfl ?_
    refine mw_iconst cx (q := 177) (v := 3) dX7_execute_176 rfl rfl ?_
    refine mw_jn (Mj := fun (v39 : Int32) => M37) (pj := 188) (lj := fun (v39 : Int32) => []) (sj := fun (v39 : Int32) => [.int v39, .ref (ad 4 4 p1)]) (fun v39 => ?_) (fun K40 hK40 => ?_)
    · refine mw_putNW cx (q := 191) 5 gf_X7_108 pf_X3_5 (int_fit _) rfl (Nat.le_of_ble_eq_true rfl) rfl hp1 (by decide) dX7_execute_188 rfl (fun M42 eM42 => ?_)
      have ok43 : Ok7 M42 := (by rw [eM42]; exact ok7_put4 ok38)
      exact mw_vret cx hr rfl dX7_execute_191
    · refine mw_icmp_ne cx (tgt := 187) (q := 180) dX7_execute_177 (by decide) rfl (fun h41 => ?_) (fun h41 => ?_)
      · refine mw_iconst cx (q := 188) (v := 0) dX7_execute_187 rfl rfl ?_
        refine mw_sub [] rfl ?_
        exact hK40 0
      · refine mw_aload_n cx (q := 181) 0 rfl rfl dX7_execute_180 rfl ?_
        refine mw_get cx (q := 184) (v := .int (v17 7 0 0 10)) gf_X7_60 rfl (by rw [eM37, eM34]; rfl) vi_7_0 dX7_execute_181 rfl ?_
        refine mw_goto cx (tgt := 188) dX7_execute_184 (by decide) ?_
        refine mw_sub [] rfl ?_
        exact hK40 (v17 7 0 0 10)
  · refine mw_icmp_eq cx (tgt := 75) (q := 67) dX7_execute_64 (by decide) rfl (fun h19 => ?_) (fun h19 => ?_)
    · refine mw_aload_n cx (q := 76) 0 rfl rfl dX7_execute_75 rfl ?_
      refine mw_getN cx (q := 79) (v := .int (r14 4 4 p1 1)) gf_X7_71 rfl rfl hp1 dX7_execute_76 rfl ?_
      refine mw_bnd (fun r20 er20 => ?_)
      refine mw_callS cx (q := 82) (d := 1) (As := [.int (r14 4 4 p1 1)]) (z := fip r14 r20) (st := []) (st1 := [.int r20]) (M' := r14) (by rw [er20]; exact mc_X9_rowOf l D ta ad r14 (r14 4 4 p1 1)) cv_X7_78 ⟨Nat.le_of_ble_eq_true rfl, Nat.le_of_ble_eq_true rfl⟩ ⟨Nat.le_refl _, Nat.le_refl _⟩ (by simp [Value.category]) rfl rfl rfl dX7_execute_79 rfl ?_
      refine mw_istore cx (q := 84) (lv' := [(4, .int r20), (3, .ref (ad 4 4 p1)), (0, .ref (ad 7 0 0)), (1, .int p1), (2, .int p2)]) rfl (by decide) dX7_execute_82 rfl ?_
      refine mw_aload_n cx (q := 85) 2 rfl rfl dX7_execute_84 rfl ?_
      refine mw_get cx (q := 88) (v := .ref (ad 9 0 0)) gf_X7_18 rfl rfl vi_7_0 dX7_execute_85 rfl ?_
      refine mw_iload cx (q := 90) 0 rfl dX7_execute_88 rfl ?_
      refine mw_aload_n cx (q := 91) 1 rfl rfl dX7_execute_90 rfl ?_
      refine mw_getN cx (q := 94) (v := .int (r14 4 4 p1 6)) gf_X7_83 rfl rfl hp1 dX7_execute_91 rfl ?_
      refine mw_bnd (fun r21 er21 => ?_)
      refine mw_callV cx (q := 97) (d := 0) (As := [.int r20, .int (r14 4 4 p1 6)]) (z := fip r14 r21) (st := []) (st1 := [.int r21]) (M' := r14) (by rw [er21]; exact mc_X9_partOf l D ta ad r14 r20 (r14 4 4 p1 6)) cv_X7_86 rfl rfl rfl vi_9_0 ⟨Nat.le_of_ble_eq_true rfl, Nat.le_of_ble_eq_true rfl⟩ ⟨Nat.le_refl _, Nat.le_refl _⟩ (by simp [Value.category]) rfl rfl rfl dX7_execute_94 rfl ?_
      refine mw_istore cx (q := 99) (lv' := [(5, .int r21), (4, .int r20), (3, .ref (ad 4 4 p1)), (0, .ref (ad 7 0 0)), (1, .int p1), (2, .int p2)]) rfl (by decide) dX7_execute_97 rfl ?_
      refine mw_aload_n cx (q := 100) 2 rfl rfl dX7_execute_99 rfl ?_
      refine mw_getN cx (q := 103) (v := .int (r14 4 4 p1 6)) gf_X7_83 rfl rfl hp1 dX7_execute_100 rfl ?_
      refine mw_bndT (fun v22 ev22 => ?_)
      refine mw_istore cx (q := 105) (lv' := [(6, .int v22), (5, .int r21), (4, .int r20), (3, .ref (ad 4 4 p1)), (0, .ref (ad 7 0 0)), (1, .int p1), (2, .int p2)]) rfl (by decide) dX7_execute_103 rfl ?_
      refine mw_sub [0, 1, 2, 3, 4] rfl ?_
      refine mw_loop (F := f7_execute_lp105 p1 K18 r20) (I := fun (x23 : Int32 × Int32 × Wm) => Ok7 x23.2.2) (μ := fun (x23 : Int32 × Int32 × Wm) => (2147483647 - (x23.1).toInt).toNat) (Mx := fun (x23 : Int32 × Int32 × Wm) => x23.2.2) (px := 105) (lx := fun (x23 : Int32 × Int32 × Wm) => [(6, .int x23.1), (5, .int x23.2.1), (4, .int r20), (3, .ref (ad 4 4 p1)), (0, .ref (ad 7 0 0))]) (fun n24 x23 ivx23 ih => ?_) (4294967296 + 0 * (p1).toInt.toNat) (v22, r21, r14) ok15 (by dsimp only; have hi := i32rng v22; omega)
      have ivx23_0 := ivx23
      refine mw_eqS (f7_execute_lp105_s p1 K18 r20 n24 x23) ?_
      refine mw_iload cx (q := 107) 0 rfl dX7_execute_105 rfl ?_
      refine mw_aload_n cx (q := 108) 4 rfl rfl dX7_execute_107 rfl ?_
      refine mw_get cx (q := 111) (v := .ref (ad 9 0 0)) gf_X7_18 rfl rfl vi_7_0 dX7_execute_108 rfl ?_
      refine mw_iload cx (q := 113) 2 rfl dX7_execute_111 rfl ?_
      refine mw_bnd (fun r25 er25 => ?_)
      refine mw_callV cx (q := 116) (d := 0) (As := [.int r20]) (z := fip x23.2.2 r25) (st := [.int x23.1]) (st1 := [.int r25, .int x23.1]) (M' := x23.2.2) (by rw [er25]; exact mc_X9_partsOf l D ta ad x23.2.2 r20) cv_X7_90 rfl rfl rfl vi_9_0 ⟨Nat.le_of_ble_eq_true rfl, Nat.le_of_ble_eq_true rfl⟩ ⟨Nat.le_refl _, Nat.le_refl _⟩ (by simp [Value.category]) rfl rfl rfl dX7_execute_113 rfl ?_
      refine mw_icmp_ge cx (tgt := 150) (q := 119) dX7_execute_116 (by decide) rfl (fun h26 => ?_) (fun h26 => ?_)
      · refine mw_sub [4, 3] rfl ?_
        exact hK18 x23.2.2 ivx23_0
      · refine mw_aload_n cx (q := 120) 4 rfl rfl dX7_execute_119 rfl ?_
        refine mw_get cx (q := 123) (v := .int (x23.2.2 7 0 0 10)) gf_X7_60 rfl rfl vi_7_0 dX7_execute_120 rfl ?_
        refine mw_if_ne cx (tgt := 150) (q := 126) dX7_execute_123 (by decide) rfl (fun h27 => ?_) (fun h27 => ?_)
        · refine mw_sub [4, 3] rfl ?_
          exact hK18 x23.2.2 ivx23_0
        · refine mw_aload_n cx (q := 127) 4 rfl rfl dX7_execute_126 rfl ?_
          refine mw_aload_n cx (q := 128) 3 rfl rfl dX7_execute_127 rfl ?_
          refine mw_iload cx (q := 130) 1 rfl dX7_execute_128 rfl ?_
          refine mw_bnd (fun r28 er28 => ?_)
          refine mw_callV cx (q := 133) (d := 218) (As := [.ref (ad 4 4 p1), .int x23.2.1]) (z := fv r28) (st := []) (st1 := []) (M' := r28) (by rw [er28]; exact mc_X7_runExpression l D ta ad x23.2.2 p1 x23.2.1 ivx23_0 hp1) cv_X7_93 rfl rfl rfl vi_7_0 ⟨Nat.le_of_ble_eq_true rfl, Nat.le_of_ble_eq_true rfl⟩ ⟨Nat.le_refl _, Nat.le_refl _⟩ (by simp [Value.category]) rfl rfl rfl dX7_execute_130 rfl ?_
          have ok29 : Ok7 r28 := (by rw [er28]; exact ok7_f7_runExpression ivx23_0 p1 x23.2.1)
          refine mw_aload_n cx (q := 134) 4 rfl rfl dX7_execute_133 rfl ?_
          refine mw_get cx (q := 137) (v := .ref (ad 9 0 0)) gf_X7_18 rfl rfl vi_7_0 dX7_execute_134 rfl ?_
          refine mw_iload cx (q := 139) 1 rfl dX7_execute_137 rfl ?_
          refine mw_bnd (fun r30 er30 => ?_)
          refine mw_callV cx (q := 142) (d := 0) (As := [.int x23.2.1]) (z := fip r28 r30) (st := []) (st1 := [.int r30]) (M' := r28) (by rw [er30]; exact mc_X9_nextOf l D ta ad r28 x23.2.1) cv_X7_97 rfl rfl rfl vi_9_0 ⟨Nat.le_of_ble_eq_true rfl, Nat.le_of_ble_eq_true rfl⟩ ⟨Nat.le_refl _, Nat.le_refl _⟩ (by simp [Value.category]) rfl rfl rfl dX7_execute_139 rfl ?_
          refine mw_istore cx (q := 144) (lv' := [(5, .int r30), (6, .int x23.1), (4, .int r20), (3, .ref (ad 4 4 p1)), (0, .ref (ad 7 0 0))]) rfl (by decide) dX7_execute_142 rfl ?_
          refine mw_bnd (fun v31 ev31 => ?_)
          refine mw_iinc cx (q := 147) (v := v31) (lv' := [(6, .int v31), (5, .int r30), (4, .int r20), (3, .ref (ad 4 4 p1)), (0, .ref (ad 7 0 0))]) 1 rfl (by rw [ev31]; rfl) rfl (by decide) dX7_execute_144 rfl ?_
          refine mw_goto cx (tgt := 105) dX7_execute_147 (by decide) ?_
          exact ih (v31, r30, r28) ok29 (by dsimp only; have hz := h26; have hb := i32rng (r25); have hi := i32rng (x23.1); simp only [i32le] at hz; rw [ev31, i32addn (by rw [t32_1]; omega) (by rw [t32_1]; omega), t32_1]; omega)
    · refine mw_aload_n cx (q := 68) 1 rfl rfl dX7_execute_67 rfl ?_
      refine mw_iconst cx (q := 69) (v := 1) dX7_execute_68 rfl rfl ?_
      refine mw_putW cx (q := 72) 10 gf_X7_60 pf_X7_10 (int_fit _) rfl (Nat.le_of_ble_eq_true rfl) rfl vi_7_0 (by decide) dX7_execute_69 rfl (fun M32 eM32 => ?_)
      have ok33 : Ok7 M32 := (by rw [eM32]; exact ok7_put7 ok15 (by decide))
      refine mw_goto cx (tgt := 150) dX7_execute_72 (by decide) ?_
      refine mw_sub [1, 0] rfl ?_
      exact hK18 M32 ok33
