def f10_digitOf (p1 : Int32) : Int32 := ((p1 - 97) + 1)
set_option maxHeartbeats 4000000 in
set_option maxRecDepth 100000 in
theorem mc_X10_digitOf (l : Launch) (D : va_G) (ta : wTa) (ad : wAd) (M : Wm) (p1 : Int32) : MC l D ta ad yX10_digitOf cX10_digitOf 1 (some .int) 0 [.int p1] M (fip M (f10_digitOf p1)) := by
  refine MC.of (fip M) (f10_digitOf p1) rfl (by decide) (Nat.le_of_ble_eq_true rfl) (fun p e s m args below meth c cx hr => ?_)
  unfold f10_digitOf
  refine mw_sub (lv' := [(0, .int p1)]) [0] rfl ?_
  refine mw_iload_n cx (q := 1) 0 rfl rfl dX10_digitOf_0 rfl ?_
  refine mw_bipush cx (q := 3) (v := 97) dX10_digitOf_1 rfl rfl ?_
  refine mw_isub cx (q := 4) dX10_digitOf_3 rfl ?_
  refine mw_iconst cx (q := 5) (v := 1) dX10_digitOf_4 rfl rfl ?_
  refine mw_iadd cx (q := 6) dX10_digitOf_5 rfl ?_
  exact mw_iret cx hr rfl dX10_digitOf_6
def f10_goodOf (p1 : Int32) : Int32 := if p1 < 1 then (-1) else if 8 < p1 then (-1) else (p1 - 1)
set_option maxHeartbeats 4000000 in
set_option maxRecDepth 100000 in
theorem mc_X10_goodOf (l : Launch) (D : va_G) (ta : wTa) (ad : wAd) (M : Wm) (p1 : Int32) : MC l D ta ad yX10_goodOf cX10_goodOf 1 (some .int) 0 [.int p1] M (fip M (f10_goodOf p1)) := by
  refine MC.of (fip M) (f10_goodOf p1) rfl (by decide) (Nat.le_of_ble_eq_true rfl) (fun p e s m args below meth c cx hr => ?_)
  unfold f10_goodOf
  refine mw_sub (lv' := [(0, .int p1)]) [0] rfl ?_
  refine mw_iload_n cx (q := 1) 0 rfl rfl dX10_goodOf_0 rfl ?_
  refine mw_iconst cx (q := 2) (v := 1) dX10_goodOf_1 rfl rfl ?_
  refine mw_icmp_lt cx (tgt := 17) (q := 5) dX10_goodOf_2 (by decide) rfl (fun h1 => ?_) (fun h1 => ?_)
  · refine mw_iconst cx (q := 18) (v := (-1)) dX10_goodOf_17 rfl rfl ?_
    exact mw_iret cx hr rfl dX10_goodOf_18
  · refine mw_iload_n cx (q := 6) 0 rfl rfl dX10_goodOf_5 rfl ?_
    refine mw_bipush cx (q := 8) (v := 8) dX10_goodOf_6 rfl rfl ?_
    refine mw_icmp_gt cx (tgt := 17) (q := 11) dX10_goodOf_8 (by decide) rfl (fun h2 => ?_) (fun h2 => ?_)
    · refine mw_iconst cx (q := 18) (v := (-1)) dX10_goodOf_17 rfl rfl ?_
      exact mw_iret cx hr rfl dX10_goodOf_18
    · refine mw_iload_n cx (q := 12) 0 rfl rfl dX10_goodOf_11 rfl ?_
      refine mw_iconst cx (q := 13) (v := 1) dX10_goodOf_12 rfl rfl ?_
      refine mw_isub cx (q := 14) dX10_goodOf_13 rfl ?_
      refine mw_goto cx (tgt := 18) dX10_goodOf_14 (by decide) ?_
      exact mw_iret cx hr rfl dX10_goodOf_18
def f6_isDigit (p1 : Int32) : Bool := bnd (f11_isIn p1 48 57) (fun (r1 : Bool) => r1)
set_option maxHeartbeats 4000000 in
set_option maxRecDepth 100000 in
theorem mc_X6_isDigit (l : Launch) (D : va_G) (ta : wTa) (ad : wAd) (M : Wm) (p1 : Int32) : MC l D ta ad yX6_isDigit cX6_isDigit 1 (some .boolean) 1 [.int p1] M (fzp M (f6_isDigit p1)) := by
  refine MC.of (fzp M) (f6_isDigit p1) rfl (by decide) (Nat.le_of_ble_eq_true rfl) (fun p e s m args below meth c cx hr => ?_)
  unfold f6_isDigit
  refine mw_sub (lv' := [(0, .int p1)]) [0] rfl ?_
  refine mw_iload_n cx (q := 1) 0 rfl rfl dX6_isDigit_0 rfl ?_
  refine mw_bipush cx (q := 3) (v := 48) dX6_isDigit_1 rfl rfl ?_
  refine mw_bipush cx (q := 5) (v := 57) dX6_isDigit_3 rfl rfl ?_
  refine mw_bnd (fun r1 er1 => ?_)
  refine mw_callSN cx (q := 8) (d := 0) (As := [.int p1, .int 48, .int 57]) (z := fzp M r1) (st := []) (st1 := [.int (b2i r1)]) (M' := M) (by rw [er1]; exact mc_X11_isIn l D ta ad M p1 48 57) cv_X6_24 ⟨Nat.le_of_ble_eq_true rfl, Nat.le_of_ble_eq_true rfl⟩ ⟨Nat.le_refl _, Nat.le_refl _⟩ (by simp [Value.category]) rfl rfl rfl dX6_isDigit_5 rfl ?_
  exact mw_zret cx hr (b2i_nar _) rfl dX6_isDigit_8
def f6_isLetter (p1 : Int32) : Bool := bnd (f11_isIn p1 97 122) (fun (r1 : Bool) => r1)
set_option maxHeartbeats 4000000 in
set_option maxRecDepth 100000 in
theorem mc_X6_isLetter (l : Launch) (D : va_G) (ta : wTa) (ad : wAd) (M : Wm) (p1 : Int32) : MC l D ta ad yX6_isLetter cX6_isLetter 1 (some .boolean) 1 [.int p1] M (fzp M (f6_isLetter p1)) := by
  refine MC.of (fzp M) (f6_isLetter p1) rfl (by decide) (Nat.le_of_ble_eq_true rfl) (fun p e s m args below meth c cx hr => ?_)
  unfold f6_isLetter
  refine mw_sub (lv' := [(0, .int p1)]) [0] rfl ?_
  refine mw_iload_n cx (q := 1) 0 rfl rfl dX6_isLetter_0 rfl ?_
  refine mw_bipush cx (q := 3) (v := 97) dX6_isLetter_1 rfl rfl ?_
  refine mw_bipush cx (q := 5) (v := 122) dX6_isLetter_3 rfl rfl ?_
  refine mw_bnd (fun r1 er1 => ?_)
  refine mw_callSN cx (q := 8) (d := 0) (As := [.int p1, .int 97, .int 122]) (z := fzp M r1) (st := []) (st1 := [.int (b2i r1)]) (M' := M) (by rw [er1]; exact mc_X11_isIn l D ta ad M p1 97 122) cv_X6_24 ⟨Nat.le_of_ble_eq_true rfl, Nat.le_of_ble_eq_true rfl⟩ ⟨Nat.le_refl _, Nat.le_refl _⟩ (by simp [Value.category]) rfl rfl rfl dX6_isLetter_5 rfl ?_
  exact mw_zret cx hr (b2i_nar _) rfl dX6_isLetter_8
def f6_isSign (p1 : Int32) : Bool := if p1 = 32 then true else if p1 = 40 then true else if p1 = 41 then true else if p1 = 45 then true else bnd (f6_isDigit p1) (fun (r5 : Bool) => if r5 = true then true else bnd (f6_isLetter p1) (fun (r7 : Bool) => if r7 = true then true else false))
set_option maxHeartbeats 4000000 in
set_option maxRecDepth 100000 in
theorem mc_X6_isSign (l : Launch) (D : va_G) (ta : wTa) (ad : wAd) (M : Wm) (p1 : Int32) : MC l D ta ad yX6_isSign cX6_isSign 1 (some .boolean) 2 [.int p1] M (fzp M (f6_isSign p1)) := by
  refine MC.of (fzp M) (f6_isSign p1) rfl (by decide) (Nat.le_of_ble_eq_true rfl) (fun p e s m args below meth c cx hr => ?_)
  unfold f6_isSign
  refine mw_sub (lv' := [(0, .int p1)]) [0] rfl ?_
  refine mw_iload_n cx (q := 1) 0 rfl rfl dX6_isSign_0 rfl ?_
  refine mw_bipush cx (q := 3) (v := 32) dX6_isSign_1 rfl rfl ?_
  refine mw_icmp_eq cx (tgt := 38) (q := 6) dX6_isSign_3 (by decide) rfl (fun h1 => ?_) (fun h1 => ?_)
  · refine mw_iconst cx (q := 39) (v := 1) dX6_isSign_38 rfl rfl ?_
    refine mw_goto cx (tgt := 43) dX6_isSign_39 (by decide) ?_
    exact mw_zret cx hr rfl rfl dX6_isSign_43
  · refine mw_iload_n cx (q := 7) 0 rfl rfl dX6_isSign_6 rfl ?_
    refine mw_bipush cx (q := 9) (v := 40) dX6_isSign_7 rfl rfl ?_
    refine mw_icmp_eq cx (tgt := 38) (q := 12) dX6_isSign_9 (by decide) rfl (fun h2 => ?_) (fun h2 => ?_)
    · refine mw_iconst cx (q := 39) (v := 1) dX6_isSign_38 rfl rfl ?_
      refine mw_goto cx (tgt := 43) dX6_isSign_39 (by decide) ?_
      exact mw_zret cx hr rfl rfl dX6_isSign_43
    · refine mw_iload_n cx (q := 13) 0 rfl rfl dX6_isSign_12 rfl ?_
      refine mw_bipush cx (q := 15) (v := 41) dX6_isSign_13 rfl rfl ?_
      refine mw_icmp_eq cx (tgt := 38) (q := 18) dX6_isSign_15 (by decide) rfl (fun h3 => ?_) (fun h3 => ?_)
      · refine mw_iconst cx (q := 39) (v := 1) dX6_isSign_38 rfl rfl ?_
        refine mw_goto cx (tgt := 43) dX6_isSign_39 (by decide) ?_
        exact mw_zret cx hr rfl rfl dX6_isSign_43
      · refine mw_iload_n cx (q := 19) 0 rfl rfl dX6_isSign_18 rfl ?_
        refine mw_bipush cx (q := 21) (v := 45) dX6_isSign_19 rfl rfl ?_
        refine mw_icmp_eq cx (tgt := 38) (q := 24) dX6_isSign_21 (by decide) rfl (fun h4 => ?_) (fun h4 => ?_)
        · refine mw_iconst cx (q := 39) (v := 1) dX6_isSign_38 rfl rfl ?_
          refine mw_goto cx (tgt := 43) dX6_isSign_39 (by decide) ?_
          exact mw_zret cx hr rfl rfl dX6_isSign_43
        · refine mw_iload_n cx (q := 25) 0 rfl rfl dX6_isSign_24 rfl ?_
          refine mw_bnd (fun r5 er5 => ?_)
          refine mw_callS cx (q := 28) (d := 1) (As := [.int p1]) (z := fzp M r5) (st := []) (st1 := [.int (b2i r5)]) (M' := M) (by rw [er5]; exact mc_X6_isDigit l D ta ad M p1) cv_X6_17 ⟨Nat.le_of_ble_eq_true rfl, Nat.le_of_ble_eq_true rfl⟩ ⟨Nat.le_refl _, Nat.le_refl _⟩ (by simp [Value.category]) rfl rfl rfl dX6_isSign_25 rfl ?_
          refine mw_ifb_ne cx (tgt := 38) (q := 31) dX6_isSign_28 (by decide) rfl (fun h6 => ?_) (fun h6 => ?_)
          · refine mw_iconst cx (q := 39) (v := 1) dX6_isSign_38 rfl rfl ?_
            refine mw_goto cx (tgt := 43) dX6_isSign_39 (by decide) ?_
            exact mw_zret cx hr rfl rfl dX6_isSign_43
          · refine mw_iload_n cx (q := 32) 0 rfl rfl dX6_isSign_31 rfl ?_
            refine mw_bnd (fun r7 er7 => ?_)
            refine mw_callS cx (q := 35) (d := 1) (As := [.int p1]) (z := fzp M r7) (st := []) (st1 := [.int (b2i r7)]) (M' := M) (by rw [er7]; exact mc_X6_isLetter l D ta ad M p1) cv_X6_21 ⟨Nat.le_of_ble_eq_true rfl, Nat.le_of_ble_eq_true rfl⟩ ⟨Nat.le_refl _, Nat.le_refl _⟩ (by simp [Value.category]) rfl rfl rfl dX6_isSign_32 rfl ?_
            refine mw_ifb_eq cx (tgt := 42) (q := 38) dX6_isSign_35 (by decide) rfl (fun h8 => ?_) (fun h8 => ?_)
            · refine mw_iconst cx (q := 43) (v := 0) dX6_isSign_42 rfl rfl ?_
              exact mw_zret cx hr rfl rfl dX6_isSign_43
            · refine mw_iconst cx (q := 39) (v := 1) dX6_isSign_38 rfl rfl ?_
              refine mw_goto cx (tgt := 43) dX6_isSign_39 (by decide) ?_
              exact mw_zret cx hr rfl rfl dX6_isSign_43
def f6_begin (M : Wm) (p1 : Int32) : Wm := bnd (f9_make (M 9) p1 3) (fun (r1 : Cm) => bnd (uW M 9 r1) (fun (M2 : Wm) => bnd (uW M2 6 (u3 (M2 6) 2 0 0 p1)) (fun (M3 : Wm) => bnd (uW M3 6 (u3 (M3 6) 0 0 2 0)) (fun (M4 : Wm) => bnd (uW M4 6 (u3 (M4 6) 0 0 3 0)) (fun (M5 : Wm) => M5)))))
set_option maxHeartbeats 4000000 in
set_option maxRecDepth 100000 in
theorem mc_X6_begin (l : Launch) (D : va_G) (ta : wTa) (ad : wAd) (M : Wm) (p1 : Int32) : MC l D ta ad yX6_begin cX6_begin 2 none 1 [.ref (ad 6 0 0), .int p1] M (fv (f6_begin M p1)) := by
  refine MC.of (fv) (f6_begin M p1) rfl (by decide) (Nat.le_of_ble_eq_true rfl) (fun p e s m args below meth c cx hr => ?_)
  unfold f6_begin
  refine mw_sub (lv' := [(0, .ref (ad 6 0 0)), (1, .int p1)]) [0, 1] rfl ?_
  refine mw_aload_n cx (q := 1) 0 rfl rfl dX6_begin_0 rfl ?_
  refine mw_get cx (q := 4) (v := .ref (ad 9 0 0)) gf_X6_13 rfl rfl vi_6_0 dX6_begin_1 rfl ?_
  refine mw_iload_n cx (q := 5) 1 rfl rfl dX6_begin_4 rfl ?_
  refine mw_iconst cx (q := 6) (v := 3) dX6_begin_5 rfl rfl ?_
  refine mw_bnd (fun r1 er1 => ?_)
  refine mw_callV cx (q := 9) (d := 0) (As := [.int p1, .int 3]) (z := fvc M 9 r1) (st := []) (st1 := []) (M' := uW M 9 r1) (by rw [er1]; exact mc_X9_make l D ta ad M p1 3) cv_X6_32 rfl rfl rfl vi_9_0 ⟨Nat.le_of_ble_eq_true rfl, Nat.le_of_ble_eq_true rfl⟩ ⟨Nat.le_refl _, Nat.le_refl _⟩ (by simp [Value.category]) rfl rfl rfl dX6_begin_6 rfl ?_
  refine mw_bndM (fun M2 eM2 => ?_)
  refine mw_aload_n cx (q := 10) 0 rfl rfl dX6_begin_9 rfl ?_
  refine mw_get cx (q := 13) (v := .ref (ad 6 2 0)) gf_X6_9 rfl rfl vi_6_0 dX6_begin_10 rfl ?_
  refine mw_iconst cx (q := 14) (v := 0) dX6_begin_13 rfl rfl ?_
  refine mw_iload_n cx (q := 15) 1 rfl rfl dX6_begin_14 rfl ?_
  refine mw_iastW cx (q := 16) (fun _ => rfl) (by decide) vi_6_2 (vin_lit (by decide)) (by decide) dX6_begin_15 rfl (fun M3 eM3 => ?_)
  refine mw_aload_n cx (q := 17) 0 rfl rfl dX6_begin_16 rfl ?_
  refine mw_iconst cx (q := 18) (v := 0) dX6_begin_17 rfl rfl ?_
  refine mw_putW cx (q := 21) 2 gf_X6_36 pf_X6_2 (int_fit _) rfl (Nat.le_of_ble_eq_true rfl) rfl vi_6_0 (by decide) dX6_begin_18 rfl (fun M4 eM4 => ?_)
  refine mw_aload_n cx (q := 22) 0 rfl rfl dX6_begin_21 rfl ?_
  refine mw_iconst cx (q := 23) (v := 0) dX6_begin_22 rfl rfl ?_
  refine mw_putW cx (q := 26) 3 gf_X6_40 pf_X6_3 (int_fit _) rfl (Nat.le_of_ble_eq_true rfl) rfl vi_6_0 (by decide) dX6_begin_23 rfl (fun M5 eM5 => ?_)
  exact mw_vret cx hr rfl dX6_begin_26
def f6_mayEnd (m : Cm) : Bool := if (m 0 0 2) = 0 then if (m 0 0 3) = 1 then false else true else false
set_option maxHeartbeats 4000000 in
set_option maxRecDepth 100000 in
theorem mc_X6_mayEnd (l : Launch) (D : va_G) (ta : wTa) (ad : wAd) (M : Wm) : MC l D ta ad yX6_mayEnd cX6_mayEnd 1 (some .boolean) 0 [.ref (ad 6 0 0)] M (fzp M (f6_mayEnd (M 6))) := by
  refine MC.of (fzp M) (f6_mayEnd (M 6)) rfl (by decide) (Nat.le_of_ble_eq_true rfl) (fun p e s m args below meth c cx hr => ?_)
  unfold f6_mayEnd
  refine mw_sub (lv' := [(0, .ref (ad 6 0 0))]) [0] rfl ?_
  refine mw_aload_n cx (q := 1) 0 rfl rfl dX6_mayEnd_0 rfl ?_
  refine mw_get cx (q := 4) (v := .int ((M 6) 0 0 2)) gf_X6_36 rfl rfl vi_6_0 dX6_mayEnd_1 rfl ?_
  refine mw_if_ne cx (tgt := 19) (q := 7) dX6_mayEnd_4 (by decide) rfl (fun h1 => ?_) (fun h1 => ?_)
  · refine mw_iconst cx (q := 20) (v := 0) dX6_mayEnd_19 rfl rfl ?_
    exact mw_zret cx hr rfl rfl dX6_mayEnd_20
  · refine mw_aload_n cx (q := 8) 0 rfl rfl dX6_mayEnd_7 rfl ?_
    refine mw_get cx (q := 11) (v := .int ((M 6) 0 0 3)) gf_X6_40 rfl rfl vi_6_0 dX6_mayEnd_8 rfl ?_
    refine mw_iconst cx (q := 12) (v := 1) dX6_mayEnd_11 rfl rfl ?_
    refine mw_icmp_eq cx (tgt := 19) (q := 15) dX6_mayEnd_12 (by decide) rfl (fun h2 => ?_) (fun h2 => ?_)
    · refine mw_iconst cx (q := 20) (v := 0) dX6_mayEnd_19 rfl rfl ?_
      exact mw_zret cx hr rfl rfl dX6_mayEnd_20
    · refine mw_iconst cx (q := 16) (v := 1) dX6_mayEnd_15 rfl rfl ?_
      refine mw_goto cx (tgt := 20) dX6_mayEnd_16 (by decide) ?_
      exact mw_zret cx hr rfl rfl dX6_mayEnd_20
def f6_growsWord (M : Wm) (p1 : Int32) (p2 : Int32) : (Bool × Wm) := if (M 6 0 0 5) < 6 then bnd (uW M 6 (u3 (M 6) 0 0 5 ((M 6 0 0 5) + 1))) (fun (M2 : Wm) => bnd (f9_contentOf (M2 9) (M 6 0 0 4)) (fun (r3 : Int32) => bnd (f9_setContent (M2 9) (M 6 0 0 4) ((r3 * p1) + p2)) (fun (r4 : Cm) => bnd (uW M2 9 r4) (fun (M5 : Wm) => (true, M5))))) else (false, M)
set_option maxHeartbeats 4000000 in
set_option maxRecDepth 100000 in
theorem mc_X6_growsWord (l : Launch) (D : va_G) (ta : wTa) (ad : wAd) (M : Wm) (p1 : Int32) (p2 : Int32) : MC l D ta ad yX6_growsWord cX6_growsWord 3 (some .boolean) 1 [.ref (ad 6 0 0), .int p1, .int p2] M (fz (f6_growsWord M p1 p2)) := by
  refine MC.of (fz) (f6_growsWord M p1 p2) rfl (by decide) (Nat.le_of_ble_eq_true rfl) (fun p e s m args below meth c cx hr => ?_)
  unfold f6_growsWord
  refine mw_sub (lv' := [(0, .ref (ad 6 0 0)), (1, .int p1), (2, .int p2)]) [0, 1, 2] rfl ?_
  refine mw_aload_n cx (q := 1) 0 rfl rfl dX6_growsWord_0 rfl ?_
  refine mw_get cx (q := 4) (v := .int (M 6 0 0 5)) gf_X6_82 rfl rfl vi_6_0 dX6_growsWord_1 rfl ?_
  refine mw_bipush cx (q := 6) (v := 6) dX6_growsWord_4 rfl rfl ?_
  refine mw_icmp_lt cx (tgt := 11) (q := 9) dX6_growsWord_6 (by decide) rfl (fun h1 => ?_) (fun h1 => ?_)
  · refine mw_aload_n cx (q := 12) 0 rfl rfl dX6_growsWord_11 rfl ?_
    refine mw_dup cx (q := 13) dX6_growsWord_12 rfl rfl ?_
    refine mw_get cx (q := 16) (v := .int (M 6 0 0 5)) gf_X6_82 rfl rfl vi_6_0 dX6_growsWord_13 rfl ?_
    refine mw_iconst cx (q := 17) (v := 1) dX6_growsWord_16 rfl rfl ?_
    refine mw_iadd cx (q := 18) dX6_growsWord_17 rfl ?_
    refine mw_putW cx (q := 21) 5 gf_X6_82 pf_X6_5 (int_fit _) rfl (Nat.le_of_ble_eq_true rfl) rfl vi_6_0 (by decide) dX6_growsWord_18 rfl (fun M2 eM2 => ?_)
    refine mw_aload_n cx (q := 22) 0 rfl rfl dX6_growsWord_21 rfl ?_
    refine mw_get cx (q := 25) (v := .ref (ad 9 0 0)) gf_X6_13 rfl rfl vi_6_0 dX6_growsWord_22 rfl ?_
    refine mw_aload_n cx (q := 26) 0 rfl rfl dX6_growsWord_25 rfl ?_
    refine mw_get cx (q := 29) (v := .int (M 6 0 0 4)) gf_X6_79 rfl (by rw [eM2]; rfl) vi_6_0 dX6_growsWord_26 rfl ?_
    refine mw_aload_n cx (q := 30) 0 rfl rfl dX6_growsWord_29 rfl ?_
    refine mw_get cx (q := 33) (v := .ref (ad 9 0 0)) gf_X6_13 rfl rfl vi_6_0 dX6_growsWord_30 rfl ?_
    refine mw_aload_n cx (q := 34) 0 rfl rfl dX6_growsWord_33 rfl ?_
    refine mw_get cx (q := 37) (v := .int (M 6 0 0 4)) gf_X6_79 rfl (by rw [eM2]; rfl) vi_6_0 dX6_growsWord_34 rfl ?_
    refine mw_bnd (fun r3 er3 => ?_)
    refine mw_callV cx (q := 40) (d := 0) (As := [.int (M 6 0 0 4)]) (z := fip M2 r3) (st := [.int (M 6 0 0 4), .ref (ad 9 0 0)]) (st1 := [.int r3, .int (M 6 0 0 4), .ref (ad 9 0 0)]) (M' := M2) (by rw [er3]; exact mc_X9_contentOf l D ta ad M2 (M 6 0 0 4)) cv_X6_85 rfl rfl rfl vi_9_0 ⟨Nat.le_of_ble_eq_true rfl, Nat.le_of_ble_eq_true rfl⟩ ⟨Nat.le_refl _, Nat.le_refl _⟩ (by simp [Value.category]) rfl rfl rfl dX6_growsWord_37 rfl ?_
    refine mw_iload_n cx (q := 41) 1 rfl rfl dX6_growsWord_40 rfl ?_
    refine mw_imul cx (q := 42) dX6_growsWord_41 rfl ?_
    refine mw_iload_n cx (q := 43) 2 rfl rfl dX6_growsWord_42 rfl ?_
    refine mw_iadd cx (q := 44) dX6_growsWord_43 rfl ?_
    refine mw_bnd (fun r4 er4 => ?_)
    refine mw_callV cx (q := 47) (d := 0) (As := [.int (M 6 0 0 4), .int ((r3 * p1) + p2)]) (z := fvc M2 9 r4) (st := []) (st1 := []) (M' := uW M2 9 r4) (by rw [er4]; exact mc_X9_setContent l D ta ad M2 (M 6 0 0 4) ((r3 * p1) + p2)) cv_X6_88 rfl rfl rfl vi_9_0 ⟨Nat.le_of_ble_eq_true rfl, Nat.le_of_ble_eq_true rfl⟩ ⟨Nat.le_refl _, Nat.le_refl _⟩ (by simp [Value.category]) rfl rfl rfl dX6_growsWord_44 rfl ?_
    refine mw_bndM (fun M5 eM5 => ?_)
    refine mw_iconst cx (q := 48) (v := 1) dX6_growsWord_47 rfl rfl ?_
    exact mw_zret cx hr rfl rfl dX6_growsWord_48
  · refine mw_iconst cx (q := 10) (v := 0) dX6_growsWord_9 rfl rfl ?_
    exact mw_zret cx hr rfl rfl dX6_growsWord_10
def f6_beginWord (M : Wm) (p1 : Int32) (p2 : Int32) : Wm := bnd (f9_make (M 9) p1 p2) (fun (r1 : Cm) => bnd (uW M 9 r1) (fun (M2 : Wm) => bnd (f9_hang (M2 9) (M 6 2 0 (M 6 0 0 2)) p1) (fun (r3 : Cm) => bnd (uW M2 9 r3) (fun (M4 : Wm) => bnd (uW M4 6 (u3 (M4 6) 0 0 4 p1)) (fun (M5 : Wm) => bnd (uW M5 6 (u3 (M5 6) 0 0 5 0)) (fun (M6 : Wm) => bnd (uW M6 6 (u3 (M6 6) 0 0 6 0)) (fun (M7 : Wm) => M7)))))))
set_option maxHeartbeats 4000000 in
set_option maxRecDepth 100000 in
theorem mc_X6_beginWord (l : Launch) (D : va_G) (ta : wTa) (ad : wAd) (M : Wm) (p1 : Int32) (p2 : Int32) (hd0 : 0 ≤ (M 6 0 0 2).toInt) (hd1 : (M 6 0 0 2).toInt ≤ 20) : MC l D ta ad yX6_beginWord cX6_beginWord 3 none 1 [.ref (ad 6 0 0), .int p1, .int p2] M (fv (f6_beginWord M p1 p2)) := by
  refine MC.of (fv) (f6_beginWord M p1 p2) rfl (by decide) (Nat.le_of_ble_eq_true rfl) (fun p e s m args below meth c cx hr => ?_)
  unfold f6_beginWord
  refine mw_sub (lv' := [(0, .ref (ad 6 0 0)), (1, .int p1), (2, .int p2)]) [0, 1, 2] rfl ?_
  refine mw_aload_n cx (q := 1) 0 rfl rfl dX6_beginWord_0 rfl ?_
  refine mw_get cx (q := 4) (v := .ref (ad 9 0 0)) gf_X6_13 rfl rfl vi_6_0 dX6_beginWord_1 rfl ?_
  refine mw_iload_n cx (q := 5) 1 rfl rfl dX6_beginWord_4 rfl ?_
  refine mw_iload_n cx (q := 6) 2 rfl rfl dX6_beginWord_5 rfl ?_
  refine mw_bnd (fun r1 er1 => ?_)
  refine mw_callV cx (q := 9) (d := 0) (As := [.int p1, .int p2]) (z := fvc M 9 r1) (st := []) (st1 := []) (M' := uW M 9 r1) (by rw [er1]; exact mc_X9_make l D ta ad M p1 p2) cv_X6_32 rfl rfl rfl vi_9_0 ⟨Nat.le_of_ble_eq_true rfl, Nat.le_of_ble_eq_true rfl⟩ ⟨Nat.le_refl _, Nat.le_refl _⟩ (by simp [Value.category]) rfl rfl rfl dX6_beginWord_6 rfl ?_
  refine mw_bndM (fun M2 eM2 => ?_)
  refine mw_aload_n cx (q := 10) 0 rfl rfl dX6_beginWord_9 rfl ?_
  refine mw_get cx (q := 13) (v := .ref (ad 9 0 0)) gf_X6_13 rfl rfl vi_6_0 dX6_beginWord_10 rfl ?_
  refine mw_aload_n cx (q := 14) 0 rfl rfl dX6_beginWord_13 rfl ?_
  refine mw_get cx (q := 17) (v := .ref (ad 6 2 0)) gf_X6_9 rfl rfl vi_6_0 dX6_beginWord_14 rfl ?_
  refine mw_aload_n cx (q := 18) 0 rfl rfl dX6_beginWord_17 rfl ?_
  refine mw_get cx (q := 21) (v := .int (M 6 0 0 2)) gf_X6_36 rfl (by rw [eM2]; rfl) vi_6_0 dX6_beginWord_18 rfl ?_
  refine mw_iald cx (q := 22) (w := (M 6 2 0 (M 6 0 0 2))) (by rw [eM2]; rfl) (fun _ => rfl) vi_6_2 (by simp only [vp_in_iff, i32lt, i32le, i32eq, i32add, i32sub, i32mul, i32neg, t32_0, t32_2, t32_6, t32_20, t32_21] at hd0 hd1 ⊢; omega) dX6_beginWord_21 rfl ?_
  refine mw_iload_n cx (q := 23) 1 rfl rfl dX6_beginWord_22 rfl ?_
  refine mw_bnd (fun r3 er3 => ?_)
  refine mw_callV cx (q := 26) (d := 0) (As := [.int (M 6 2 0 (M 6 0 0 2)), .int p1]) (z := fvc M2 9 r3) (st := []) (st1 := []) (M' := uW M2 9 r3) (by rw [er3]; exact mc_X9_hang l D ta ad M2 (M 6 2 0 (M 6 0 0 2)) p1) cv_X6_76 rfl rfl rfl vi_9_0 ⟨Nat.le_of_ble_eq_true rfl, Nat.le_of_ble_eq_true rfl⟩ ⟨Nat.le_refl _, Nat.le_refl _⟩ (by simp [Value.category]) rfl rfl rfl dX6_beginWord_23 rfl ?_
  refine mw_bndM (fun M4 eM4 => ?_)
  refine mw_aload_n cx (q := 27) 0 rfl rfl dX6_beginWord_26 rfl ?_
  refine mw_iload_n cx (q := 28) 1 rfl rfl dX6_beginWord_27 rfl ?_
  refine mw_putW cx (q := 31) 4 gf_X6_79 pf_X6_4 (int_fit _) rfl (Nat.le_of_ble_eq_true rfl) rfl vi_6_0 (by decide) dX6_beginWord_28 rfl (fun M5 eM5 => ?_)
  refine mw_aload_n cx (q := 32) 0 rfl rfl dX6_beginWord_31 rfl ?_
  refine mw_iconst cx (q := 33) (v := 0) dX6_beginWord_32 rfl rfl ?_
  refine mw_putW cx (q := 36) 5 gf_X6_82 pf_X6_5 (int_fit _) rfl (Nat.le_of_ble_eq_true rfl) rfl vi_6_0 (by decide) dX6_beginWord_33 rfl (fun M6 eM6 => ?_)
  refine mw_aload_n cx (q := 37) 0 rfl rfl dX6_beginWord_36 rfl ?_
  refine mw_iconst cx (q := 38) (v := 0) dX6_beginWord_37 rfl rfl ?_
  refine mw_putW cx (q := 41) 6 gf_X6_69 pf_X6_6 (by exact ⟨rfl, rfl⟩) rfl (Nat.le_of_ble_eq_true rfl) rfl vi_6_0 (by decide) dX6_beginWord_38 rfl (fun M7 eM7 => ?_)
  exact mw_vret cx hr rfl dX6_beginWord_41
def f6_opensList (M : Wm) (p1 : Int32) : (Bool × Wm) := if (M 6 0 0 2) < 20 then bnd (f9_make (M 9) p1 3) (fun (r2 : Cm) => bnd (uW M 9 r2) (fun (M3 : Wm) => bnd (f9_hang (M3 9) (M 6 2 0 (M 6 0 0 2)) p1) (fun (r4 : Cm) => bnd (uW M3 9 r4) (fun (M5 : Wm) => bnd (uW M5 6 (u3 (M5 6) 0 0 2 ((M 6 0 0 2) + 1))) (fun (M6 : Wm) => bnd (uW M6 6 (u3 (M6 6) 2 0 ((M 6 0 0 2) + 1) p1)) (fun (M7 : Wm) => (true, M7))))))) else (false, M)
set_option maxHeartbeats 4000000 in
set_option maxRecDepth 100000 in
theorem mc_X6_opensList (l : Launch) (D : va_G) (ta : wTa) (ad : wAd) (M : Wm) (p1 : Int32) (hd0 : 0 ≤ (M 6 0 0 2).toInt) (hd1 : (M 6 0 0 2).toInt ≤ 20) : MC l D ta ad yX6_opensList cX6_opensList 2 (some .boolean) 1 [.ref (ad 6 0 0), .int p1] M (fz (f6_opensList M p1)) := by
  refine MC.of (fz) (f6_opensList M p1) rfl (by decide) (Nat.le_of_ble_eq_true rfl) (fun p e s m args below meth c cx hr => ?_)
  unfold f6_opensList
  refine mw_sub (lv' := [(0, .ref (ad 6 0 0)), (1, .int p1)]) [0, 1] rfl ?_
  refine mw_aload_n cx (q := 1) 0 rfl rfl dX6_opensList_0 rfl ?_
  refine mw_get cx (q := 4) (v := .int (M 6 0 0 2)) gf_X6_36 rfl rfl vi_6_0 dX6_opensList_1 rfl ?_
  refine mw_bipush cx (q := 6) (v := 20) dX6_opensList_4 rfl rfl ?_
  refine mw_icmp_lt cx (tgt := 11) (q := 9) dX6_opensList_6 (by decide) rfl (fun h1 => ?_) (fun h1 => ?_)
  · refine mw_aload_n cx (q := 12) 0 rfl rfl dX6_opensList_11 rfl ?_
    refine mw_get cx (q := 15) (v := .ref (ad 9 0 0)) gf_X6_13 rfl rfl vi_6_0 dX6_opensList_12 rfl ?_
    refine mw_iload_n cx (q := 16) 1 rfl rfl dX6_opensList_15 rfl ?_
    refine mw_iconst cx (q := 17) (v := 3) dX6_opensList_16 rfl rfl ?_
    refine mw_bnd (fun r2 er2 => ?_)
    refine mw_callV cx (q := 20) (d := 0) (As := [.int p1, .int 3]) (z := fvc M 9 r2) (st := []) (st1 := []) (M' := uW M 9 r2) (by rw [er2]; exact mc_X9_make l D ta ad M p1 3) cv_X6_32 rfl rfl rfl vi_9_0 ⟨Nat.le_of_ble_eq_true rfl, Nat.le_of_ble_eq_true rfl⟩ ⟨Nat.le_refl _, Nat.le_refl _⟩ (by simp [Value.category]) rfl rfl rfl dX6_opensList_17 rfl ?_
    refine mw_bndM (fun M3 eM3 => ?_)
    refine mw_aload_n cx (q := 21) 0 rfl rfl dX6_opensList_20 rfl ?_
    refine mw_get cx (q := 24) (v := .ref (ad 9 0 0)) gf_X6_13 rfl rfl vi_6_0 dX6_opensList_21 rfl ?_
    refine mw_aload_n cx (q := 25) 0 rfl rfl dX6_opensList_24 rfl ?_
    refine mw_get cx (q := 28) (v := .ref (ad 6 2 0)) gf_X6_9 rfl rfl vi_6_0 dX6_opensList_25 rfl ?_
    refine mw_aload_n cx (q := 29) 0 rfl rfl dX6_opensList_28 rfl ?_
    refine mw_get cx (q := 32) (v := .int (M 6 0 0 2)) gf_X6_36 rfl (by rw [eM3]; rfl) vi_6_0 dX6_opensList_29 rfl ?_
    refine mw_iald cx (q := 33) (w := (M 6 2 0 (M 6 0 0 2))) (by rw [eM3]; rfl) (fun _ => rfl) vi_6_2 (by simp only [vp_in_iff, i32lt, i32le, i32eq, i32add, i32sub, i32mul, i32neg, t32_0, t32_2, t32_6, t32_20, t32_21] at hd0 hd1 h1 ⊢; omega) dX6_opensList_32 rfl ?_
    refine mw_iload_n cx (q := 34) 1 rfl rfl dX6_opensList_33 rfl ?_
    refine mw_bnd (fun r4 er4 => ?_)
    refine mw_callV cx (q := 37) (d := 0) (As := [.int (M 6 2 0 (M 6 0 0 2)), .int p1]) (z := fvc M3 9 r4) (st := []) (st1 := []) (M' := uW M3 9 r4) (by rw [er4]; exact mc_X9_hang l D ta ad M3 (M 6 2 0 (M 6 0 0 2)) p1) cv_X6_76 rfl rfl rfl vi_9_0 ⟨Nat.le_of_ble_eq_true rfl, Nat.le_of_ble_eq_true rfl⟩ ⟨Nat.le_refl _, Nat.le_refl _⟩ (by simp [Value.category]) rfl rfl rfl dX6_opensList_34 rfl ?_
    refine mw_bndM (fun M5 eM5 => ?_)
    refine mw_aload_n cx (q := 38) 0 rfl rfl dX6_opensList_37 rfl ?_
    refine mw_dup cx (q := 39) dX6_opensList_38 rfl rfl ?_
    refine mw_get cx (q := 42) (v := .int (M 6 0 0 2)) gf_X6_36 rfl (by rw [eM5, eM3]; rfl) vi_6_0 dX6_opensList_39 rfl ?_
    refine mw_iconst cx (q := 43) (v := 1) dX6_opensList_42 rfl rfl ?_
    refine mw_iadd cx (q := 44) dX6_opensList_43 rfl ?_
    refine mw_putW cx (q := 47) 2 gf_X6_36 pf_X6_2 (int_fit _) rfl (Nat.le_of_ble_eq_true rfl) rfl vi_6_0 (by decide) dX6_opensList_44 rfl (fun M6 eM6 => ?_)
    refine mw_aload_n cx (q := 48) 0 rfl rfl dX6_opensList_47 rfl ?_
    refine mw_get cx (q := 51) (v := .ref (ad 6 2 0)) gf_X6_9 rfl rfl vi_6_0 dX6_opensList_48 rfl ?_
    refine mw_aload_n cx (q := 52) 0 rfl rfl dX6_opensList_51 rfl ?_
    refine mw_get cx (q := 55) (v := .int ((M 6 0 0 2) + 1)) gf_X6_36 rfl (by rw [eM6]; rfl) vi_6_0 dX6_opensList_52 rfl ?_
    refine mw_iload_n cx (q := 56) 1 rfl rfl dX6_opensList_55 rfl ?_
    refine mw_iastW cx (q := 57) (fun _ => rfl) (by decide) vi_6_2 (by simp only [vp_in_iff, i32lt, i32le, i32eq, i32add, i32sub, i32mul, i32neg, t32_0, t32_1, t32_2, t32_6, t32_20, t32_21] at hd0 hd1 h1 ⊢; omega) (by decide) dX6_opensList_56 rfl (fun M7 eM7 => ?_)
    refine mw_iconst cx (q := 58) (v := 1) dX6_opensList_57 rfl rfl ?_
    exact mw_zret cx hr rfl rfl dX6_opensList_58
  · refine mw_iconst cx (q := 10) (v := 0) dX6_opensList_9 rfl rfl ?_
    exact mw_zret cx hr rfl rfl dX6_opensList_10
def f6_closesList (m : Cm) : (Bool × Cm) := if 0 < (m 0 0 2) then bnd (u3 m 0 0 2 ((m 0 0 2) - 1)) (fun (m2 : Cm) => (true, m2)) else (false, m)
set_option maxHeartbeats 4000000 in
set_option maxRecDepth 100000 in
theorem mc_X6_closesList (l : Launch) (D : va_G) (ta : wTa) (ad : wAd) (M : Wm) : MC l D ta ad yX6_closesList cX6_closesList 1 (some .boolean) 0 [.ref (ad 6 0 0)] M (fzc M 6 (f6_closesList (M 6))) := by
  refine MC.of (fzc M 6) (f6_closesList (M 6)) rfl (by decide) (Nat.le_of_ble_eq_true rfl) (fun p e s m args below meth c cx hr => ?_)
  unfold f6_closesList
  refine mw_sub (lv' := [(0, .ref (ad 6 0 0))]) [0] rfl ?_
  refine mw_eqM (uW_self M 6) ?_
  refine mw_aload_n cx (q := 1) 0 rfl rfl dX6_closesList_0 rfl ?_
  refine mw_get cx (q := 4) (v := .int ((M 6) 0 0 2)) gf_X6_36 rfl rfl vi_6_0 dX6_closesList_1 rfl ?_
  refine mw_if_gt cx (tgt := 9) (q := 7) dX6_closesList_4 (by decide) rfl (fun h1 => ?_) (fun h1 => ?_)
  · refine mw_aload_n cx (q := 10) 0 rfl rfl dX6_closesList_9 rfl ?_
    refine mw_dup cx (q := 11) dX6_closesList_10 rfl rfl ?_
    refine mw_get cx (q := 14) (v := .int ((M 6) 0 0 2)) gf_X6_36 rfl rfl vi_6_0 dX6_closesList_11 rfl ?_
    refine mw_iconst cx (q := 15) (v := 1) dX6_closesList_14 rfl rfl ?_
    refine mw_isub cx (q := 16) dX6_closesList_15 rfl ?_
    refine mw_putC cx (q := 19) 2 gf_X6_36 pf_X6_2 (int_fit _) rfl (Nat.le_of_ble_eq_true rfl) rfl vi_6_0 (by decide) dX6_closesList_16 rfl (fun m2 em2 => ?_)
    refine mw_iconst cx (q := 20) (v := 1) dX6_closesList_19 rfl rfl ?_
    exact mw_zret cx hr rfl rfl dX6_closesList_20
  · refine mw_iconst cx (q := 8) (v := 0) dX6_closesList_7 rfl rfl ?_
    exact mw_zret cx hr rfl rfl dX6_closesList_8
def f6_takesMinus (M : Wm) (p1 : Int32) : (Bool × Wm) := if (M 6 0 0 3) = 0 then bnd (f6_beginWord M p1 1) (fun (r2 : Wm) => bnd (uW r2 6 (u3 (r2 6) 0 0 6 1)) (fun (M3 : Wm) => bnd (uW M3 6 (u3 (M3 6) 0 0 3 1)) (fun (M4 : Wm) => (true, M4)))) else (false, M)
set_option maxHeartbeats 4000000 in
set_option maxRecDepth 100000 in
theorem mc_X6_takesMinus (l : Launch) (D : va_G) (ta : wTa) (ad : wAd) (M : Wm) (p1 : Int32) (hd0 : 0 ≤ (M 6 0 0 2).toInt) (hd1 : (M 6 0 0 2).toInt ≤ 20) : MC l D ta ad yX6_takesMinus cX6_takesMinus 2 (some .boolean) 2 [.ref (ad 6 0 0), .int p1] M (fz (f6_takesMinus M p1)) := by
  refine MC.of (fz) (f6_takesMinus M p1) rfl (by decide) (Nat.le_of_ble_eq_true rfl) (fun p e s m args below meth c cx hr => ?_)
  unfold f6_takesMinus
  refine mw_sub (lv' := [(0, .ref (ad 6 0 0)), (1, .int p1)]) [0, 1] rfl ?_
  refine mw_aload_n cx (q := 1) 0 rfl rfl dX6_takesMinus_0 rfl ?_
  refine mw_get cx (q := 4) (v := .int (M 6 0 0 3)) gf_X6_40 rfl rfl vi_6_0 dX6_takesMinus_1 rfl ?_
  refine mw_if_eq cx (tgt := 9) (q := 7) dX6_takesMinus_4 (by decide) rfl (fun h1 => ?_) (fun h1 => ?_)
  · refine mw_aload_n cx (q := 10) 0 rfl rfl dX6_takesMinus_9 rfl ?_
    refine mw_iload_n cx (q := 11) 1 rfl rfl dX6_takesMinus_10 rfl ?_
    refine mw_iconst cx (q := 12) (v := 1) dX6_takesMinus_11 rfl rfl ?_
    refine mw_bnd (fun r2 er2 => ?_)
    refine mw_callV cx (q := 15) (d := 1) (As := [.int p1, .int 1]) (z := fv r2) (st := []) (st1 := []) (M' := r2) (by rw [er2]; exact mc_X6_beginWord l D ta ad M p1 1 hd0 hd1) cv_X6_66 rfl rfl rfl vi_6_0 ⟨Nat.le_of_ble_eq_true rfl, Nat.le_of_ble_eq_true rfl⟩ ⟨Nat.le_refl _, Nat.le_refl _⟩ (by simp [Value.category]) rfl rfl rfl dX6_takesMinus_12 rfl ?_
    refine mw_aload_n cx (q := 16) 0 rfl rfl dX6_takesMinus_15 rfl ?_
    refine mw_iconst cx (q := 17) (v := 1) dX6_takesMinus_16 rfl rfl ?_
    refine mw_putW cx (q := 20) 6 gf_X6_69 pf_X6_6 (by exact ⟨rfl, rfl⟩) rfl (Nat.le_of_ble_eq_true rfl) rfl vi_6_0 (by decide) dX6_takesMinus_17 rfl (fun M3 eM3 => ?_)
    refine mw_aload_n cx (q := 21) 0 rfl rfl dX6_takesMinus_20 rfl ?_
    refine mw_iconst cx (q := 22) (v := 1) dX6_takesMinus_21 rfl rfl ?_
    refine mw_putW cx (q := 25) 3 gf_X6_40 pf_X6_3 (int_fit _) rfl (Nat.le_of_ble_eq_true rfl) rfl vi_6_0 (by decide) dX6_takesMinus_22 rfl (fun M4 eM4 => ?_)
    refine mw_iconst cx (q := 26) (v := 1) dX6_takesMinus_25 rfl rfl ?_
    exact mw_zret cx hr rfl rfl dX6_takesMinus_26
  · refine mw_iconst cx (q := 8) (v := 0) dX6_takesMinus_7 rfl rfl ?_
    exact mw_zret cx hr rfl rfl dX6_takesMinus_8
def f6_takesDigit (M : Wm) (p1 : Int32) (p2 : Int32) : (Bool × Wm) := if (M 6 0 0 3) = 3 then (false, M) else jn (fun (v2 : Wm) => bnd (uW v2 6 (u3 (v2 6) 0 0 3 2)) (fun (M6 : Wm) => jn (fun (v7 : Int32) => bnd (f6_growsWord M6 10 v7) (fun (r10 : Bool × Wm) => (r10.1, r10.2))) (fun K8 => if (v2 6 0 0 6) = 0 then K8 p2 else K8 (-p2)))) (fun K3 => if (M 6 0 0 3) = 0 then bnd (f6_beginWord M p1 1) (fun (r5 : Wm) => K3 r5) else K3 M)
set_option maxHeartbeats 4000000 in
set_option maxRecDepth 100000 in
theorem mc_X6_takesDigit (l : Launch) (D : va_G) (ta : wTa) (ad : wAd) (M : Wm) (p1 : Int32) (p2 : Int32) (hd0 : 0 ≤ (M 6 0 0 2).toInt) (hd1 : (M 6 0 0 2).toInt ≤ 20) : MC l D ta ad yX6_takesDigit cX6_takesDigit 3 (some .boolean) 2 [.ref (ad 6 0 0), .int p1, .int p2] M (fz (f6_takesDigit M p1 p2)) := by
  refine MC.of (fz) (f6_takesDigit M p1 p2) rfl (by decide) (Nat.le_of_ble_eq_true rfl) (fun p e s m args below meth c cx hr => ?_)
  unfold f6_takesDigit
  refine mw_sub (lv' := [(0, .ref (ad 6 0 0)), (1, .int p1), (2, .int p2)]) [0, 1, 2] rfl ?_
  refine mw_aload_n cx (q := 1) 0 rfl rfl dX6_takesDigit_0 rfl ?_
  refine mw_get cx (q := 4) (v := .int (M 6 0 0 3)) gf_X6_40 rfl rfl vi_6_0 dX6_takesDigit_1 rfl ?_
  refine mw_iconst cx (q := 5) (v := 3) dX6_takesDigit_4 rfl rfl ?_
  refine mw_icmp_ne cx (tgt := 10) (q := 8) dX6_takesDigit_5 (by decide) rfl (fun h1 => ?_) (fun h1 => ?_)
  · refine mw_aload_n cx (q := 11) 0 rfl rfl dX6_takesDigit_10 rfl ?_
    refine mw_get cx (q := 14) (v := .int (M 6 0 0 3)) gf_X6_40 rfl rfl vi_6_0 dX6_takesDigit_11 rfl ?_
    refine mw_jn (Mj := fun (v2 : Wm) => v2) (pj := 23) (lj := fun (v2 : Wm) => [(0, .ref (ad 6 0 0)), (2, .int p2)]) (sj := fun (v2 : Wm) => []) (fun v2 => ?_) (fun K3 hK3 => ?_)
    · refine mw_aload_n cx (q := 24) 0 rfl rfl dX6_takesDigit_23 rfl ?_
      refine mw_iconst cx (q := 25) (v := 2) dX6_takesDigit_24 rfl rfl ?_
      refine mw_putW cx (q := 28) 3 gf_X6_40 pf_X6_3 (int_fit _) rfl (Nat.le_of_ble_eq_true rfl) rfl vi_6_0 (by decide) dX6_takesDigit_25 rfl (fun M6 eM6 => ?_)
      refine mw_aload_n cx (q := 29) 0 rfl rfl dX6_takesDigit_28 rfl ?_
      refine mw_bipush cx (q := 31) (v := 10) dX6_takesDigit_29 rfl rfl ?_
      refine mw_aload_n cx (q := 32) 0 rfl rfl dX6_takesDigit_31 rfl ?_
      refine mw_get cx (q := 35) (v := .int (v2 6 0 0 6)) gf_X6_69 rfl (by rw [eM6]; rfl) vi_6_0 dX6_takesDigit_32 rfl ?_
      refine mw_jn (Mj := fun (v7 : Int32) => M6) (pj := 44) (lj := fun (v7 : Int32) => []) (sj := fun (v7 : Int32) => [.int v7, .int 10, .ref (ad 6 0 0)]) (fun v7 => ?_) (fun K8 hK8 => ?_)
      · refine mw_bnd (fun r10 er10 => ?_)
        refine mw_callV cx (q := 47) (d := 1) (As := [.int 10, .int v7]) (z := fz r10) (st := []) (st1 := [.int (b2i r10.1)]) (M' := r10.2) (by rw [er10]; exact mc_X6_growsWord l D ta ad M6 10 v7) cv_X6_73 rfl rfl rfl vi_6_0 ⟨Nat.le_of_ble_eq_true rfl, Nat.le_of_ble_eq_true rfl⟩ ⟨Nat.le_refl _, Nat.le_refl _⟩ (by simp [Value.category]) rfl rfl rfl dX6_takesDigit_44 rfl ?_
        exact mw_zret cx hr (b2i_nar _) rfl dX6_takesDigit_47
      · refine mw_if_eq cx (tgt := 43) (q := 38) dX6_takesDigit_35 (by decide) rfl (fun h9 => ?_) (fun h9 => ?_)
        · refine mw_iload_n cx (q := 44) 1 rfl rfl dX6_takesDigit_43 rfl ?_
          refine mw_sub [] rfl ?_
          exact hK8 p2
        · refine mw_iload_n cx (q := 39) 1 rfl rfl dX6_takesDigit_38 rfl ?_
          refine mw_ineg cx (q := 40) dX6_takesDigit_39 rfl ?_
          refine mw_goto cx (tgt := 44) dX6_takesDigit_40 (by decide) ?_
          refine mw_sub [] rfl ?_
          exact hK8 (-p2)
    · refine mw_if_ne cx (tgt := 23) (q := 17) dX6_takesDigit_14 (by decide) rfl (fun h4 => ?_) (fun h4 => ?_)
      · refine mw_sub [0, 2] rfl ?_
        exact hK3 M
      · refine mw_aload_n cx (q := 18) 0 rfl rfl dX6_takesDigit_17 rfl ?_
        refine mw_iload_n cx (q := 19) 1 rfl rfl dX6_takesDigit_18 rfl ?_
        refine mw_iconst cx (q := 20) (v := 1) dX6_takesDigit_19 rfl rfl ?_
        refine mw_bnd (fun r5 er5 => ?_)
        refine mw_callV cx (q := 23) (d := 1) (As := [.int p1, .int 1]) (z := fv r5) (st := []) (st1 := []) (M' := r5) (by rw [er5]; exact mc_X6_beginWord l D ta ad M p1 1 hd0 hd1) cv_X6_66 rfl rfl rfl vi_6_0 ⟨Nat.le_of_ble_eq_true rfl, Nat.le_of_ble_eq_true rfl⟩ ⟨Nat.le_refl _, Nat.le_refl _⟩ (by simp [Value.category]) rfl rfl rfl dX6_takesDigit_20 rfl ?_
        refine mw_sub [0, 2] rfl ?_
        exact hK3 r5
  · refine mw_iconst cx (q := 9) (v := 0) dX6_takesDigit_8 rfl rfl ?_
    exact mw_zret cx hr rfl rfl dX6_takesDigit_9
def f6_takesLetter (M : Wm) (p1 : Int32) (p2 : Int32) : (Bool × Wm) := if (M 6 0 0 3) = 1 then (false, M) else if (M 6 0 0 3) = 2 then (false, M) else jn (fun (v3 : Wm) => bnd (uW v3 6 (u3 (v3 6) 0 0 3 3)) (fun (M7 : Wm) => bnd (f6_growsWord M7 27 p2) (fun (r8 : Bool × Wm) => (r8.1, r8.2)))) (fun K4 => if (M 6 0 0 3) = 0 then bnd (f6_beginWord M p1 2) (fun (r6 : Wm) => K4 r6) else K4 M)
set_option maxHeartbeats 4000000 in
set_option maxRecDepth 100000 in
theorem mc_X6_takesLetter (l : Launch) (D : va_G) (ta : wTa) (ad : wAd) (M : Wm) (p1 : Int32) (p2 : Int32) (hd0 : 0 ≤ (M 6 0 0 2).toInt) (hd1 : (M 6 0 0 2).toInt ≤ 20) : MC l D ta ad yX6_takesLetter cX6_takesLetter 3 (some .boolean) 2 [.ref (ad 6 0 0), .int p1, .int p2] M (fz (f6_takesLetter M p1 p2)) := by
  refine MC.of (fz) (f6_takesLetter M p1 p2) rfl (by decide) (Nat.le_of_ble_eq_true rfl) (fun p e s m args below meth c cx hr => ?_)
  unfold f6_takesLetter
  refine mw_sub (lv' := [(0, .ref (ad 6 0 0)), (1, .int p1), (2, .int p2)]) [0, 1, 2] rfl ?_
  refine mw_aload_n cx (q := 1) 0 rfl rfl dX6_takesLetter_0 rfl ?_
  refine mw_get cx (q := 4) (v := .int (M 6 0 0 3)) gf_X6_40 rfl rfl vi_6_0 dX6_takesLetter_1 rfl ?_
  refine mw_iconst cx (q := 5) (v := 1) dX6_takesLetter_4 rfl rfl ?_
  refine mw_icmp_eq cx (tgt := 16) (q := 8) dX6_takesLetter_5 (by decide) rfl (fun h1 => ?_) (fun h1 => ?_)
  · refine mw_iconst cx (q := 17) (v := 0) dX6_takesLetter_16 rfl rfl ?_
    exact mw_zret cx hr rfl rfl dX6_takesLetter_17
  · refine mw_aload_n cx (q := 9) 0 rfl rfl dX6_takesLetter_8 rfl ?_
    refine mw_get cx (q := 12) (v := .int (M 6 0 0 3)) gf_X6_40 rfl rfl vi_6_0 dX6_takesLetter_9 rfl ?_
    refine mw_iconst cx (q := 13) (v := 2) dX6_takesLetter_12 rfl rfl ?_
    refine mw_icmp_ne cx (tgt := 18) (q := 16) dX6_takesLetter_13 (by decide) rfl (fun h2 => ?_) (fun h2 => ?_)
    · refine mw_aload_n cx (q := 19) 0 rfl rfl dX6_takesLetter_18 rfl ?_
      refine mw_get cx (q := 22) (v := .int (M 6 0 0 3)) gf_X6_40 rfl rfl vi_6_0 dX6_takesLetter_19 rfl ?_
      refine mw_jn (Mj := fun (v3 : Wm) => v3) (pj := 31) (lj := fun (v3 : Wm) => [(0, .ref (ad 6 0 0)), (2, .int p2)]) (sj := fun (v3 : Wm) => []) (fun v3 => ?_) (fun K4 hK4 => ?_)
      · refine mw_aload_n cx (q := 32) 0 rfl rfl dX6_takesLetter_31 rfl ?_
        refine mw_iconst cx (q := 33) (v := 3) dX6_takesLetter_32 rfl rfl ?_
        refine mw_putW cx (q := 36) 3 gf_X6_40 pf_X6_3 (int_fit _) rfl (Nat.le_of_ble_eq_true rfl) rfl vi_6_0 (by decide) dX6_takesLetter_33 rfl (fun M7 eM7 => ?_)
        refine mw_aload_n cx (q := 37) 0 rfl rfl dX6_takesLetter_36 rfl ?_
        refine mw_bipush cx (q := 39) (v := 27) dX6_takesLetter_37 rfl rfl ?_
        refine mw_iload_n cx (q := 40) 1 rfl rfl dX6_takesLetter_39 rfl ?_
        refine mw_bnd (fun r8 er8 => ?_)
        refine mw_callV cx (q := 43) (d := 1) (As := [.int 27, .int p2]) (z := fz r8) (st := []) (st1 := [.int (b2i r8.1)]) (M' := r8.2) (by rw [er8]; exact mc_X6_growsWord l D ta ad M7 27 p2) cv_X6_73 rfl rfl rfl vi_6_0 ⟨Nat.le_of_ble_eq_true rfl, Nat.le_of_ble_eq_true rfl⟩ ⟨Nat.le_refl _, Nat.le_refl _⟩ (by simp [Value.category]) rfl rfl rfl dX6_takesLetter_40 rfl ?_
        exact mw_zret cx hr (b2i_nar _) rfl dX6_takesLetter_43
      · refine mw_if_ne cx (tgt := 31) (q := 25) dX6_takesLetter_22 (by decide) rfl (fun h5 => ?_) (fun h5 => ?_)
        · refine mw_sub [0, 2] rfl ?_
          exact hK4 M
        · refine mw_aload_n cx (q := 26) 0 rfl rfl dX6_takesLetter_25 rfl ?_
          refine mw_iload_n cx (q := 27) 1 rfl rfl dX6_takesLetter_26 rfl ?_
          refine mw_iconst cx (q := 28) (v := 2) dX6_takesLetter_27 rfl rfl ?_
          refine mw_bnd (fun r6 er6 => ?_)
          refine mw_callV cx (q := 31) (d := 1) (As := [.int p1, .int 2]) (z := fv r6) (st := []) (st1 := []) (M' := r6) (by rw [er6]; exact mc_X6_beginWord l D ta ad M p1 2 hd0 hd1) cv_X6_66 rfl rfl rfl vi_6_0 ⟨Nat.le_of_ble_eq_true rfl, Nat.le_of_ble_eq_true rfl⟩ ⟨Nat.le_refl _, Nat.le_refl _⟩ (by simp [Value.category]) rfl rfl rfl dX6_takesLetter_28 rfl ?_
          refine mw_sub [0, 2] rfl ?_
          exact hK4 r6
    · refine mw_iconst cx (q := 17) (v := 0) dX6_takesLetter_16 rfl rfl ?_
      exact mw_zret cx hr rfl rfl dX6_takesLetter_17
def f6_takesSign (M : Wm) (p1 : Int32) (p2 : Int32) : (Bool × Wm) := bnd (f6_isDigit p2) (fun (r1 : Bool) => if r1 = true then bnd (f6_takesDigit M p1 (p2 - 48)) (fun (r17 : Bool × Wm) => (r17.1, r17.2)) else bnd (f6_isLetter p2) (fun (r3 : Bool) => if r3 = true then bnd (f10_digitOf p2) (fun (r15 : Int32) => bnd (f6_takesLetter M p1 r15) (fun (r16 : Bool × Wm) => (r16.1, r16.2))) else if p2 = 45 then bnd (f6_takesMinus M p1) (fun (r14 : Bool × Wm) => (r14.1, r14.2)) else if (M 6 0 0 3) = 1 then (false, M) else bnd (uW M 6 (u3 (M 6) 0 0 3 0)) (fun (M7 : Wm) => if p2 = 40 then bnd (f6_opensList M7 p1) (fun (r13 : Bool × Wm) => (r13.1, r13.2)) else if p2 = 32 then (true, M7) else bnd (f6_closesList (M7 6)) (fun (r10 : Bool × Cm) => bnd (uW M7 6 r10.2) (fun (M11 : Wm) => if r10.1 = true then (true, M11) else (false, M11))))))
set_option maxHeartbeats 4000000 in
set_option maxRecDepth 100000 in
theorem mc_X6_takesSign (l : Launch) (D : va_G) (ta : wTa) (ad : wAd) (M : Wm) (p1 : Int32) (p2 : Int32) (hd0 : 0 ≤ (M 6 0 0 2).toInt) (hd1 : (M 6 0 0 2).toInt ≤ 20) : MC l D ta ad yX6_takesSign cX6_takesSign 3 (some .boolean) 3 [.ref (ad 6 0 0), .int p1, .int p2] M (fz (f6_takesSign M p1 p2)) := by
  refine MC.of (fz) (f6_takesSign M p1 p2) rfl (by decide) (Nat.le_of_ble_eq_true rfl) (fun p e s m args below meth c cx hr => ?_)
  unfold f6_takesSign
  refine mw_sub (lv' := [(0, .ref (ad 6 0 0)), (1, .int p1), (2, .int p2)]) [0, 1, 2] rfl ?_
  refine mw_iload_n cx (q := 1) 2 rfl rfl dX6_takesSign_0 rfl ?_
  refine mw_bnd (fun r1 er1 => ?_)
  refine mw_callS cx (q := 4) (d := 1) (As := [.int p2]) (z := fzp M r1) (st := []) (st1 := [.int (b2i r1)]) (M' := M) (by rw [er1]; exact mc_X6_isDigit l D ta ad M p2) cv_X6_17 ⟨Nat.le_of_ble_eq_true rfl, Nat.le_of_ble_eq_true rfl⟩ ⟨Nat.le_refl _, Nat.le_refl _⟩ (by simp [Value.category]) rfl rfl rfl dX6_takesSign_1 rfl ?_
  refine mw_ifb_eq cx (tgt := 17) (q := 7) dX6_takesSign_4 (by decide) rfl (fun h2 => ?_) (fun h2 => ?_)
  · refine mw_iload_n cx (q := 18) 2 rfl rfl dX6_takesSign_17 rfl ?_
    refine mw_bnd (fun r3 er3 => ?_)
    refine mw_callS cx (q := 21) (d := 1) (As := [.int p2]) (z := fzp M r3) (st := []) (st1 := [.int (b2i r3)]) (M' := M) (by rw [er3]; exact mc_X6_isLetter l D ta ad M p2) cv_X6_21 ⟨Nat.le_of_ble_eq_true rfl, Nat.le_of_ble_eq_true rfl⟩ ⟨Nat.le_refl _, Nat.le_refl _⟩ (by simp [Value.category]) rfl rfl rfl dX6_takesSign_18 rfl ?_
    refine mw_ifb_eq cx (tgt := 34) (q := 24) dX6_takesSign_21 (by decide) rfl (fun h4 => ?_) (fun h4 => ?_)
    · refine mw_iload_n cx (q := 35) 2 rfl rfl dX6_takesSign_34 rfl ?_
      refine mw_bipush cx (q := 37) (v := 45) dX6_takesSign_35 rfl rfl ?_
      refine mw_icmp_ne cx (tgt := 46) (q := 40) dX6_takesSign_37 (by decide) rfl (fun h5 => ?_) (fun h5 => ?_)
      · refine mw_aload_n cx (q := 47) 0 rfl rfl dX6_takesSign_46 rfl ?_
        refine mw_get cx (q := 50) (v := .int (M 6 0 0 3)) gf_X6_40 rfl rfl vi_6_0 dX6_takesSign_47 rfl ?_
        refine mw_iconst cx (q := 51) (v := 1) dX6_takesSign_50 rfl rfl ?_
        refine mw_icmp_ne cx (tgt := 56) (q := 54) dX6_takesSign_51 (by decide) rfl (fun h6 => ?_) (fun h6 => ?_)
        · refine mw_aload_n cx (q := 57) 0 rfl rfl dX6_takesSign_56 rfl ?_
          refine mw_iconst cx (q := 58) (v := 0) dX6_takesSign_57 rfl rfl ?_
          refine mw_putW cx (q := 61) 3 gf_X6_40 pf_X6_3 (int_fit _) rfl (Nat.le_of_ble_eq_true rfl) rfl vi_6_0 (by decide) dX6_takesSign_58 rfl (fun M7 eM7 => ?_)
          refine mw_iload_n cx (q := 62) 2 rfl rfl dX6_takesSign_61 rfl ?_
          refine mw_bipush cx (q := 64) (v := 40) dX6_takesSign_62 rfl rfl ?_
          refine mw_icmp_ne cx (tgt := 73) (q := 67) dX6_takesSign_64 (by decide) rfl (fun h8 => ?_) (fun h8 => ?_)
          · refine mw_iload_n cx (q := 74) 2 rfl rfl dX6_takesSign_73 rfl ?_
            refine mw_bipush cx (q := 76) (v := 32) dX6_takesSign_74 rfl rfl ?_
            refine mw_icmp_eq cx (tgt := 86) (q := 79) dX6_takesSign_76 (by decide) rfl (fun h9 => ?_) (fun h9 => ?_)
            · refine mw_iconst cx (q := 87) (v := 1) dX6_takesSign_86 rfl rfl ?_
              refine mw_goto cx (tgt := 91) dX6_takesSign_87 (by decide) ?_
              exact mw_zret cx hr rfl rfl dX6_takesSign_91
            · refine mw_aload_n cx (q := 80) 0 rfl rfl dX6_takesSign_79 rfl ?_
              refine mw_bnd (fun r10 er10 => ?_)
              refine mw_callV cx (q := 83) (d := 0) (As := []) (z := fzc M7 6 r10) (st := []) (st1 := [.int (b2i r10.1)]) (M' := uW M7 6 r10.2) (by rw [er10]; exact mc_X6_closesList l D ta ad M7) cv_X6_62 rfl rfl rfl vi_6_0 ⟨Nat.le_of_ble_eq_true rfl, Nat.le_of_ble_eq_true rfl⟩ ⟨Nat.le_refl _, Nat.le_refl _⟩ (by simp [Value.category]) rfl rfl rfl dX6_takesSign_80 rfl ?_
              refine mw_bndM (fun M11 eM11 => ?_)
              refine mw_ifb_eq cx (tgt := 90) (q := 86) dX6_takesSign_83 (by decide) rfl (fun h12 => ?_) (fun h12 => ?_)
              · refine mw_iconst cx (q := 91) (v := 0) dX6_takesSign_90 rfl rfl ?_
                exact mw_zret cx hr rfl rfl dX6_takesSign_91
              · refine mw_iconst cx (q := 87) (v := 1) dX6_takesSign_86 rfl rfl ?_
                refine mw_goto cx (tgt := 91) dX6_takesSign_87 (by decide) ?_
                exact mw_zret cx hr rfl rfl dX6_takesSign_91
          · refine mw_aload_n cx (q := 68) 0 rfl rfl dX6_takesSign_67 rfl ?_
            refine mw_iload_n cx (q := 69) 1 rfl rfl dX6_takesSign_68 rfl ?_
            refine mw_bnd (fun r13 er13 => ?_)
            refine mw_callV cx (q := 72) (d := 1) (As := [.int p1]) (z := fz r13) (st := []) (st1 := [.int (b2i r13.1)]) (M' := r13.2) (by rw [er13]; exact mc_X6_opensList l D ta ad M7 p1 (by rw [eM7]; exact hd0) (by rw [eM7]; exact hd1)) cv_X6_59 rfl rfl rfl vi_6_0 ⟨Nat.le_of_ble_eq_true rfl, Nat.le_of_ble_eq_true rfl⟩ ⟨Nat.le_refl _, Nat.le_refl _⟩ (by simp [Value.category]) rfl rfl rfl dX6_takesSign_69 rfl ?_
            exact mw_zret cx hr (b2i_nar _) rfl dX6_takesSign_72
        · refine mw_iconst cx (q := 55) (v := 0) dX6_takesSign_54 rfl rfl ?_
          exact mw_zret cx hr rfl rfl dX6_takesSign_55
      · refine mw_aload_n cx (q := 41) 0 rfl rfl dX6_takesSign_40 rfl ?_
        refine mw_iload_n cx (q := 42) 1 rfl rfl dX6_takesSign_41 rfl ?_
        refine mw_bnd (fun r14 er14 => ?_)
        refine mw_callV cx (q := 45) (d := 2) (As := [.int p1]) (z := fz r14) (st := []) (st1 := [.int (b2i r14.1)]) (M' := r14.2) (by rw [er14]; exact mc_X6_takesMinus l D ta ad M p1 hd0 hd1) cv_X6_56 rfl rfl rfl vi_6_0 ⟨Nat.le_of_ble_eq_true rfl, Nat.le_of_ble_eq_true rfl⟩ ⟨Nat.le_refl _, Nat.le_refl _⟩ (by simp [Value.category]) rfl rfl rfl dX6_takesSign_42 rfl ?_
        exact mw_zret cx hr (b2i_nar _) rfl dX6_takesSign_45
    · refine mw_aload_n cx (q := 25) 0 rfl rfl dX6_takesSign_24 rfl ?_
      refine mw_iload_n cx (q := 26) 1 rfl rfl dX6_takesSign_25 rfl ?_
      refine mw_iload_n cx (q := 27) 2 rfl rfl dX6_takesSign_26 rfl ?_
      refine mw_bnd (fun r15 er15 => ?_)
      refine mw_callS cx (q := 30) (d := 0) (As := [.int p2]) (z := fip M r15) (st := [.int p1, .ref (ad 6 0 0)]) (st1 := [.int r15, .int p1, .ref (ad 6 0 0)]) (M' := M) (by rw [er15]; exact mc_X10_digitOf l D ta ad M p2) cv_X6_47 ⟨Nat.le_of_ble_eq_true rfl, Nat.le_of_ble_eq_true rfl⟩ ⟨Nat.le_refl _, Nat.le_refl _⟩ (by simp [Value.category]) rfl rfl rfl dX6_takesSign_27 rfl ?_
      refine mw_bnd (fun r16 er16 => ?_)
      refine mw_callV cx (q := 33) (d := 2) (As := [.int p1, .int r15]) (z := fz r16) (st := []) (st1 := [.int (b2i r16.1)]) (M' := r16.2) (by rw [er16]; exact mc_X6_takesLetter l D ta ad M p1 r15 hd0 hd1) cv_X6_53 rfl rfl rfl vi_6_0 ⟨Nat.le_of_ble_eq_true rfl, Nat.le_of_ble_eq_true rfl⟩ ⟨Nat.le_refl _, Nat.le_refl _⟩ (by simp [Value.category]) rfl rfl rfl dX6_takesSign_30 rfl ?_
      exact mw_zret cx hr (b2i_nar _) rfl dX6_takesSign_33
  · refine mw_aload_n cx (q := 8) 0 rfl rfl dX6_takesSign_7 rfl ?_
    refine mw_iload_n cx (q := 9) 1 rfl rfl dX6_takesSign_8 rfl ?_
    refine mw_iload_n cx (q := 10) 2 rfl rfl dX6_takesSign_9 rfl ?_
    refine mw_bipush cx (q := 12) (v := 48) dX6_takesSign_10 rfl rfl ?_
    refine mw_isub cx (q := 13) dX6_takesSign_12 rfl ?_
    refine mw_bnd (fun r17 er17 => ?_)
    refine mw_callV cx (q := 16) (d := 2) (As := [.int p1, .int (p2 - 48)]) (z := fz r17) (st := []) (st1 := [.int (b2i r17.1)]) (M' := r17.2) (by rw [er17]; exact mc_X6_takesDigit l D ta ad M p1 (p2 - 48) hd0 hd1) cv_X6_43 rfl rfl rfl vi_6_0 ⟨Nat.le_of_ble_eq_true rfl, Nat.le_of_ble_eq_true rfl⟩ ⟨Nat.le_refl _, Nat.le_refl _⟩ (by simp [Value.category]) rfl rfl rfl dX6_takesSign_13 rfl ?_
    exact mw_zret cx hr (b2i_nar _) rfl dX6_takesSign_16
