def f9_placeOf (p1 : Int32) (p2 : Int32) : Int32 := ((p1 * 121) + p2)
set_option maxHeartbeats 4000000 in
set_option maxRecDepth 100000 in
theorem mc_X9_placeOf (l : Launch) (D : va_G) (ta : wTa) (ad : wAd) (M : Wm) (p1 : Int32) (p2 : Int32) : MC l D ta ad yX9_placeOf cX9_placeOf 2 (some .int) 0 [.int p1, .int p2] M (fip M (f9_placeOf p1 p2)) := by
  refine MC.of (fip M) (f9_placeOf p1 p2) rfl (by decide) (Nat.le_of_ble_eq_true rfl) (fun p e s m args below meth c cx hr => ?_)
  unfold f9_placeOf
  refine mw_sub (lv' := [(0, .int p1), (1, .int p2)]) [0, 1] rfl ?_
  refine mw_iload_n cx (q := 1) 0 rfl rfl dX9_placeOf_0 rfl ?_
  refine mw_bipush cx (q := 3) (v := 121) dX9_placeOf_1 rfl rfl ?_
  refine mw_imul cx (q := 4) dX9_placeOf_3 rfl ?_
  refine mw_iload_n cx (q := 5) 1 rfl rfl dX9_placeOf_4 rfl ?_
  refine mw_iadd cx (q := 6) dX9_placeOf_5 rfl ?_
  exact mw_iret cx hr rfl dX9_placeOf_6
def f9_rowOf (p1 : Int32) : Int32 := bnd (f9_placeOf p1 120) (fun (r1 : Int32) => r1)
set_option maxHeartbeats 4000000 in
set_option maxRecDepth 100000 in
theorem mc_X9_rowOf (l : Launch) (D : va_G) (ta : wTa) (ad : wAd) (M : Wm) (p1 : Int32) : MC l D ta ad yX9_rowOf cX9_rowOf 1 (some .int) 1 [.int p1] M (fip M (f9_rowOf p1)) := by
  refine MC.of (fip M) (f9_rowOf p1) rfl (by decide) (Nat.le_of_ble_eq_true rfl) (fun p e s m args below meth c cx hr => ?_)
  unfold f9_rowOf
  refine mw_sub (lv' := [(0, .int p1)]) [0] rfl ?_
  refine mw_iload_n cx (q := 1) 0 rfl rfl dX9_rowOf_0 rfl ?_
  refine mw_bipush cx (q := 3) (v := 120) dX9_rowOf_1 rfl rfl ?_
  refine mw_bnd (fun r1 er1 => ?_)
  refine mw_callS cx (q := 6) (d := 0) (As := [.int p1, .int 120]) (z := fip M r1) (st := []) (st1 := [.int r1]) (M' := M) (by rw [er1]; exact mc_X9_placeOf l D ta ad M p1 120) cv_X9_30 ⟨Nat.le_of_ble_eq_true rfl, Nat.le_of_ble_eq_true rfl⟩ ⟨Nat.le_refl _, Nat.le_refl _⟩ (by simp [Value.category]) rfl rfl rfl dX9_rowOf_3 rfl ?_
  exact mw_iret cx hr rfl dX9_rowOf_6
def f9_make (m : Cm) (p1 : Int32) (p2 : Int32) : Cm := if p1 < 0 then m else if 968 ≤ p1 then m else bnd (u3 m 1 0 p1 p2) (fun (m3 : Cm) => bnd (u3 m3 2 0 p1 0) (fun (m4 : Cm) => bnd (u3 m4 3 0 p1 0) (fun (m5 : Cm) => bnd (u3 m5 4 0 p1 (-1)) (fun (m6 : Cm) => bnd (u3 m6 5 0 p1 (-1)) (fun (m7 : Cm) => bnd (u3 m7 6 0 p1 (-1)) (fun (m8 : Cm) => m8))))))
set_option maxHeartbeats 4000000 in
set_option maxRecDepth 100000 in
theorem mc_X9_make (l : Launch) (D : va_G) (ta : wTa) (ad : wAd) (M : Wm) (p1 : Int32) (p2 : Int32) : MC l D ta ad yX9_make cX9_make 3 none 0 [.ref (ad 9 0 0), .int p1, .int p2] M (fvc M 9 (f9_make (M 9) p1 p2)) := by
  refine MC.of (fvc M 9) (f9_make (M 9) p1 p2) rfl (by decide) (Nat.le_of_ble_eq_true rfl) (fun p e s m args below meth c cx hr => ?_)
  unfold f9_make
  refine mw_sub (lv' := [(0, .ref (ad 9 0 0)), (1, .int p1), (2, .int p2)]) [0, 1, 2] rfl ?_
  refine mw_eqM (uW_self M 9) ?_
  refine mw_iload_n cx (q := 1) 1 rfl rfl dX9_make_0 rfl ?_
  refine mw_if_lt cx (tgt := 53) (q := 4) dX9_make_1 (by decide) rfl (fun h1 => ?_) (fun h1 => ?_)
  · exact mw_vret cx hr rfl dX9_make_53
  · refine mw_iload_n cx (q := 5) 1 rfl rfl dX9_make_4 rfl ?_
    refine mw_sipush cx (q := 8) (v := 968) dX9_make_5 rfl rfl ?_
    refine mw_icmp_ge cx (tgt := 53) (q := 11) dX9_make_8 (by decide) rfl (fun h2 => ?_) (fun h2 => ?_)
    · exact mw_vret cx hr rfl dX9_make_53
    · refine mw_aload_n cx (q := 12) 0 rfl rfl dX9_make_11 rfl ?_
      refine mw_get cx (q := 15) (v := .ref (ad 9 1 0)) gf_X9_11 rfl rfl vi_9_0 dX9_make_12 rfl ?_
      refine mw_iload_n cx (q := 16) 1 rfl rfl dX9_make_15 rfl ?_
      refine mw_iload_n cx (q := 17) 2 rfl rfl dX9_make_16 rfl ?_
      refine mw_iastC cx (q := 18) (fun _ => rfl) (by decide) vi_9_1 (by simp only [vp_in_iff, i32lt, i32le, i32eq, i32add, i32sub, i32mul, i32neg, t32_0, t32_968] at h1 h2 ⊢; omega) (by decide) dX9_make_17 rfl (fun m3 em3 => ?_)
      refine mw_aload_n cx (q := 19) 0 rfl rfl dX9_make_18 rfl ?_
      refine mw_get cx (q := 22) (v := .ref (ad 9 2 0)) gf_X9_15 rfl rfl vi_9_0 dX9_make_19 rfl ?_
      refine mw_iload_n cx (q := 23) 1 rfl rfl dX9_make_22 rfl ?_
      refine mw_iconst cx (q := 24) (v := 0) dX9_make_23 rfl rfl ?_
      refine mw_iastC cx (q := 25) (fun _ => rfl) (by decide) vi_9_2 (by simp only [vp_in_iff, i32lt, i32le, i32eq, i32add, i32sub, i32mul, i32neg, t32_0, t32_968] at h1 h2 ⊢; omega) (by decide) dX9_make_24 rfl (fun m4 em4 => ?_)
      refine mw_aload_n cx (q := 26) 0 rfl rfl dX9_make_25 rfl ?_
      refine mw_get cx (q := 29) (v := .ref (ad 9 3 0)) gf_X9_18 rfl rfl vi_9_0 dX9_make_26 rfl ?_
      refine mw_iload_n cx (q := 30) 1 rfl rfl dX9_make_29 rfl ?_
      refine mw_iconst cx (q := 31) (v := 0) dX9_make_30 rfl rfl ?_
      refine mw_iastC cx (q := 32) (fun _ => rfl) (by decide) vi_9_3 (by simp only [vp_in_iff, i32lt, i32le, i32eq, i32add, i32sub, i32mul, i32neg, t32_0, t32_968] at h1 h2 ⊢; omega) (by decide) dX9_make_31 rfl (fun m5 em5 => ?_)
      refine mw_aload_n cx (q := 33) 0 rfl rfl dX9_make_32 rfl ?_
      refine mw_get cx (q := 36) (v := .ref (ad 9 4 0)) gf_X9_21 rfl rfl vi_9_0 dX9_make_33 rfl ?_
      refine mw_iload_n cx (q := 37) 1 rfl rfl dX9_make_36 rfl ?_
      refine mw_iconst cx (q := 38) (v := (-1)) dX9_make_37 rfl rfl ?_
      refine mw_iastC cx (q := 39) (fun _ => rfl) (by decide) vi_9_4 (by simp only [vp_in_iff, i32lt, i32le, i32eq, i32add, i32sub, i32mul, i32neg, t32_0, t32_968] at h1 h2 ⊢; omega) (by decide) dX9_make_38 rfl (fun m6 em6 => ?_)
      refine mw_aload_n cx (q := 40) 0 rfl rfl dX9_make_39 rfl ?_
      refine mw_get cx (q := 43) (v := .ref (ad 9 5 0)) gf_X9_24 rfl rfl vi_9_0 dX9_make_40 rfl ?_
      refine mw_iload_n cx (q := 44) 1 rfl rfl dX9_make_43 rfl ?_
      refine mw_iconst cx (q := 45) (v := (-1)) dX9_make_44 rfl rfl ?_
      refine mw_iastC cx (q := 46) (fun _ => rfl) (by decide) vi_9_5 (by simp only [vp_in_iff, i32lt, i32le, i32eq, i32add, i32sub, i32mul, i32neg, t32_0, t32_968] at h1 h2 ⊢; omega) (by decide) dX9_make_45 rfl (fun m7 em7 => ?_)
      refine mw_aload_n cx (q := 47) 0 rfl rfl dX9_make_46 rfl ?_
      refine mw_get cx (q := 50) (v := .ref (ad 9 6 0)) gf_X9_27 rfl rfl vi_9_0 dX9_make_47 rfl ?_
      refine mw_iload_n cx (q := 51) 1 rfl rfl dX9_make_50 rfl ?_
      refine mw_iconst cx (q := 52) (v := (-1)) dX9_make_51 rfl rfl ?_
      refine mw_iastC cx (q := 53) (fun _ => rfl) (by decide) vi_9_6 (by simp only [vp_in_iff, i32lt, i32le, i32eq, i32add, i32sub, i32mul, i32neg, t32_0, t32_968] at h1 h2 ⊢; omega) (by decide) dX9_make_52 rfl (fun m8 em8 => ?_)
      exact mw_vret cx hr rfl dX9_make_53
def f9_hang (m : Cm) (p1 : Int32) (p2 : Int32) : Cm := if p1 < 0 then m else if p1 < 968 then bnd ((m 5 0 p1)) (fun (v3 : Int32) => jn (fun (v4 : Cm) => bnd (u3 v4 5 0 p1 p2) (fun (m11 : Cm) => bnd (u3 m11 3 0 p1 ((v4 3 0 p1) + 1)) (fun (m12 : Cm) => m12))) (fun K5 => if v3 < 0 then bnd (u3 m 4 0 p1 p2) (fun (m7 : Cm) => K5 m7) else if 968 ≤ v3 then bnd (u3 m 4 0 p1 p2) (fun (m9 : Cm) => K5 m9) else bnd (u3 m 6 0 v3 p2) (fun (m10 : Cm) => K5 m10))) else m
set_option maxHeartbeats 4000000 in
set_option maxRecDepth 100000 in
theorem mc_X9_hang (l : Launch) (D : va_G) (ta : wTa) (ad : wAd) (M : Wm) (p1 : Int32) (p2 : Int32) : MC l D ta ad yX9_hang cX9_hang 4 none 0 [.ref (ad 9 0 0), .int p1, .int p2] M (fvc M 9 (f9_hang (M 9) p1 p2)) := by
  refine MC.of (fvc M 9) (f9_hang (M 9) p1 p2) rfl (by decide) (Nat.le_of_ble_eq_true rfl) (fun p e s m args below meth c cx hr => ?_)
  unfold f9_hang
  refine mw_sub (lv' := [(0, .ref (ad 9 0 0)), (1, .int p1), (2, .int p2)]) [0, 1, 2] rfl ?_
  refine mw_eqM (uW_self M 9) ?_
  refine mw_iload_n cx (q := 1) 1 rfl rfl dX9_hang_0 rfl ?_
  refine mw_if_lt cx (tgt := 11) (q := 4) dX9_hang_1 (by decide) rfl (fun h1 => ?_) (fun h1 => ?_)
  · exact mw_vret cx hr rfl dX9_hang_11
  · refine mw_iload_n cx (q := 5) 1 rfl rfl dX9_hang_4 rfl ?_
    refine mw_sipush cx (q := 8) (v := 968) dX9_hang_5 rfl rfl ?_
    refine mw_icmp_lt cx (tgt := 12) (q := 11) dX9_hang_8 (by decide) rfl (fun h2 => ?_) (fun h2 => ?_)
    · refine mw_aload_n cx (q := 13) 0 rfl rfl dX9_hang_12 rfl ?_
      refine mw_get cx (q := 16) (v := .ref (ad 9 5 0)) gf_X9_24 rfl rfl vi_9_0 dX9_hang_13 rfl ?_
      refine mw_iload_n cx (q := 17) 1 rfl rfl dX9_hang_16 rfl ?_
      refine mw_iald cx (q := 18) (w := ((M 9) 5 0 p1)) rfl (fun _ => rfl) vi_9_5 (by simp only [vp_in_iff, i32lt, i32le, i32eq, i32add, i32sub, i32mul, i32neg, t32_0, t32_968] at h1 h2 ⊢; omega) dX9_hang_17 rfl ?_
      refine mw_bndT (fun v3 ev3 => ?_)
      refine mw_istore_n cx (q := 19) (lv' := [(3, .int v3), (0, .ref (ad 9 0 0)), (1, .int p1), (2, .int p2)]) rfl rfl (by decide) dX9_hang_18 rfl ?_
      refine mw_iload_n cx (q := 20) 0 rfl rfl dX9_hang_19 rfl ?_
      refine mw_jn (Mj := fun (v4 : Cm) => (uW M 9 v4)) (pj := 47) (lj := fun (v4 : Cm) => [(0, .ref (ad 9 0 0)), (1, .int p1), (2, .int p2)]) (sj := fun (v4 : Cm) => []) (fun v4 => ?_) (fun K5 hK5 => ?_)
      · refine mw_aload_n cx (q := 48) 0 rfl rfl dX9_hang_47 rfl ?_
        refine mw_get cx (q := 51) (v := .ref (ad 9 5 0)) gf_X9_24 rfl rfl vi_9_0 dX9_hang_48 rfl ?_
        refine mw_iload_n cx (q := 52) 1 rfl rfl dX9_hang_51 rfl ?_
        refine mw_iload_n cx (q := 53) 2 rfl rfl dX9_hang_52 rfl ?_
        refine mw_iastC cx (q := 54) (fun _ => rfl) (by decide) vi_9_5 (by simp only [vp_in_iff, i32lt, i32le, i32eq, i32add, i32sub, i32mul, i32neg, t32_0, t32_5, t32_968] at h1 h2 ev3 ⊢; omega) (by decide) dX9_hang_53 rfl (fun m11 em11 => ?_)
        refine mw_aload_n cx (q := 55) 0 rfl rfl dX9_hang_54 rfl ?_
        refine mw_get cx (q := 58) (v := .ref (ad 9 3 0)) gf_X9_18 rfl rfl vi_9_0 dX9_hang_55 rfl ?_
        refine mw_iload_n cx (q := 59) 1 rfl rfl dX9_hang_58 rfl ?_
        refine mw_dup2 cx (q := 60) dX9_hang_59 rfl rfl rfl ?_
        refine mw_iald cx (q := 61) (w := (v4 3 0 p1)) (by rw [em11]; rfl) (fun _ => rfl) vi_9_3 (by simp only [vp_in_iff, i32lt, i32le, i32eq, i32add, i32sub, i32mul, i32neg, t32_0, t32_5, t32_968] at h1 h2 ev3 ⊢; omega) dX9_hang_60 rfl ?_
        refine mw_iconst cx (q := 62) (v := 1) dX9_hang_61 rfl rfl ?_
        refine mw_iadd cx (q := 63) dX9_hang_62 rfl ?_
        refine mw_iastC cx (q := 64) (fun _ => rfl) (by decide) vi_9_3 (by simp only [vp_in_iff, i32lt, i32le, i32eq, i32add, i32sub, i32mul, i32neg, t32_0, t32_5, t32_968] at h1 h2 ev3 ⊢; omega) (by decide) dX9_hang_63 rfl (fun m12 em12 => ?_)
        exact mw_vret cx hr rfl dX9_hang_64
      · refine mw_if_lt cx (tgt := 40) (q := 23) dX9_hang_20 (by decide) rfl (fun h6 => ?_) (fun h6 => ?_)
        · refine mw_aload_n cx (q := 41) 1 rfl rfl dX9_hang_40 rfl ?_
          refine mw_get cx (q := 44) (v := .ref (ad 9 4 0)) gf_X9_21 rfl rfl vi_9_0 dX9_hang_41 rfl ?_
          refine mw_iload_n cx (q := 45) 2 rfl rfl dX9_hang_44 rfl ?_
          refine mw_iload_n cx (q := 46) 3 rfl rfl dX9_hang_45 rfl ?_
          refine mw_iastC cx (q := 47) (fun _ => rfl) (by decide) vi_9_4 (by simp only [vp_in_iff, i32lt, i32le, i32eq, i32add, i32sub, i32mul, i32neg, t32_0, t32_5, t32_968] at h1 h2 ev3 h6 ⊢; omega) (by decide) dX9_hang_46 rfl (fun m7 em7 => ?_)
          refine mw_sub [1, 2, 3] rfl ?_
          exact hK5 m7
        · refine mw_iload_n cx (q := 24) 0 rfl rfl dX9_hang_23 rfl ?_
          refine mw_sipush cx (q := 27) (v := 968) dX9_hang_24 rfl rfl ?_
          refine mw_icmp_ge cx (tgt := 40) (q := 30) dX9_hang_27 (by decide) rfl (fun h8 => ?_) (fun h8 => ?_)
          · refine mw_aload_n cx (q := 41) 1 rfl rfl dX9_hang_40 rfl ?_
            refine mw_get cx (q := 44) (v := .ref (ad 9 4 0)) gf_X9_21 rfl rfl vi_9_0 dX9_hang_41 rfl ?_
            refine mw_iload_n cx (q := 45) 2 rfl rfl dX9_hang_44 rfl ?_
            refine mw_iload_n cx (q := 46) 3 rfl rfl dX9_hang_45 rfl ?_
            refine mw_iastC cx (q := 47) (fun _ => rfl) (by decide) vi_9_4 (by simp only [vp_in_iff, i32lt, i32le, i32eq, i32add, i32sub, i32mul, i32neg, t32_0, t32_5, t32_968] at h1 h2 ev3 h6 h8 ⊢; omega) (by decide) dX9_hang_46 rfl (fun m9 em9 => ?_)
            refine mw_sub [1, 2, 3] rfl ?_
            exact hK5 m9
          · refine mw_aload_n cx (q := 31) 1 rfl rfl dX9_hang_30 rfl ?_
            refine mw_get cx (q := 34) (v := .ref (ad 9 6 0)) gf_X9_27 rfl rfl vi_9_0 dX9_hang_31 rfl ?_
            refine mw_iload_n cx (q := 35) 0 rfl rfl dX9_hang_34 rfl ?_
            refine mw_iload_n cx (q := 36) 3 rfl rfl dX9_hang_35 rfl ?_
            refine mw_iastC cx (q := 37) (fun _ => rfl) (by decide) vi_9_6 (by simp only [vp_in_iff, i32lt, i32le, i32eq, i32add, i32sub, i32mul, i32neg, t32_0, t32_5, t32_968] at ev3 h6 h8 h1 h2 ⊢; omega) (by decide) dX9_hang_36 rfl (fun m10 em10 => ?_)
            refine mw_goto cx (tgt := 47) dX9_hang_37 (by decide) ?_
            refine mw_sub [1, 2, 3] rfl ?_
            exact hK5 m10
    · exact mw_vret cx hr rfl dX9_hang_11
def f9_setContent (m : Cm) (p1 : Int32) (p2 : Int32) : Cm := if p1 < 0 then m else if 968 ≤ p1 then m else bnd (u3 m 2 0 p1 p2) (fun (m3 : Cm) => m3)
set_option maxHeartbeats 4000000 in
set_option maxRecDepth 100000 in
theorem mc_X9_setContent (l : Launch) (D : va_G) (ta : wTa) (ad : wAd) (M : Wm) (p1 : Int32) (p2 : Int32) : MC l D ta ad yX9_setContent cX9_setContent 3 none 0 [.ref (ad 9 0 0), .int p1, .int p2] M (fvc M 9 (f9_setContent (M 9) p1 p2)) := by
  refine MC.of (fvc M 9) (f9_setContent (M 9) p1 p2) rfl (by decide) (Nat.le_of_ble_eq_true rfl) (fun p e s m args below meth c cx hr => ?_)
  unfold f9_setContent
  refine mw_sub (lv' := [(0, .ref (ad 9 0 0)), (1, .int p1), (2, .int p2)]) [0, 1, 2] rfl ?_
  refine mw_eqM (uW_self M 9) ?_
  refine mw_iload_n cx (q := 1) 1 rfl rfl dX9_setContent_0 rfl ?_
  refine mw_if_lt cx (tgt := 18) (q := 4) dX9_setContent_1 (by decide) rfl (fun h1 => ?_) (fun h1 => ?_)
  · exact mw_vret cx hr rfl dX9_setContent_18
  · refine mw_iload_n cx (q := 5) 1 rfl rfl dX9_setContent_4 rfl ?_
    refine mw_sipush cx (q := 8) (v := 968) dX9_setContent_5 rfl rfl ?_
    refine mw_icmp_ge cx (tgt := 18) (q := 11) dX9_setContent_8 (by decide) rfl (fun h2 => ?_) (fun h2 => ?_)
    · exact mw_vret cx hr rfl dX9_setContent_18
    · refine mw_aload_n cx (q := 12) 0 rfl rfl dX9_setContent_11 rfl ?_
      refine mw_get cx (q := 15) (v := .ref (ad 9 2 0)) gf_X9_15 rfl rfl vi_9_0 dX9_setContent_12 rfl ?_
      refine mw_iload_n cx (q := 16) 1 rfl rfl dX9_setContent_15 rfl ?_
      refine mw_iload_n cx (q := 17) 2 rfl rfl dX9_setContent_16 rfl ?_
      refine mw_iastC cx (q := 18) (fun _ => rfl) (by decide) vi_9_2 (by simp only [vp_in_iff, i32lt, i32le, i32eq, i32add, i32sub, i32mul, i32neg, t32_0, t32_968] at h1 h2 ⊢; omega) (by decide) dX9_setContent_17 rfl (fun m3 em3 => ?_)
      exact mw_vret cx hr rfl dX9_setContent_18
def f9_kindOf (m : Cm) (p1 : Int32) : Int32 := if p1 < 0 then 0 else if 968 ≤ p1 then 0 else (m 1 0 p1)
set_option maxHeartbeats 4000000 in
set_option maxRecDepth 100000 in
theorem mc_X9_kindOf (l : Launch) (D : va_G) (ta : wTa) (ad : wAd) (M : Wm) (p1 : Int32) : MC l D ta ad yX9_kindOf cX9_kindOf 2 (some .int) 0 [.ref (ad 9 0 0), .int p1] M (fip M (f9_kindOf (M 9) p1)) := by
  refine MC.of (fip M) (f9_kindOf (M 9) p1) rfl (by decide) (Nat.le_of_ble_eq_true rfl) (fun p e s m args below meth c cx hr => ?_)
  unfold f9_kindOf
  refine mw_sub (lv' := [(0, .ref (ad 9 0 0)), (1, .int p1)]) [0, 1] rfl ?_
  refine mw_iload_n cx (q := 1) 1 rfl rfl dX9_kindOf_0 rfl ?_
  refine mw_if_lt cx (tgt := 20) (q := 4) dX9_kindOf_1 (by decide) rfl (fun h1 => ?_) (fun h1 => ?_)
  · refine mw_iconst cx (q := 21) (v := 0) dX9_kindOf_20 rfl rfl ?_
    exact mw_iret cx hr rfl dX9_kindOf_21
  · refine mw_iload_n cx (q := 5) 1 rfl rfl dX9_kindOf_4 rfl ?_
    refine mw_sipush cx (q := 8) (v := 968) dX9_kindOf_5 rfl rfl ?_
    refine mw_icmp_ge cx (tgt := 20) (q := 11) dX9_kindOf_8 (by decide) rfl (fun h2 => ?_) (fun h2 => ?_)
    · refine mw_iconst cx (q := 21) (v := 0) dX9_kindOf_20 rfl rfl ?_
      exact mw_iret cx hr rfl dX9_kindOf_21
    · refine mw_aload_n cx (q := 12) 0 rfl rfl dX9_kindOf_11 rfl ?_
      refine mw_get cx (q := 15) (v := .ref (ad 9 1 0)) gf_X9_11 rfl rfl vi_9_0 dX9_kindOf_12 rfl ?_
      refine mw_iload_n cx (q := 16) 1 rfl rfl dX9_kindOf_15 rfl ?_
      refine mw_iald cx (q := 17) (w := ((M 9) 1 0 p1)) rfl (fun _ => rfl) vi_9_1 (by simp only [vp_in_iff, i32lt, i32le, i32eq, i32add, i32sub, i32mul, i32neg, t32_0, t32_968] at h1 h2 ⊢; omega) dX9_kindOf_16 rfl ?_
      refine mw_goto cx (tgt := 21) dX9_kindOf_17 (by decide) ?_
      exact mw_iret cx hr rfl dX9_kindOf_21
def f9_contentOf (m : Cm) (p1 : Int32) : Int32 := if p1 < 0 then 0 else if 968 ≤ p1 then 0 else (m 2 0 p1)
set_option maxHeartbeats 4000000 in
set_option maxRecDepth 100000 in
theorem mc_X9_contentOf (l : Launch) (D : va_G) (ta : wTa) (ad : wAd) (M : Wm) (p1 : Int32) : MC l D ta ad yX9_contentOf cX9_contentOf 2 (some .int) 0 [.ref (ad 9 0 0), .int p1] M (fip M (f9_contentOf (M 9) p1)) := by
  refine MC.of (fip M) (f9_contentOf (M 9) p1) rfl (by decide) (Nat.le_of_ble_eq_true rfl) (fun p e s m args below meth c cx hr => ?_)
  unfold f9_contentOf
  refine mw_sub (lv' := [(0, .ref (ad 9 0 0)), (1, .int p1)]) [0, 1] rfl ?_
  refine mw_iload_n cx (q := 1) 1 rfl rfl dX9_contentOf_0 rfl ?_
  refine mw_if_lt cx (tgt := 20) (q := 4) dX9_contentOf_1 (by decide) rfl (fun h1 => ?_) (fun h1 => ?_)
  · refine mw_iconst cx (q := 21) (v := 0) dX9_contentOf_20 rfl rfl ?_
    exact mw_iret cx hr rfl dX9_contentOf_21
  · refine mw_iload_n cx (q := 5) 1 rfl rfl dX9_contentOf_4 rfl ?_
    refine mw_sipush cx (q := 8) (v := 968) dX9_contentOf_5 rfl rfl ?_
    refine mw_icmp_ge cx (tgt := 20) (q := 11) dX9_contentOf_8 (by decide) rfl (fun h2 => ?_) (fun h2 => ?_)
    · refine mw_iconst cx (q := 21) (v := 0) dX9_contentOf_20 rfl rfl ?_
      exact mw_iret cx hr rfl dX9_contentOf_21
    · refine mw_aload_n cx (q := 12) 0 rfl rfl dX9_contentOf_11 rfl ?_
      refine mw_get cx (q := 15) (v := .ref (ad 9 2 0)) gf_X9_15 rfl rfl vi_9_0 dX9_contentOf_12 rfl ?_
      refine mw_iload_n cx (q := 16) 1 rfl rfl dX9_contentOf_15 rfl ?_
      refine mw_iald cx (q := 17) (w := ((M 9) 2 0 p1)) rfl (fun _ => rfl) vi_9_2 (by simp only [vp_in_iff, i32lt, i32le, i32eq, i32add, i32sub, i32mul, i32neg, t32_0, t32_968] at h1 h2 ⊢; omega) dX9_contentOf_16 rfl ?_
      refine mw_goto cx (tgt := 21) dX9_contentOf_17 (by decide) ?_
      exact mw_iret cx hr rfl dX9_contentOf_21
def f9_partsOf (m : Cm) (p1 : Int32) : Int32 := if p1 < 0 then 0 else if 968 ≤ p1 then 0 else (m 3 0 p1)
set_option maxHeartbeats 4000000 in
set_option maxRecDepth 100000 in
theorem mc_X9_partsOf (l : Launch) (D : va_G) (ta : wTa) (ad : wAd) (M : Wm) (p1 : Int32) : MC l D ta ad yX9_partsOf cX9_partsOf 2 (some .int) 0 [.ref (ad 9 0 0), .int p1] M (fip M (f9_partsOf (M 9) p1)) := by
  refine MC.of (fip M) (f9_partsOf (M 9) p1) rfl (by decide) (Nat.le_of_ble_eq_true rfl) (fun p e s m args below meth c cx hr => ?_)
  unfold f9_partsOf
  refine mw_sub (lv' := [(0, .ref (ad 9 0 0)), (1, .int p1)]) [0, 1] rfl ?_
  refine mw_iload_n cx (q := 1) 1 rfl rfl dX9_partsOf_0 rfl ?_
  refine mw_if_lt cx (tgt := 20) (q := 4) dX9_partsOf_1 (by decide) rfl (fun h1 => ?_) (fun h1 => ?_)
  · refine mw_iconst cx (q := 21) (v := 0) dX9_partsOf_20 rfl rfl ?_
    exact mw_iret cx hr rfl dX9_partsOf_21
  · refine mw_iload_n cx (q := 5) 1 rfl rfl dX9_partsOf_4 rfl ?_
    refine mw_sipush cx (q := 8) (v := 968) dX9_partsOf_5 rfl rfl ?_
    refine mw_icmp_ge cx (tgt := 20) (q := 11) dX9_partsOf_8 (by decide) rfl (fun h2 => ?_) (fun h2 => ?_)
    · refine mw_iconst cx (q := 21) (v := 0) dX9_partsOf_20 rfl rfl ?_
      exact mw_iret cx hr rfl dX9_partsOf_21
    · refine mw_aload_n cx (q := 12) 0 rfl rfl dX9_partsOf_11 rfl ?_
      refine mw_get cx (q := 15) (v := .ref (ad 9 3 0)) gf_X9_18 rfl rfl vi_9_0 dX9_partsOf_12 rfl ?_
      refine mw_iload_n cx (q := 16) 1 rfl rfl dX9_partsOf_15 rfl ?_
      refine mw_iald cx (q := 17) (w := ((M 9) 3 0 p1)) rfl (fun _ => rfl) vi_9_3 (by simp only [vp_in_iff, i32lt, i32le, i32eq, i32add, i32sub, i32mul, i32neg, t32_0, t32_968] at h1 h2 ⊢; omega) dX9_partsOf_16 rfl ?_
      refine mw_goto cx (tgt := 21) dX9_partsOf_17 (by decide) ?_
      exact mw_iret cx hr rfl dX9_partsOf_21
def f9_partOf_lp37 (m : Cm) (p2 : Int32) : Nat → (Int32 × Int32) → Int32
  | 0, x6 => 0
  | n7 + 1, x6 => if p2 ≤ x6.1 then x6.2 else if x6.2 < 0 then x6.2 else if 968 ≤ x6.2 then x6.2 else bnd ((m 6 0 x6.2)) (fun (v11 : Int32) => bnd (x6.1 + 1) (fun (v12 : Int32) => f9_partOf_lp37 m p2 n7 (v12, v11)))
theorem f9_partOf_lp37_s (m : Cm) (p2 : Int32) (n7 : Nat) (x6 : Int32 × Int32) : f9_partOf_lp37 m p2 (n7 + 1) x6 = if p2 ≤ x6.1 then x6.2 else if x6.2 < 0 then x6.2 else if 968 ≤ x6.2 then x6.2 else bnd ((m 6 0 x6.2)) (fun (v11 : Int32) => bnd (x6.1 + 1) (fun (v12 : Int32) => f9_partOf_lp37 m p2 n7 (v12, v11))) := rfl
def f9_partOf (m : Cm) (p1 : Int32) (p2 : Int32) : Int32 := if p1 < 0 then (-1) else if 968 ≤ p1 then (-1) else if p2 < 0 then (-1) else if p2 < (m 3 0 p1) then bnd ((m 4 0 p1)) (fun (v5 : Int32) => f9_partOf_lp37 m p2 ((p2).toInt.toNat + 1) (0, v5)) else (-1)
set_option maxHeartbeats 4000000 in
set_option maxRecDepth 100000 in
theorem mc_X9_partOf (l : Launch) (D : va_G) (ta : wTa) (ad : wAd) (M : Wm) (p1 : Int32) (p2 : Int32) : MC l D ta ad yX9_partOf cX9_partOf 5 (some .int) 0 [.ref (ad 9 0 0), .int p1, .int p2] M (fip M (f9_partOf (M 9) p1 p2)) := by
  refine MC.of (fip M) (f9_partOf (M 9) p1 p2) rfl (by decide) (Nat.le_of_ble_eq_true rfl) (fun p e s m args below meth c cx hr => ?_)
  unfold f9_partOf
  refine mw_sub (lv' := [(0, .ref (ad 9 0 0)), (1, .int p1), (2, .int p2)]) [0, 1, 2] rfl ?_
  refine mw_iload_n cx (q := 1) 1 rfl rfl dX9_partOf_0 rfl ?_
  refine mw_if_lt cx (tgt := 25) (q := 4) dX9_partOf_1 (by decide) rfl (fun h1 => ?_) (fun h1 => ?_)
  · refine mw_iconst cx (q := 26) (v := (-1)) dX9_partOf_25 rfl rfl ?_
    exact mw_iret cx hr rfl dX9_partOf_26
  · refine mw_iload_n cx (q := 5) 1 rfl rfl dX9_partOf_4 rfl ?_
    refine mw_sipush cx (q := 8) (v := 968) dX9_partOf_5 rfl rfl ?_
    refine mw_icmp_ge cx (tgt := 25) (q := 11) dX9_partOf_8 (by decide) rfl (fun h2 => ?_) (fun h2 => ?_)
    · refine mw_iconst cx (q := 26) (v := (-1)) dX9_partOf_25 rfl rfl ?_
      exact mw_iret cx hr rfl dX9_partOf_26
    · refine mw_iload_n cx (q := 12) 2 rfl rfl dX9_partOf_11 rfl ?_
      refine mw_if_lt cx (tgt := 25) (q := 15) dX9_partOf_12 (by decide) rfl (fun h3 => ?_) (fun h3 => ?_)
      · refine mw_iconst cx (q := 26) (v := (-1)) dX9_partOf_25 rfl rfl ?_
        exact mw_iret cx hr rfl dX9_partOf_26
      · refine mw_iload_n cx (q := 16) 2 rfl rfl dX9_partOf_15 rfl ?_
        refine mw_aload_n cx (q := 17) 0 rfl rfl dX9_partOf_16 rfl ?_
        refine mw_get cx (q := 20) (v := .ref (ad 9 3 0)) gf_X9_18 rfl rfl vi_9_0 dX9_partOf_17 rfl ?_
        refine mw_iload_n cx (q := 21) 1 rfl rfl dX9_partOf_20 rfl ?_
        refine mw_iald cx (q := 22) (w := ((M 9) 3 0 p1)) rfl (fun _ => rfl) vi_9_3 (by have zp1 := i32rng p1; simp only [vp_in_iff, i32lt, i32le, i32eq, i32add, i32sub, i32mul, i32neg, t32_0, t32_968] at h1 h2 ⊢; omega) dX9_partOf_21 rfl ?_
        refine mw_icmp_lt cx (tgt := 27) (q := 25) dX9_partOf_22 (by decide) rfl (fun h4 => ?_) (fun h4 => ?_)
        · refine mw_aload_n cx (q := 28) 0 rfl rfl dX9_partOf_27 rfl ?_
          refine mw_get cx (q := 31) (v := .ref (ad 9 4 0)) gf_X9_21 rfl rfl vi_9_0 dX9_partOf_28 rfl ?_
          refine mw_iload_n cx (q := 32) 1 rfl rfl dX9_partOf_31 rfl ?_
          refine mw_iald cx (q := 33) (w := ((M 9) 4 0 p1)) rfl (fun _ => rfl) vi_9_4 (by have zp1 := i32rng p1; have zp2 := i32rng p2; simp only [vp_in_iff, i32lt, i32le, i32eq, i32add, i32sub, i32mul, i32neg, t32_0, t32_3, t32_968] at h1 h2 h4 h3 ⊢; omega) dX9_partOf_32 rfl ?_
          refine mw_bndT (fun v5 ev5 => ?_)
          refine mw_istore_n cx (q := 34) (lv' := [(3, .int v5), (0, .ref (ad 9 0 0)), (1, .int p1), (2, .int p2)]) rfl rfl (by decide) dX9_partOf_33 rfl ?_
          refine mw_iconst cx (q := 35) (v := 0) dX9_partOf_34 rfl rfl ?_
          refine mw_istore cx (q := 37) (lv' := [(4, .int 0), (3, .int v5), (0, .ref (ad 9 0 0)), (1, .int p1), (2, .int p2)]) rfl (by decide) dX9_partOf_35 rfl ?_
          refine mw_sub [0, 1, 2, 4] rfl ?_
          refine mw_loop (F := f9_partOf_lp37 (M 9) p2) (I := fun (x6 : Int32 × Int32) => 0 ≤ (x6.1).toInt) (μ := fun (x6 : Int32 × Int32) => ((p2).toInt - (x6.1).toInt).toNat) (Mx := fun (x6 : Int32 × Int32) => M) (px := 37) (lx := fun (x6 : Int32 × Int32) => [(4, .int x6.1), (3, .int x6.2), (0, .ref (ad 9 0 0)), (2, .int p2)]) (fun n7 x6 ivx6 ih => ?_) ((p2).toInt.toNat + 1) (0, v5) (by simp only [vp_in_iff, i32lt, i32le, i32eq, i32add, i32sub, i32mul, i32neg, t32_0]; omega) (by have zp1 := i32rng p1; have zp2 := i32rng p2; simp only [vp_in_iff, i32lt, i32le, i32eq, i32add, i32sub, i32mul, i32neg, t32_0, t32_1, t32_3, t32_4, t32_968] at h3 h4 ev5 h1 h2 ⊢; omega)
          have ivx6_0 := ivx6
          refine mw_eqS (f9_partOf_lp37_s (M 9) p2 n7 x6) ?_
          refine mw_iload cx (q := 39) 0 rfl dX9_partOf_37 rfl ?_
          refine mw_iload_n cx (q := 40) 3 rfl rfl dX9_partOf_39 rfl ?_
          refine mw_icmp_ge cx (tgt := 67) (q := 43) dX9_partOf_40 (by decide) rfl (fun h8 => ?_) (fun h8 => ?_)
          · refine mw_iload_n cx (q := 68) 1 rfl rfl dX9_partOf_67 rfl ?_
            exact mw_iret cx hr rfl dX9_partOf_68
          · refine mw_iload_n cx (q := 44) 1 rfl rfl dX9_partOf_43 rfl ?_
            refine mw_if_lt cx (tgt := 67) (q := 47) dX9_partOf_44 (by decide) rfl (fun h9 => ?_) (fun h9 => ?_)
            · refine mw_iload_n cx (q := 68) 1 rfl rfl dX9_partOf_67 rfl ?_
              exact mw_iret cx hr rfl dX9_partOf_68
            · refine mw_iload_n cx (q := 48) 1 rfl rfl dX9_partOf_47 rfl ?_
              refine mw_sipush cx (q := 51) (v := 968) dX9_partOf_48 rfl rfl ?_
              refine mw_icmp_ge cx (tgt := 67) (q := 54) dX9_partOf_51 (by decide) rfl (fun h10 => ?_) (fun h10 => ?_)
              · refine mw_iload_n cx (q := 68) 1 rfl rfl dX9_partOf_67 rfl ?_
                exact mw_iret cx hr rfl dX9_partOf_68
              · refine mw_aload_n cx (q := 55) 2 rfl rfl dX9_partOf_54 rfl ?_
                refine mw_get cx (q := 58) (v := .ref (ad 9 6 0)) gf_X9_27 rfl rfl vi_9_0 dX9_partOf_55 rfl ?_
                refine mw_iload_n cx (q := 59) 1 rfl rfl dX9_partOf_58 rfl ?_
                refine mw_iald cx (q := 60) (w := ((M 9) 6 0 x6.2)) rfl (fun _ => rfl) vi_9_6 (by simp only [vp_in_iff, i32lt, i32le, i32eq, i32add, i32sub, i32mul, i32neg, t32_0, t32_968] at h9 h10 ⊢; omega) dX9_partOf_59 rfl ?_
                refine mw_bndT (fun v11 ev11 => ?_)
                refine mw_istore_n cx (q := 61) (lv' := [(3, .int v11), (4, .int x6.1), (0, .ref (ad 9 0 0)), (2, .int p2)]) rfl rfl (by decide) dX9_partOf_60 rfl ?_
                refine mw_bnd (fun v12 ev12 => ?_)
                refine mw_iinc cx (q := 64) (v := v12) (lv' := [(4, .int v12), (3, .int v11), (0, .ref (ad 9 0 0)), (2, .int p2)]) 1 rfl (by rw [ev12]; rfl) rfl (by decide) dX9_partOf_61 rfl ?_
                refine mw_goto cx (tgt := 37) dX9_partOf_64 (by decide) ?_
                exact ih (v12, v11) (by have zp1 := i32rng p1; have zp2 := i32rng p2; simp only [vp_in_iff, i32lt, i32le, i32eq, i32add, i32sub, i32mul, i32neg, t32_0, t32_1, t32_3, t32_4, t32_968] at ev12 ivx6_0 h8 h3 h4 ev5 h1 h2 ⊢; omega) (by have zp1 := i32rng p1; have zp2 := i32rng p2; simp only [vp_in_iff, i32lt, i32le, i32eq, i32add, i32sub, i32mul, i32neg, t32_0, t32_1, t32_3, t32_4, t32_968] at h3 h4 ev5 ivx6_0 h8 ev12 h1 h2 ⊢; omega)
        · refine mw_iconst cx (q := 26) (v := (-1)) dX9_partOf_25 rfl rfl ?_
          exact mw_iret cx hr rfl dX9_partOf_26
def f9_nextOf (m : Cm) (p1 : Int32) : Int32 := if p1 < 0 then (-1) else if 968 ≤ p1 then (-1) else (m 6 0 p1)
set_option maxHeartbeats 4000000 in
set_option maxRecDepth 100000 in
theorem mc_X9_nextOf (l : Launch) (D : va_G) (ta : wTa) (ad : wAd) (M : Wm) (p1 : Int32) : MC l D ta ad yX9_nextOf cX9_nextOf 2 (some .int) 0 [.ref (ad 9 0 0), .int p1] M (fip M (f9_nextOf (M 9) p1)) := by
  refine MC.of (fip M) (f9_nextOf (M 9) p1) rfl (by decide) (Nat.le_of_ble_eq_true rfl) (fun p e s m args below meth c cx hr => ?_)
  unfold f9_nextOf
  refine mw_sub (lv' := [(0, .ref (ad 9 0 0)), (1, .int p1)]) [0, 1] rfl ?_
  refine mw_iload_n cx (q := 1) 1 rfl rfl dX9_nextOf_0 rfl ?_
  refine mw_if_lt cx (tgt := 20) (q := 4) dX9_nextOf_1 (by decide) rfl (fun h1 => ?_) (fun h1 => ?_)
  · refine mw_iconst cx (q := 21) (v := (-1)) dX9_nextOf_20 rfl rfl ?_
    exact mw_iret cx hr rfl dX9_nextOf_21
  · refine mw_iload_n cx (q := 5) 1 rfl rfl dX9_nextOf_4 rfl ?_
    refine mw_sipush cx (q := 8) (v := 968) dX9_nextOf_5 rfl rfl ?_
    refine mw_icmp_ge cx (tgt := 20) (q := 11) dX9_nextOf_8 (by decide) rfl (fun h2 => ?_) (fun h2 => ?_)
    · refine mw_iconst cx (q := 21) (v := (-1)) dX9_nextOf_20 rfl rfl ?_
      exact mw_iret cx hr rfl dX9_nextOf_21
    · refine mw_aload_n cx (q := 12) 0 rfl rfl dX9_nextOf_11 rfl ?_
      refine mw_get cx (q := 15) (v := .ref (ad 9 6 0)) gf_X9_27 rfl rfl vi_9_0 dX9_nextOf_12 rfl ?_
      refine mw_iload_n cx (q := 16) 1 rfl rfl dX9_nextOf_15 rfl ?_
      refine mw_iald cx (q := 17) (w := ((M 9) 6 0 p1)) rfl (fun _ => rfl) vi_9_6 (by simp only [vp_in_iff, i32lt, i32le, i32eq, i32add, i32sub, i32mul, i32neg, t32_0, t32_968] at h1 h2 ⊢; omega) dX9_nextOf_16 rfl ?_
      refine mw_goto cx (tgt := 21) dX9_nextOf_17 (by decide) ?_
      exact mw_iret cx hr rfl dX9_nextOf_21
