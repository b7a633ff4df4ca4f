def f11_isIn (p1 : Int32) (p2 : Int32) (p3 : Int32) : Bool := if p1 < p2 then false else if p3 < p1 then false else true
set_option maxHeartbeats 4000000 in
set_option maxRecDepth 100000 in
theorem mc_X11_isIn (l : Launch) (D : va_G) (ta : wTa) (ad : wAd) (M : Wm) (p1 : Int32) (p2 : Int32) (p3 : Int32) : MC l D ta ad yX11_isIn cX11_isIn 3 (some .boolean) 0 [.int p1, .int p2, .int p3] M (fzp M (f11_isIn p1 p2 p3)) := by
  refine MC.of (fzp M) (f11_isIn p1 p2 p3) rfl (by decide) (Nat.le_of_ble_eq_true rfl) (fun p e s m args below meth c cx hr => ?_)
  unfold f11_isIn
  refine mw_sub (lv' := [(0, .int p1), (1, .int p2), (2, .int p3)]) [0, 1, 2] rfl ?_
  refine mw_iload_n cx (q := 1) 0 rfl rfl dX11_isIn_0 rfl ?_
  refine mw_iload_n cx (q := 2) 1 rfl rfl dX11_isIn_1 rfl ?_
  refine mw_icmp_lt cx (tgt := 14) (q := 5) dX11_isIn_2 (by decide) rfl (fun h1 => ?_) (fun h1 => ?_)
  · refine mw_iconst cx (q := 15) (v := 0) dX11_isIn_14 rfl rfl ?_
    exact mw_zret cx hr rfl rfl dX11_isIn_15
  · refine mw_iload_n cx (q := 6) 0 rfl rfl dX11_isIn_5 rfl ?_
    refine mw_iload_n cx (q := 7) 2 rfl rfl dX11_isIn_6 rfl ?_
    refine mw_icmp_gt cx (tgt := 14) (q := 10) dX11_isIn_7 (by decide) rfl (fun h2 => ?_) (fun h2 => ?_)
    · refine mw_iconst cx (q := 15) (v := 0) dX11_isIn_14 rfl rfl ?_
      exact mw_zret cx hr rfl rfl dX11_isIn_15
    · refine mw_iconst cx (q := 11) (v := 1) dX11_isIn_10 rfl rfl ?_
      refine mw_goto cx (tgt := 15) dX11_isIn_11 (by decide) ?_
      exact mw_zret cx hr rfl rfl dX11_isIn_15
theorem isIn_t {a b c : Int32} (h : f11_isIn a b c = true) : b ≤ a ∧ a ≤ c := by
  unfold f11_isIn at h
  by_cases h1 : a < b
  · rw [if_pos h1] at h; cases h
  · rw [if_neg h1] at h
    by_cases h2 : c < a
    · rw [if_pos h2] at h; cases h
    · simp only [i32lt, i32le] at *; omega
theorem isIn_f {a b c : Int32} (h : f11_isIn a b c = false) : ¬ (b ≤ a ∧ a ≤ c) := by
  unfold f11_isIn at h
  by_cases h1 : a < b
  · simp only [i32lt, i32le] at *; omega
  · rw [if_neg h1] at h
    by_cases h2 : c < a
    · simp only [i32lt, i32le] at *; omega
    · rw [if_neg h2] at h; cases h
theorem isIn_in {a c : Int32} {n : Nat} (h : f11_isIn a 0 c = true) (hc : c.toInt < n) : vp_in a n := by
  have := isIn_t h
  rw [vp_in_iff]; simp only [i32le, t32_0] at this; omega
def f2_clear (m : Cm) : Cm := bnd (u3 m 0 0 2 0) (fun (m1 : Cm) => bnd (u3 m1 0 0 3 0) (fun (m2 : Cm) => bnd (u3 m2 0 0 6 0) (fun (m3 : Cm) => m3)))
set_option maxHeartbeats 4000000 in
set_option maxRecDepth 100000 in
theorem mc_X2_clear (l : Launch) (D : va_G) (ta : wTa) (ad : wAd) (M : Wm) : MC l D ta ad yX2_clear cX2_clear 1 none 0 [.ref (ad 2 0 0)] M (fvc M 2 (f2_clear (M 2))) := by
  refine MC.of (fvc M 2) (f2_clear (M 2)) rfl (by decide) (Nat.le_of_ble_eq_true rfl) (fun p e s m args below meth c cx hr => ?_)
  unfold f2_clear
  refine mw_sub (lv' := [(0, .ref (ad 2 0 0))]) [0] rfl ?_
  refine mw_eqM (uW_self M 2) ?_
  refine mw_aload_n cx (q := 1) 0 rfl rfl dX2_clear_0 rfl ?_
  refine mw_iconst cx (q := 2) (v := 0) dX2_clear_1 rfl rfl ?_
  refine mw_putC cx (q := 5) 2 gf_X2_26 pf_X2_2 (int_fit _) rfl (Nat.le_of_ble_eq_true rfl) rfl vi_2_0 (by decide) dX2_clear_2 rfl (fun m1 em1 => ?_)
  refine mw_aload_n cx (q := 6) 0 rfl rfl dX2_clear_5 rfl ?_
  refine mw_iconst cx (q := 7) (v := 0) dX2_clear_6 rfl rfl ?_
  refine mw_putC cx (q := 10) 3 gf_X2_30 pf_X2_3 (int_fit _) rfl (Nat.le_of_ble_eq_true rfl) rfl vi_2_0 (by decide) dX2_clear_7 rfl (fun m2 em2 => ?_)
  refine mw_aload_n cx (q := 11) 0 rfl rfl dX2_clear_10 rfl ?_
  refine mw_iconst cx (q := 12) (v := 0) dX2_clear_11 rfl rfl ?_
  refine mw_putC cx (q := 15) 6 gf_X2_33 pf_X2_6 (int_fit _) rfl (Nat.le_of_ble_eq_true rfl) rfl vi_2_0 (by decide) dX2_clear_12 rfl (fun m3 em3 => ?_)
  exact mw_vret cx hr rfl dX2_clear_15
def f2_bind (m : Cm) (p1 : Int32) (p2 : Int32) : Cm := if 90 ≤ (m 0 0 2) then m else bnd (u3 m 1 0 (m 0 0 2) p1) (fun (m2 : Cm) => bnd (u3 m2 2 0 (m 0 0 2) p2) (fun (m3 : Cm) => bnd (u3 m3 0 0 2 ((m 0 0 2) + 1)) (fun (m4 : Cm) => m4)))
set_option maxHeartbeats 4000000 in
set_option maxRecDepth 100000 in
theorem mc_X2_bind (l : Launch) (D : va_G) (ta : wTa) (ad : wAd) (M : Wm) (p1 : Int32) (p2 : Int32) (hn0 : 0 ≤ ((M 2) 0 0 2).toInt) : MC l D ta ad yX2_bind cX2_bind 3 none 0 [.ref (ad 2 0 0), .int p1, .int p2] M (fvc M 2 (f2_bind (M 2) p1 p2)) := by
  refine MC.of (fvc M 2) (f2_bind (M 2) p1 p2) rfl (by decide) (Nat.le_of_ble_eq_true rfl) (fun p e s m args below meth c cx hr => ?_)
  unfold f2_bind
  refine mw_sub (lv' := [(0, .ref (ad 2 0 0)), (1, .int p1), (2, .int p2)]) [0, 1, 2] rfl ?_
  refine mw_eqM (uW_self M 2) ?_
  refine mw_aload_n cx (q := 1) 0 rfl rfl dX2_bind_0 rfl ?_
  refine mw_get cx (q := 4) (v := .int ((M 2) 0 0 2)) gf_X2_26 rfl rfl vi_2_0 dX2_bind_1 rfl ?_
  refine mw_bipush cx (q := 6) (v := 90) dX2_bind_4 rfl rfl ?_
  refine mw_icmp_ge cx (tgt := 39) (q := 9) dX2_bind_6 (by decide) rfl (fun h1 => ?_) (fun h1 => ?_)
  · exact mw_vret cx hr rfl dX2_bind_39
  · refine mw_aload_n cx (q := 10) 0 rfl rfl dX2_bind_9 rfl ?_
    refine mw_get cx (q := 13) (v := .ref (ad 2 1 0)) gf_X2_13 rfl rfl vi_2_0 dX2_bind_10 rfl ?_
    refine mw_aload_n cx (q := 14) 0 rfl rfl dX2_bind_13 rfl ?_
    refine mw_get cx (q := 17) (v := .int ((M 2) 0 0 2)) gf_X2_26 rfl rfl vi_2_0 dX2_bind_14 rfl ?_
    refine mw_iload_n cx (q := 18) 1 rfl rfl dX2_bind_17 rfl ?_
    refine mw_iastC cx (q := 19) (fun _ => rfl) (by decide) vi_2_1 (by simp only [vp_in_iff, i32lt, i32le, i32eq, i32add, i32sub, i32mul, i32neg, t32_0, t32_2, t32_90] at hn0 h1 ⊢; omega) (by decide) dX2_bind_18 rfl (fun m2 em2 => ?_)
    refine mw_aload_n cx (q := 20) 0 rfl rfl dX2_bind_19 rfl ?_
    refine mw_get cx (q := 23) (v := .ref (ad 2 2 0)) gf_X2_17 rfl rfl vi_2_0 dX2_bind_20 rfl ?_
    refine mw_aload_n cx (q := 24) 0 rfl rfl dX2_bind_23 rfl ?_
    refine mw_get cx (q := 27) (v := .int ((M 2) 0 0 2)) gf_X2_26 rfl (by rw [em2]; rfl) vi_2_0 dX2_bind_24 rfl ?_
    refine mw_iload_n cx (q := 28) 2 rfl rfl dX2_bind_27 rfl ?_
    refine mw_iastC cx (q := 29) (fun _ => rfl) (by decide) vi_2_2 (by simp only [vp_in_iff, i32lt, i32le, i32eq, i32add, i32sub, i32mul, i32neg, t32_0, t32_2, t32_90] at hn0 h1 ⊢; omega) (by decide) dX2_bind_28 rfl (fun m3 em3 => ?_)
    refine mw_aload_n cx (q := 30) 0 rfl rfl dX2_bind_29 rfl ?_
    refine mw_dup cx (q := 31) dX2_bind_30 rfl rfl ?_
    refine mw_get cx (q := 34) (v := .int ((M 2) 0 0 2)) gf_X2_26 rfl (by rw [em3, em2]; rfl) vi_2_0 dX2_bind_31 rfl ?_
    refine mw_iconst cx (q := 35) (v := 1) dX2_bind_34 rfl rfl ?_
    refine mw_iadd cx (q := 36) dX2_bind_35 rfl ?_
    refine mw_putC cx (q := 39) 2 gf_X2_26 pf_X2_2 (int_fit _) rfl (Nat.le_of_ble_eq_true rfl) rfl vi_2_0 (by decide) dX2_bind_36 rfl (fun m4 em4 => ?_)
    exact mw_vret cx hr rfl dX2_bind_39
def f2_unbindLatest (m : Cm) : Cm := if (m 0 0 2) ≤ (m 0 0 3) then m else bnd (u3 m 0 0 2 ((m 0 0 2) - 1)) (fun (m2 : Cm) => m2)
set_option maxHeartbeats 4000000 in
set_option maxRecDepth 100000 in
theorem mc_X2_unbindLatest (l : Launch) (D : va_G) (ta : wTa) (ad : wAd) (M : Wm) : MC l D ta ad yX2_unbindLatest cX2_unbindLatest 1 none 0 [.ref (ad 2 0 0)] M (fvc M 2 (f2_unbindLatest (M 2))) := by
  refine MC.of (fvc M 2) (f2_unbindLatest (M 2)) rfl (by decide) (Nat.le_of_ble_eq_true rfl) (fun p e s m args below meth c cx hr => ?_)
  unfold f2_unbindLatest
  refine mw_sub (lv' := [(0, .ref (ad 2 0 0))]) [0] rfl ?_
  refine mw_eqM (uW_self M 2) ?_
  refine mw_aload_n cx (q := 1) 0 rfl rfl dX2_unbindLatest_0 rfl ?_
  refine mw_get cx (q := 4) (v := .int ((M 2) 0 0 2)) gf_X2_26 rfl rfl vi_2_0 dX2_unbindLatest_1 rfl ?_
  refine mw_aload_n cx (q := 5) 0 rfl rfl dX2_unbindLatest_4 rfl ?_
  refine mw_get cx (q := 8) (v := .int ((M 2) 0 0 3)) gf_X2_30 rfl rfl vi_2_0 dX2_unbindLatest_5 rfl ?_
  refine mw_icmp_le cx (tgt := 21) (q := 11) dX2_unbindLatest_8 (by decide) rfl (fun h1 => ?_) (fun h1 => ?_)
  · exact mw_vret cx hr rfl dX2_unbindLatest_21
  · refine mw_aload_n cx (q := 12) 0 rfl rfl dX2_unbindLatest_11 rfl ?_
    refine mw_dup cx (q := 13) dX2_unbindLatest_12 rfl rfl ?_
    refine mw_get cx (q := 16) (v := .int ((M 2) 0 0 2)) gf_X2_26 rfl rfl vi_2_0 dX2_unbindLatest_13 rfl ?_
    refine mw_iconst cx (q := 17) (v := 1) dX2_unbindLatest_16 rfl rfl ?_
    refine mw_isub cx (q := 18) dX2_unbindLatest_17 rfl ?_
    refine mw_putC cx (q := 21) 2 gf_X2_26 pf_X2_2 (int_fit _) rfl (Nat.le_of_ble_eq_true rfl) rfl vi_2_0 (by decide) dX2_unbindLatest_18 rfl (fun m2 em2 => ?_)
    exact mw_vret cx hr rfl dX2_unbindLatest_21
def f2_enter (m : Cm) : (Int32 × Cm) := bnd ((m 0 0 3)) (fun (v1 : Int32) => bnd (u3 m 0 0 3 (m 0 0 2)) (fun (m2 : Cm) => (v1, m2)))
set_option maxHeartbeats 4000000 in
set_option maxRecDepth 100000 in
theorem mc_X2_enter (l : Launch) (D : va_G) (ta : wTa) (ad : wAd) (M : Wm) : MC l D ta ad yX2_enter cX2_enter 2 (some .int) 0 [.ref (ad 2 0 0)] M (fic M 2 (f2_enter (M 2))) := by
  refine MC.of (fic M 2) (f2_enter (M 2)) rfl (by decide) (Nat.le_of_ble_eq_true rfl) (fun p e s m args below meth c cx hr => ?_)
  unfold f2_enter
  refine mw_sub (lv' := [(0, .ref (ad 2 0 0))]) [0] rfl ?_
  refine mw_eqM (uW_self M 2) ?_
  refine mw_aload_n cx (q := 1) 0 rfl rfl dX2_enter_0 rfl ?_
  refine mw_get cx (q := 4) (v := .int ((M 2) 0 0 3)) gf_X2_30 rfl rfl vi_2_0 dX2_enter_1 rfl ?_
  refine mw_bndT (fun v1 ev1 => ?_)
  refine mw_istore_n cx (q := 5) (lv' := [(1, .int v1), (0, .ref (ad 2 0 0))]) rfl rfl (by decide) dX2_enter_4 rfl ?_
  refine mw_aload_n cx (q := 6) 1 rfl rfl dX2_enter_5 rfl ?_
  refine mw_aload_n cx (q := 7) 1 rfl rfl dX2_enter_6 rfl ?_
  refine mw_get cx (q := 10) (v := .int ((M 2) 0 0 2)) gf_X2_26 rfl rfl vi_2_0 dX2_enter_7 rfl ?_
  refine mw_putC cx (q := 13) 3 gf_X2_30 pf_X2_3 (int_fit _) rfl (Nat.le_of_ble_eq_true rfl) rfl vi_2_0 (by decide) dX2_enter_10 rfl (fun m2 em2 => ?_)
  refine mw_iload_n cx (q := 14) 0 rfl rfl dX2_enter_13 rfl ?_
  exact mw_iret cx hr rfl dX2_enter_14
def f2_leave (m : Cm) (p1 : Int32) : Cm := bnd (u3 m 0 0 2 (m 0 0 3)) (fun (m1 : Cm) => bnd (u3 m1 0 0 3 p1) (fun (m2 : Cm) => m2))
set_option maxHeartbeats 4000000 in
set_option maxRecDepth 100000 in
theorem mc_X2_leave (l : Launch) (D : va_G) (ta : wTa) (ad : wAd) (M : Wm) (p1 : Int32) : MC l D ta ad yX2_leave cX2_leave 2 none 0 [.ref (ad 2 0 0), .int p1] M (fvc M 2 (f2_leave (M 2) p1)) := by
  refine MC.of (fvc M 2) (f2_leave (M 2) p1) rfl (by decide) (Nat.le_of_ble_eq_true rfl) (fun p e s m args below meth c cx hr => ?_)
  unfold f2_leave
  refine mw_sub (lv' := [(0, .ref (ad 2 0 0)), (1, .int p1)]) [0, 1] rfl ?_
  refine mw_eqM (uW_self M 2) ?_
  refine mw_aload_n cx (q := 1) 0 rfl rfl dX2_leave_0 rfl ?_
  refine mw_aload_n cx (q := 2) 0 rfl rfl dX2_leave_1 rfl ?_
  refine mw_get cx (q := 5) (v := .int ((M 2) 0 0 3)) gf_X2_30 rfl rfl vi_2_0 dX2_leave_2 rfl ?_
  refine mw_putC cx (q := 8) 2 gf_X2_26 pf_X2_2 (int_fit _) rfl (Nat.le_of_ble_eq_true rfl) rfl vi_2_0 (by decide) dX2_leave_5 rfl (fun m1 em1 => ?_)
  refine mw_aload_n cx (q := 9) 0 rfl rfl dX2_leave_8 rfl ?_
  refine mw_iload_n cx (q := 10) 1 rfl rfl dX2_leave_9 rfl ?_
  refine mw_putC cx (q := 13) 3 gf_X2_30 pf_X2_3 (int_fit _) rfl (Nat.le_of_ble_eq_true rfl) rfl vi_2_0 (by decide) dX2_leave_10 rfl (fun m2 em2 => ?_)
  exact mw_vret cx hr rfl dX2_leave_13
def f2_find_lp7 (m : Cm) (p1 : Int32) : Nat → Int32 → Int32
  | 0, x2 => 0
  | n3 + 1, x2 => if x2 < (m 0 0 3) then (-1) else if x2 < 0 then (-1) else if (m 1 0 x2) = p1 then x2 else bnd (x2 + (-1)) (fun (v7 : Int32) => f2_find_lp7 m p1 n3 v7)
theorem f2_find_lp7_s (m : Cm) (p1 : Int32) (n3 : Nat) (x2 : Int32) : f2_find_lp7 m p1 (n3 + 1) x2 = if x2 < (m 0 0 3) then (-1) else if x2 < 0 then (-1) else if (m 1 0 x2) = p1 then x2 else bnd (x2 + (-1)) (fun (v7 : Int32) => f2_find_lp7 m p1 n3 v7) := rfl
def f2_find (m : Cm) (p1 : Int32) : Int32 := bnd (((m 0 0 2) - 1)) (fun (v1 : Int32) => f2_find_lp7 m p1 91 v1)
set_option maxHeartbeats 4000000 in
set_option maxRecDepth 100000 in
theorem mc_X2_find (l : Launch) (D : va_G) (ta : wTa) (ad : wAd) (M : Wm) (p1 : Int32) (hn0 : 0 ≤ ((M 2) 0 0 2).toInt) (hn1 : ((M 2) 0 0 2).toInt ≤ 90) : MC l D ta ad yX2_find cX2_find 3 (some .int) 0 [.ref (ad 2 0 0), .int p1] M (fip M (f2_find (M 2) p1)) := by
  refine MC.of (fip M) (f2_find (M 2) p1) rfl (by decide) (Nat.le_of_ble_eq_true rfl) (fun p e s m args below meth c cx hr => ?_)
  unfold f2_find
  refine mw_sub (lv' := [(0, .ref (ad 2 0 0)), (1, .int p1)]) [0, 1] rfl ?_
  refine mw_aload_n cx (q := 1) 0 rfl rfl dX2_find_0 rfl ?_
  refine mw_get cx (q := 4) (v := .int ((M 2) 0 0 2)) gf_X2_26 rfl rfl vi_2_0 dX2_find_1 rfl ?_
  refine mw_iconst cx (q := 5) (v := 1) dX2_find_4 rfl rfl ?_
  refine mw_isub cx (q := 6) dX2_find_5 rfl ?_
  refine mw_bndT (fun v1 ev1 => ?_)
  refine mw_istore_n cx (q := 7) (lv' := [(2, .int v1), (0, .ref (ad 2 0 0)), (1, .int p1)]) rfl rfl (by decide) dX2_find_6 rfl ?_
  refine mw_loop (F := f2_find_lp7 (M 2) p1) (I := fun (x2 : Int32) => (-1 ≤ (x2).toInt) ∧ ((x2).toInt < 90)) (μ := fun (x2 : Int32) => ((x2).toInt + 1).toNat) (Mx := fun (x2 : Int32) => M) (px := 7) (lx := fun (x2 : Int32) => [(2, .int x2), (0, .ref (ad 2 0 0)), (1, .int p1)]) (fun n3 x2 ivx2 ih => ?_) 91 v1 ⟨(by simp only [vp_in_iff, i32lt, i32le, i32eq, i32add, i32sub, i32mul, i32neg, t32_0, t32_1, t32_2, t32_90] at ev1 hn0 hn1 ⊢; omega), (by simp only [vp_in_iff, i32lt, i32le, i32eq, i32add, i32sub, i32mul, i32neg, t32_0, t32_1, t32_2, t32_90] at ev1 hn0 hn1 ⊢; omega)⟩ (by simp only [vp_in_iff, i32lt, i32le, i32eq, i32add, i32sub, i32mul, i32neg, t32_0, t32_1, t32_2, t32_90] at ev1 hn0 hn1 ⊢; omega)
  obtain ⟨ivx2_0, ivx2_1⟩ := ivx2
  refine mw_eqS (f2_find_lp7_s (M 2) p1 n3 x2) ?_
  refine mw_iload_n cx (q := 8) 0 rfl rfl dX2_find_7 rfl ?_
  refine mw_aload_n cx (q := 9) 1 rfl rfl dX2_find_8 rfl ?_
  refine mw_get cx (q := 12) (v := .int ((M 2) 0 0 3)) gf_X2_30 rfl rfl vi_2_0 dX2_find_9 rfl ?_
  refine mw_icmp_lt cx (tgt := 37) (q := 15) dX2_find_12 (by decide) rfl (fun h4 => ?_) (fun h4 => ?_)
  · refine mw_iconst cx (q := 38) (v := (-1)) dX2_find_37 rfl rfl ?_
    exact mw_iret cx hr rfl dX2_find_38
  · refine mw_iload_n cx (q := 16) 0 rfl rfl dX2_find_15 rfl ?_
    refine mw_if_lt cx (tgt := 37) (q := 19) dX2_find_16 (by decide) rfl (fun h5 => ?_) (fun h5 => ?_)
    · refine mw_iconst cx (q := 38) (v := (-1)) dX2_find_37 rfl rfl ?_
      exact mw_iret cx hr rfl dX2_find_38
    · refine mw_aload_n cx (q := 20) 1 rfl rfl dX2_find_19 rfl ?_
      refine mw_get cx (q := 23) (v := .ref (ad 2 1 0)) gf_X2_13 rfl rfl vi_2_0 dX2_find_20 rfl ?_
      refine mw_iload_n cx (q := 24) 0 rfl rfl dX2_find_23 rfl ?_
      refine mw_iald cx (q := 25) (w := ((M 2) 1 0 x2)) rfl (fun _ => rfl) vi_2_1 (by simp only [vp_in_iff, i32lt, i32le, i32eq, i32add, i32sub, i32mul, i32neg, t32_0, t32_1, t32_3, t32_90] at ivx2_0 ivx2_1 h4 h5 ⊢; omega) dX2_find_24 rfl ?_
      refine mw_iload_n cx (q := 26) 2 rfl rfl dX2_find_25 rfl ?_
      refine mw_icmp_ne cx (tgt := 31) (q := 29) dX2_find_26 (by decide) rfl (fun h6 => ?_) (fun h6 => ?_)
      · refine mw_bnd (fun v7 ev7 => ?_)
        refine mw_iinc cx (q := 34) (v := v7) (lv' := [(2, .int v7), (0, .ref (ad 2 0 0)), (1, .int p1)]) 0 rfl (by rw [ev7]; rfl) rfl (by decide) dX2_find_31 rfl ?_
        refine mw_goto cx (tgt := 7) dX2_find_34 (by decide) ?_
        exact ih v7 ⟨(by simp only [vp_in_iff, i32lt, i32le, i32eq, i32add, i32sub, i32mul, i32neg, t32_0, t32_1, t32_3, t32_90] at ev7 ivx2_0 ivx2_1 h4 h5 h6 ⊢; omega), (by simp only [vp_in_iff, i32lt, i32le, i32eq, i32add, i32sub, i32mul, i32neg, t32_0, t32_1, t32_3, t32_90] at ev7 ivx2_0 ivx2_1 h4 h5 h6 ⊢; omega)⟩ (by simp only [vp_in_iff, i32lt, i32le, i32eq, i32add, i32sub, i32mul, i32neg, t32_0, t32_1, t32_3, t32_90] at ivx2_0 ivx2_1 h4 h5 h6 ev7 ⊢; omega)
      · refine mw_iload_n cx (q := 30) 0 rfl rfl dX2_find_29 rfl ?_
        exact mw_iret cx hr rfl dX2_find_30
def f2_valueAt (m : Cm) (p1 : Int32) : Int32 := bnd (f11_isIn p1 0 ((m 0 0 2) - 1)) (fun (r1 : Bool) => if r1 = true then (m 2 0 p1) else 0)
set_option maxHeartbeats 4000000 in
set_option maxRecDepth 100000 in
theorem mc_X2_valueAt (l : Launch) (D : va_G) (ta : wTa) (ad : wAd) (M : Wm) (p1 : Int32) (hn0 : 0 ≤ ((M 2) 0 0 2).toInt) (hn1 : ((M 2) 0 0 2).toInt ≤ 90) : MC l D ta ad yX2_valueAt cX2_valueAt 2 (some .int) 1 [.ref (ad 2 0 0), .int p1] M (fip M (f2_valueAt (M 2) p1)) := by
  refine MC.of (fip M) (f2_valueAt (M 2) p1) rfl (by decide) (Nat.le_of_ble_eq_true rfl) (fun p e s m args below meth c cx hr => ?_)
  unfold f2_valueAt
  refine mw_sub (lv' := [(0, .ref (ad 2 0 0)), (1, .int p1)]) [0, 1] rfl ?_
  refine mw_iload_n cx (q := 1) 1 rfl rfl dX2_valueAt_0 rfl ?_
  refine mw_iconst cx (q := 2) (v := 0) dX2_valueAt_1 rfl rfl ?_
  refine mw_aload_n cx (q := 3) 0 rfl rfl dX2_valueAt_2 rfl ?_
  refine mw_get cx (q := 6) (v := .int ((M 2) 0 0 2)) gf_X2_26 rfl rfl vi_2_0 dX2_valueAt_3 rfl ?_
  refine mw_iconst cx (q := 7) (v := 1) dX2_valueAt_6 rfl rfl ?_
  refine mw_isub cx (q := 8) dX2_valueAt_7 rfl ?_
  refine mw_bnd (fun r1 er1 => ?_)
  refine mw_callSN cx (q := 11) (d := 0) (As := [.int p1, .int 0, .int (((M 2) 0 0 2) - 1)]) (z := fzp M r1) (st := []) (st1 := [.int (b2i r1)]) (M' := M) (by rw [er1]; exact mc_X11_isIn l D ta ad M p1 0 (((M 2) 0 0 2) - 1)) cv_X2_36 ⟨Nat.le_of_ble_eq_true rfl, Nat.le_of_ble_eq_true rfl⟩ ⟨Nat.le_refl _, Nat.le_refl _⟩ (by simp [Value.category]) rfl rfl rfl dX2_valueAt_8 rfl ?_
  refine mw_ifb_eq cx (tgt := 23) (q := 14) dX2_valueAt_11 (by decide) rfl (fun h2 => ?_) (fun h2 => ?_)
  · refine mw_iconst cx (q := 24) (v := 0) dX2_valueAt_23 rfl rfl ?_
    exact mw_iret cx hr rfl dX2_valueAt_24
  · refine mw_aload_n cx (q := 15) 0 rfl rfl dX2_valueAt_14 rfl ?_
    refine mw_get cx (q := 18) (v := .ref (ad 2 2 0)) gf_X2_17 rfl rfl vi_2_0 dX2_valueAt_15 rfl ?_
    refine mw_iload_n cx (q := 19) 1 rfl rfl dX2_valueAt_18 rfl ?_
    refine mw_iald cx (q := 20) (w := ((M 2) 2 0 p1)) rfl (fun _ => rfl) vi_2_2 (isIn_in (er1.symm.trans h2) (by simp only [vp_in_iff, i32lt, i32le, i32eq, i32add, i32sub, i32mul, i32neg, t32_0, t32_1, t32_2, t32_90] at hn0 hn1 ⊢; omega)) dX2_valueAt_19 rfl ?_
    refine mw_goto cx (tgt := 24) dX2_valueAt_20 (by decide) ?_
    exact mw_iret cx hr rfl dX2_valueAt_24
def f2_setAt (m : Cm) (p1 : Int32) (p2 : Int32) : Cm := bnd (f11_isIn p1 0 ((m 0 0 2) - 1)) (fun (r1 : Bool) => if r1 = true then bnd (u3 m 2 0 p1 p2) (fun (m3 : Cm) => m3) else m)
set_option maxHeartbeats 4000000 in
set_option maxRecDepth 100000 in
theorem mc_X2_setAt (l : Launch) (D : va_G) (ta : wTa) (ad : wAd) (M : Wm) (p1 : Int32) (p2 : Int32) (hn0 : 0 ≤ ((M 2) 0 0 2).toInt) (hn1 : ((M 2) 0 0 2).toInt ≤ 90) : MC l D ta ad yX2_setAt cX2_setAt 3 none 1 [.ref (ad 2 0 0), .int p1, .int p2] M (fvc M 2 (f2_setAt (M 2) p1 p2)) := by
  refine MC.of (fvc M 2) (f2_setAt (M 2) p1 p2) rfl (by decide) (Nat.le_of_ble_eq_true rfl) (fun p e s m args below meth c cx hr => ?_)
  unfold f2_setAt
  refine mw_sub (lv' := [(0, .ref (ad 2 0 0)), (1, .int p1), (2, .int p2)]) [0, 1, 2] rfl ?_
  refine mw_eqM (uW_self M 2) ?_
  refine mw_iload_n cx (q := 1) 1 rfl rfl dX2_setAt_0 rfl ?_
  refine mw_iconst cx (q := 2) (v := 0) dX2_setAt_1 rfl rfl ?_
  refine mw_aload_n cx (q := 3) 0 rfl rfl dX2_setAt_2 rfl ?_
  refine mw_get cx (q := 6) (v := .int ((M 2) 0 0 2)) gf_X2_26 rfl rfl vi_2_0 dX2_setAt_3 rfl ?_
  refine mw_iconst cx (q := 7) (v := 1) dX2_setAt_6 rfl rfl ?_
  refine mw_isub cx (q := 8) dX2_setAt_7 rfl ?_
  refine mw_bnd (fun r1 er1 => ?_)
  refine mw_callSN cx (q := 11) (d := 0) (As := [.int p1, .int 0, .int (((M 2) 0 0 2) - 1)]) (z := fzp (uW M 2 (M 2)) r1) (st := []) (st1 := [.int (b2i r1)]) (M' := (uW M 2 (M 2))) (by rw [er1]; exact mc_X11_isIn l D ta ad (uW M 2 (M 2)) p1 0 (((M 2) 0 0 2) - 1)) cv_X2_36 ⟨Nat.le_of_ble_eq_true rfl, Nat.le_of_ble_eq_true rfl⟩ ⟨Nat.le_refl _, Nat.le_refl _⟩ (by simp [Value.category]) rfl rfl rfl dX2_setAt_8 rfl ?_
  refine mw_ifb_eq cx (tgt := 21) (q := 14) dX2_setAt_11 (by decide) rfl (fun h2 => ?_) (fun h2 => ?_)
  · exact mw_vret cx hr rfl dX2_setAt_21
  · refine mw_aload_n cx (q := 15) 0 rfl rfl dX2_setAt_14 rfl ?_
    refine mw_get cx (q := 18) (v := .ref (ad 2 2 0)) gf_X2_17 rfl rfl vi_2_0 dX2_setAt_15 rfl ?_
    refine mw_iload_n cx (q := 19) 1 rfl rfl dX2_setAt_18 rfl ?_
    refine mw_iload_n cx (q := 20) 2 rfl rfl dX2_setAt_19 rfl ?_
    refine mw_iastC cx (q := 21) (fun _ => rfl) (by decide) vi_2_2 (isIn_in (er1.symm.trans h2) (by simp only [vp_in_iff, i32lt, i32le, i32eq, i32add, i32sub, i32mul, i32neg, t32_0, t32_1, t32_2, t32_90] at hn0 hn1 ⊢; omega)) (by decide) dX2_setAt_20 rfl (fun m3 em3 => ?_)
    exact mw_vret cx hr rfl dX2_setAt_21
def f2_definitionOf_lp2 (m : Cm) (p1 : Int32) : Nat → Int32 → Int32
  | 0, x1 => 0
  | n2 + 1, x1 => if (m 0 0 6) ≤ x1 then (-1) else if (m 5 0 x1) = p1 then (m 6 0 x1) else bnd (x1 + 1) (fun (v5 : Int32) => f2_definitionOf_lp2 m p1 n2 v5)
theorem f2_definitionOf_lp2_s (m : Cm) (p1 : Int32) (n2 : Nat) (x1 : Int32) : f2_definitionOf_lp2 m p1 (n2 + 1) x1 = if (m 0 0 6) ≤ x1 then (-1) else if (m 5 0 x1) = p1 then (m 6 0 x1) else bnd (x1 + 1) (fun (v5 : Int32) => f2_definitionOf_lp2 m p1 n2 v5) := rfl
def f2_definitionOf (m : Cm) (p1 : Int32) : Int32 := f2_definitionOf_lp2 m p1 9 0
set_option maxHeartbeats 4000000 in
set_option maxRecDepth 100000 in
theorem mc_X2_definitionOf (l : Launch) (D : va_G) (ta : wTa) (ad : wAd) (M : Wm) (p1 : Int32) (hf0 : 0 ≤ ((M 2) 0 0 6).toInt) (hf1 : ((M 2) 0 0 6).toInt ≤ 8) : MC l D ta ad yX2_definitionOf cX2_definitionOf 3 (some .int) 0 [.ref (ad 2 0 0), .int p1] M (fip M (f2_definitionOf (M 2) p1)) := by
  refine MC.of (fip M) (f2_definitionOf (M 2) p1) rfl (by decide) (Nat.le_of_ble_eq_true rfl) (fun p e s m args below meth c cx hr => ?_)
  unfold f2_definitionOf
  refine mw_sub (lv' := [(0, .ref (ad 2 0 0)), (1, .int p1)]) [0, 1] rfl ?_
  refine mw_iconst cx (q := 1) (v := 0) dX2_definitionOf_0 rfl rfl ?_
  refine mw_istore_n cx (q := 2) (lv' := [(2, .int 0), (0, .ref (ad 2 0 0)), (1, .int p1)]) rfl rfl (by decide) dX2_definitionOf_1 rfl ?_
  refine mw_loop (F := f2_definitionOf_lp2 (M 2) p1) (I := fun (x1 : Int32) => (0 ≤ (x1).toInt) ∧ ((x1).toInt ≤ 8)) (μ := fun (x1 : Int32) => (8 - (x1).toInt).toNat) (Mx := fun (x1 : Int32) => M) (px := 2) (lx := fun (x1 : Int32) => [(2, .int x1), (0, .ref (ad 2 0 0)), (1, .int p1)]) (fun n2 x1 ivx1 ih => ?_) 9 0 ⟨(by simp only [vp_in_iff, i32lt, i32le, i32eq, i32add, i32sub, i32mul, i32neg, t32_0]; omega), (by simp only [vp_in_iff, i32lt, i32le, i32eq, i32add, i32sub, i32mul, i32neg, t32_0, t32_8]; omega)⟩ (by simp only [vp_in_iff, i32lt, i32le, i32eq, i32add, i32sub, i32mul, i32neg, t32_0, t32_8, t32_9]; omega)
  obtain ⟨ivx1_0, ivx1_1⟩ := ivx1
  refine mw_eqS (f2_definitionOf_lp2_s (M 2) p1 n2 x1) ?_
  refine mw_iload_n cx (q := 3) 0 rfl rfl dX2_definitionOf_2 rfl ?_
  refine mw_aload_n cx (q := 4) 1 rfl rfl dX2_definitionOf_3 rfl ?_
  refine mw_get cx (q := 7) (v := .int ((M 2) 0 0 6)) gf_X2_33 rfl rfl vi_2_0 dX2_definitionOf_4 rfl ?_
  refine mw_icmp_ge cx (tgt := 33) (q := 10) dX2_definitionOf_7 (by decide) rfl (fun h3 => ?_) (fun h3 => ?_)
  · refine mw_iconst cx (q := 34) (v := (-1)) dX2_definitionOf_33 rfl rfl ?_
    exact mw_iret cx hr rfl dX2_definitionOf_34
  · refine mw_aload_n cx (q := 11) 1 rfl rfl dX2_definitionOf_10 rfl ?_
    refine mw_get cx (q := 14) (v := .ref (ad 2 5 0)) gf_X2_20 rfl rfl vi_2_0 dX2_definitionOf_11 rfl ?_
    refine mw_iload_n cx (q := 15) 0 rfl rfl dX2_definitionOf_14 rfl ?_
    refine mw_iald cx (q := 16) (w := ((M 2) 5 0 x1)) rfl (fun _ => rfl) vi_2_5 (by simp only [vp_in_iff, i32lt, i32le, i32eq, i32add, i32sub, i32mul, i32neg, t32_0, t32_6, t32_8] at ivx1_0 ivx1_1 h3 hf0 hf1 ⊢; omega) dX2_definitionOf_15 rfl ?_
    refine mw_iload_n cx (q := 17) 2 rfl rfl dX2_definitionOf_16 rfl ?_
    refine mw_icmp_ne cx (tgt := 27) (q := 20) dX2_definitionOf_17 (by decide) rfl (fun h4 => ?_) (fun h4 => ?_)
    · refine mw_bnd (fun v5 ev5 => ?_)
      refine mw_iinc cx (q := 30) (v := v5) (lv' := [(2, .int v5), (0, .ref (ad 2 0 0)), (1, .int p1)]) 0 rfl (by rw [ev5]; rfl) rfl (by decide) dX2_definitionOf_27 rfl ?_
      refine mw_goto cx (tgt := 2) dX2_definitionOf_30 (by decide) ?_
      exact ih v5 ⟨(by simp only [vp_in_iff, i32lt, i32le, i32eq, i32add, i32sub, i32mul, i32neg, t32_0, t32_1, t32_5, t32_6, t32_8] at ev5 ivx1_0 ivx1_1 h3 h4 hf0 hf1 ⊢; omega), (by simp only [vp_in_iff, i32lt, i32le, i32eq, i32add, i32sub, i32mul, i32neg, t32_0, t32_1, t32_5, t32_6, t32_8] at ev5 ivx1_0 ivx1_1 h3 h4 hf0 hf1 ⊢; omega)⟩ (by simp only [vp_in_iff, i32lt, i32le, i32eq, i32add, i32sub, i32mul, i32neg, t32_0, t32_1, t32_5, t32_6, t32_8] at ivx1_0 ivx1_1 h3 h4 ev5 hf0 hf1 ⊢; omega)
    · refine mw_aload_n cx (q := 21) 1 rfl rfl dX2_definitionOf_20 rfl ?_
      refine mw_get cx (q := 24) (v := .ref (ad 2 6 0)) gf_X2_23 rfl rfl vi_2_0 dX2_definitionOf_21 rfl ?_
      refine mw_iload_n cx (q := 25) 0 rfl rfl dX2_definitionOf_24 rfl ?_
      refine mw_iald cx (q := 26) (w := ((M 2) 6 0 x1)) rfl (fun _ => rfl) vi_2_6 (by simp only [vp_in_iff, i32lt, i32le, i32eq, i32add, i32sub, i32mul, i32neg, t32_0, t32_5, t32_6, t32_8] at ivx1_0 ivx1_1 h3 h4 hf0 hf1 ⊢; omega) dX2_definitionOf_25 rfl ?_
      exact mw_iret cx hr rfl dX2_definitionOf_26
def f2_defines_lp2 (m : Cm) (p1 : Int32) (K2 : Int32 → (Bool × Cm)) : Nat → Int32 → (Bool × Cm)
  | 0, x1 => (false, m)
  | n3 + 1, x1 => if (m 0 0 6) ≤ x1 then K2 x1 else if (m 5 0 x1) = p1 then K2 x1 else bnd (x1 + 1) (fun (v6 : Int32) => f2_defines_lp2 m p1 K2 n3 v6)
theorem f2_defines_lp2_s (m : Cm) (p1 : Int32) (K2 : Int32 → (Bool × Cm)) (n3 : Nat) (x1 : Int32) : f2_defines_lp2 m p1 K2 (n3 + 1) x1 = if (m 0 0 6) ≤ x1 then K2 x1 else if (m 5 0 x1) = p1 then K2 x1 else bnd (x1 + 1) (fun (v6 : Int32) => f2_defines_lp2 m p1 K2 n3 v6) := rfl
def f2_defines (m : Cm) (p1 : Int32) (p2 : Int32) : (Bool × Cm) := jn (fun (y7 : Int32) => if y7 < 8 then bnd (u3 m 5 0 y7 p1) (fun (m9 : Cm) => bnd (u3 m9 6 0 y7 p2) (fun (m10 : Cm) => bnd (u3 m10 0 0 6 (mxI (m 0 0 6) (y7 + 1))) (fun (m11 : Cm) => (true, m11)))) else (false, m)) (fun K2 => f2_defines_lp2 m p1 K2 9 0)
set_option maxHeartbeats 4000000 in
set_option maxRecDepth 100000 in
theorem mc_X2_defines (l : Launch) (D : va_G) (ta : wTa) (ad : wAd) (M : Wm) (p1 : Int32) (p2 : Int32) (hf0 : 0 ≤ ((M 2) 0 0 6).toInt) (hf1 : ((M 2) 0 0 6).toInt ≤ 8) : MC l D ta ad yX2_defines cX2_defines 4 (some .boolean) 1 [.ref (ad 2 0 0), .int p1, .int p2] M (fzc M 2 (f2_defines (M 2) p1 p2)) := by
  refine MC.of (fzc M 2) (f2_defines (M 2) p1 p2) rfl (by decide) (Nat.le_of_ble_eq_true rfl) (fun p e s m args below meth c cx hr => ?_)
  unfold f2_defines
  refine mw_sub (lv' := [(0, .ref (ad 2 0 0)), (1, .int p1), (2, .int p2)]) [0, 1, 2] rfl ?_
  refine mw_eqM (uW_self M 2) ?_
  refine mw_iconst cx (q := 1) (v := 0) dX2_defines_0 rfl rfl ?_
  refine mw_istore_n cx (q := 2) (lv' := [(3, .int 0), (0, .ref (ad 2 0 0)), (1, .int p1), (2, .int p2)]) rfl rfl (by decide) dX2_defines_1 rfl ?_
  refine mw_jnP (P := fun (y7 : Int32) => (0 ≤ (y7).toInt) ∧ ((y7).toInt ≤ 8)) (Mj := fun (y7 : Int32) => (uW M 2 (M 2))) (pj := 26) (lj := fun (y7 : Int32) => [(3, .int y7), (0, .ref (ad 2 0 0)), (1, .int p1), (2, .int p2)]) (sj := fun (y7 : Int32) => []) (fun y7 jy7 => ?_) (fun K2 hK2 => ?_)
  · obtain ⟨jy7_0, jy7_1⟩ := jy7
    refine mw_iload_n cx (q := 27) 0 rfl rfl dX2_defines_26 rfl ?_
    refine mw_bipush cx (q := 29) (v := 8) dX2_defines_27 rfl rfl ?_
    refine mw_icmp_lt cx (tgt := 34) (q := 32) dX2_defines_29 (by decide) rfl (fun h8 => ?_) (fun h8 => ?_)
    · refine mw_aload_n cx (q := 35) 1 rfl rfl dX2_defines_34 rfl ?_
      refine mw_get cx (q := 38) (v := .ref (ad 2 5 0)) gf_X2_20 rfl rfl vi_2_0 dX2_defines_35 rfl ?_
      refine mw_iload_n cx (q := 39) 0 rfl rfl dX2_defines_38 rfl ?_
      refine mw_iload_n cx (q := 40) 2 rfl rfl dX2_defines_39 rfl ?_
      refine mw_iastC cx (q := 41) (fun _ => rfl) (by decide) vi_2_5 (by simp only [vp_in_iff, i32lt, i32le, i32eq, i32add, i32sub, i32mul, i32neg, t32_0, t32_8] at jy7_0 jy7_1 h8 ⊢; omega) (by decide) dX2_defines_40 rfl (fun m9 em9 => ?_)
      refine mw_aload_n cx (q := 42) 1 rfl rfl dX2_defines_41 rfl ?_
      refine mw_get cx (q := 45) (v := .ref (ad 2 6 0)) gf_X2_23 rfl rfl vi_2_0 dX2_defines_42 rfl ?_
      refine mw_iload_n cx (q := 46) 0 rfl rfl dX2_defines_45 rfl ?_
      refine mw_iload_n cx (q := 47) 3 rfl rfl dX2_defines_46 rfl ?_
      refine mw_iastC cx (q := 48) (fun _ => rfl) (by decide) vi_2_6 (by simp only [vp_in_iff, i32lt, i32le, i32eq, i32add, i32sub, i32mul, i32neg, t32_0, t32_8] at jy7_0 jy7_1 h8 ⊢; omega) (by decide) dX2_defines_47 rfl (fun m10 em10 => ?_)
      refine mw_aload_n cx (q := 49) 1 rfl rfl dX2_defines_48 rfl ?_
      refine mw_aload_n cx (q := 50) 1 rfl rfl dX2_defines_49 rfl ?_
      refine mw_get cx (q := 53) (v := .int ((M 2) 0 0 6)) gf_X2_33 rfl (by rw [em10, em9]; rfl) vi_2_0 dX2_defines_50 rfl ?_
      refine mw_iload_n cx (q := 54) 0 rfl rfl dX2_defines_53 rfl ?_
      refine mw_iconst cx (q := 55) (v := 1) dX2_defines_54 rfl rfl ?_
      refine mw_iadd cx (q := 56) dX2_defines_55 rfl ?_
      refine mw_max cx (q := 59) cm_X2_40 ⟨Nat.le_of_ble_eq_true rfl, Nat.le_of_ble_eq_true rfl⟩ ⟨Nat.le_refl _, Nat.le_refl _⟩ (by simp [Value.category]) dX2_defines_56 rfl ?_
      refine mw_putC cx (q := 62) 6 gf_X2_33 pf_X2_6 (int_fit _) rfl (Nat.le_of_ble_eq_true rfl) rfl vi_2_0 (by decide) dX2_defines_59 rfl (fun m11 em11 => ?_)
      refine mw_iconst cx (q := 63) (v := 1) dX2_defines_62 rfl rfl ?_
      exact mw_zret cx hr rfl rfl dX2_defines_63
    · refine mw_iconst cx (q := 33) (v := 0) dX2_defines_32 rfl rfl ?_
      exact mw_zret cx hr rfl rfl dX2_defines_33
  · refine mw_loop (F := f2_defines_lp2 (M 2) p1 K2) (I := fun (x1 : Int32) => (0 ≤ (x1).toInt) ∧ ((x1).toInt ≤ 8)) (μ := fun (x1 : Int32) => (8 - (x1).toInt).toNat) (Mx := fun (x1 : Int32) => (uW M 2 (M 2))) (px := 2) (lx := fun (x1 : Int32) => [(3, .int x1), (0, .ref (ad 2 0 0)), (1, .int p1), (2, .int p2)]) (fun n3 x1 ivx1 ih => ?_) 9 0 ⟨(by simp only [vp_in_iff, i32lt, i32le, i32eq, i32add, i32sub, i32mul, i32neg, t32_0]; omega), (by simp only [vp_in_iff, i32lt, i32le, i32eq, i32add, i32sub, i32mul, i32neg, t32_0, t32_8]; omega)⟩ (by simp only [vp_in_iff, i32lt, i32le, i32eq, i32add, i32sub, i32mul, i32neg, t32_0, t32_8, t32_9]; omega)
    obtain ⟨ivx1_0, ivx1_1⟩ := ivx1
    refine mw_eqS (f2_defines_lp2_s (M 2) p1 K2 n3 x1) ?_
    refine mw_iload_n cx (q := 3) 0 rfl rfl dX2_defines_2 rfl ?_
    refine mw_aload_n cx (q := 4) 1 rfl rfl dX2_defines_3 rfl ?_
    refine mw_get cx (q := 7) (v := .int ((M 2) 0 0 6)) gf_X2_33 rfl rfl vi_2_0 dX2_defines_4 rfl ?_
    refine mw_icmp_ge cx (tgt := 26) (q := 10) dX2_defines_7 (by decide) rfl (fun h4 => ?_) (fun h4 => ?_)
    · exact hK2 x1 ⟨ivx1_0, ivx1_1⟩
    · refine mw_aload_n cx (q := 11) 1 rfl rfl dX2_defines_10 rfl ?_
      refine mw_get cx (q := 14) (v := .ref (ad 2 5 0)) gf_X2_20 rfl rfl vi_2_0 dX2_defines_11 rfl ?_
      refine mw_iload_n cx (q := 15) 0 rfl rfl dX2_defines_14 rfl ?_
      refine mw_iald cx (q := 16) (w := ((M 2) 5 0 x1)) rfl (fun _ => rfl) vi_2_5 (by simp only [vp_in_iff, i32lt, i32le, i32eq, i32add, i32sub, i32mul, i32neg, t32_0, t32_6, t32_8] at ivx1_0 ivx1_1 h4 hf0 hf1 ⊢; omega) dX2_defines_15 rfl ?_
      refine mw_iload_n cx (q := 17) 2 rfl rfl dX2_defines_16 rfl ?_
      refine mw_icmp_eq cx (tgt := 26) (q := 20) dX2_defines_17 (by decide) rfl (fun h5 => ?_) (fun h5 => ?_)
      · exact hK2 x1 ⟨ivx1_0, ivx1_1⟩
      · refine mw_bnd (fun v6 ev6 => ?_)
        refine mw_iinc cx (q := 23) (v := v6) (lv' := [(3, .int v6), (0, .ref (ad 2 0 0)), (1, .int p1), (2, .int p2)]) 0 rfl (by rw [ev6]; rfl) rfl (by decide) dX2_defines_20 rfl ?_
        refine mw_goto cx (tgt := 2) dX2_defines_23 (by decide) ?_
        exact ih v6 ⟨(by simp only [vp_in_iff, i32lt, i32le, i32eq, i32add, i32sub, i32mul, i32neg, t32_0, t32_1, t32_5, t32_6, t32_8] at ev6 ivx1_0 ivx1_1 h4 h5 hf0 hf1 ⊢; omega), (by simp only [vp_in_iff, i32lt, i32le, i32eq, i32add, i32sub, i32mul, i32neg, t32_0, t32_1, t32_5, t32_6, t32_8] at ev6 ivx1_0 ivx1_1 h4 h5 hf0 hf1 ⊢; omega)⟩ (by simp only [vp_in_iff, i32lt, i32le, i32eq, i32add, i32sub, i32mul, i32neg, t32_0, t32_1, t32_5, t32_6, t32_8] at ivx1_0 ivx1_1 h4 h5 ev6 hf0 hf1 ⊢; omega)
