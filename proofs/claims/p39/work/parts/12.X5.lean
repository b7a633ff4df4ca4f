def f5_fuelOf (m : Cm) (p1 : Int32) : Int32 := (m 1 0 p1)
set_option maxHeartbeats 4000000 in
set_option maxRecDepth 100000 in
theorem mc_X5_fuelOf (l : Launch) (D : va_G) (ta : wTa) (ad : wAd) (M : Wm) (p1 : Int32) (hp1 : vp_in p1 4) : MC l D ta ad yX5_fuelOf cX5_fuelOf 2 (some .int) 0 [.ref (ad 5 0 0), .int p1] M (fip M (f5_fuelOf (M 5) p1)) := by
  refine MC.of (fip M) (f5_fuelOf (M 5) p1) rfl (by decide) (Nat.le_of_ble_eq_true rfl) (fun p e s m args below meth c cx hr => ?_)
  unfold f5_fuelOf
  refine mw_sub (lv' := [(0, .ref (ad 5 0 0)), (1, .int p1)]) [0, 1] rfl ?_
  refine mw_aload_n cx (q := 1) 0 rfl rfl dX5_fuelOf_0 rfl ?_
  refine mw_get cx (q := 4) (v := .ref (ad 5 1 0)) gf_X5_9 rfl rfl vi_5_0 dX5_fuelOf_1 rfl ?_
  refine mw_iload_n cx (q := 5) 1 rfl rfl dX5_fuelOf_4 rfl ?_
  refine mw_iald cx (q := 6) (w := ((M 5) 1 0 p1)) rfl (fun _ => rfl) vi_5_1 hp1 dX5_fuelOf_5 rfl ?_
  exact mw_iret cx hr rfl dX5_fuelOf_6
def f5_rationsOf (m : Cm) (p1 : Int32) : Int32 := (m 2 0 p1)
set_option maxHeartbeats 4000000 in
set_option maxRecDepth 100000 in
theorem mc_X5_rationsOf (l : Launch) (D : va_G) (ta : wTa) (ad : wAd) (M : Wm) (p1 : Int32) (hp1 : vp_in p1 4) : MC l D ta ad yX5_rationsOf cX5_rationsOf 2 (some .int) 0 [.ref (ad 5 0 0), .int p1] M (fip M (f5_rationsOf (M 5) p1)) := by
  refine MC.of (fip M) (f5_rationsOf (M 5) p1) rfl (by decide) (Nat.le_of_ble_eq_true rfl) (fun p e s m args below meth c cx hr => ?_)
  unfold f5_rationsOf
  refine mw_sub (lv' := [(0, .ref (ad 5 0 0)), (1, .int p1)]) [0, 1] rfl ?_
  refine mw_aload_n cx (q := 1) 0 rfl rfl dX5_rationsOf_0 rfl ?_
  refine mw_get cx (q := 4) (v := .ref (ad 5 2 0)) gf_X5_15 rfl rfl vi_5_0 dX5_rationsOf_1 rfl ?_
  refine mw_iload_n cx (q := 5) 1 rfl rfl dX5_rationsOf_4 rfl ?_
  refine mw_iald cx (q := 6) (w := ((M 5) 2 0 p1)) rfl (fun _ => rfl) vi_5_2 hp1 dX5_rationsOf_5 rfl ?_
  exact mw_iret cx hr rfl dX5_rationsOf_6
def f5_debtOf (m : Cm) (p1 : Int32) (p2 : Int32) : Int32 := (m 7 p1 p2)
set_option maxHeartbeats 4000000 in
set_option maxRecDepth 100000 in
theorem mc_X5_debtOf (l : Launch) (D : va_G) (ta : wTa) (ad : wAd) (M : Wm) (p1 : Int32) (p2 : Int32) (hp1 : vp_in p1 4) (hp2 : vp_in p2 4) : MC l D ta ad yX5_debtOf cX5_debtOf 3 (some .int) 0 [.ref (ad 5 0 0), .int p1, .int p2] M (fip M (f5_debtOf (M 5) p1 p2)) := by
  refine MC.of (fip M) (f5_debtOf (M 5) p1 p2) rfl (by decide) (Nat.le_of_ble_eq_true rfl) (fun p e s m args below meth c cx hr => ?_)
  unfold f5_debtOf
  refine mw_sub (lv' := [(0, .ref (ad 5 0 0)), (1, .int p1), (2, .int p2)]) [0, 1, 2] rfl ?_
  refine mw_aload_n cx (q := 1) 0 rfl rfl dX5_debtOf_0 rfl ?_
  refine mw_get cx (q := 4) (v := .ref (ad 5 4 0)) gf_X5_24 rfl rfl vi_5_0 dX5_debtOf_1 rfl ?_
  refine mw_iload_n cx (q := 5) 1 rfl rfl dX5_debtOf_4 rfl ?_
  refine mw_aald cx (q := 6) (fun _ => rfl) rfl rfl vi_5_4 hp1 dX5_debtOf_5 rfl ?_
  refine mw_iload_n cx (q := 7) 2 rfl rfl dX5_debtOf_6 rfl ?_
  refine mw_iald cx (q := 8) (w := ((M 5) 7 p1 p2)) rfl (fun _ => rfl) hp1 hp2 dX5_debtOf_7 rfl ?_
  exact mw_iret cx hr rfl dX5_debtOf_8
def f5_addRations (m : Cm) (p1 : Int32) (p2 : Int32) : (Int32 × Cm) := bnd (u3 m 2 0 p1 ((m 2 0 p1) + p2)) (fun (m1 : Cm) => ((m1 2 0 p1), m1))
set_option maxHeartbeats 4000000 in
set_option maxRecDepth 100000 in
theorem mc_X5_addRations (l : Launch) (D : va_G) (ta : wTa) (ad : wAd) (M : Wm) (p1 : Int32) (p2 : Int32) (hp1 : vp_in p1 4) : MC l D ta ad yX5_addRations cX5_addRations 3 (some .int) 0 [.ref (ad 5 0 0), .int p1, .int p2] M (fic M 5 (f5_addRations (M 5) p1 p2)) := by
  refine MC.of (fic M 5) (f5_addRations (M 5) p1 p2) rfl (by decide) (Nat.le_of_ble_eq_true rfl) (fun p e s m args below meth c cx hr => ?_)
  unfold f5_addRations
  refine mw_sub (lv' := [(0, .ref (ad 5 0 0)), (1, .int p1), (2, .int p2)]) [0, 1, 2] rfl ?_
  refine mw_eqM (uW_self M 5) ?_
  refine mw_aload_n cx (q := 1) 0 rfl rfl dX5_addRations_0 rfl ?_
  refine mw_get cx (q := 4) (v := .ref (ad 5 2 0)) gf_X5_15 rfl rfl vi_5_0 dX5_addRations_1 rfl ?_
  refine mw_iload_n cx (q := 5) 1 rfl rfl dX5_addRations_4 rfl ?_
  refine mw_dup2 cx (q := 6) dX5_addRations_5 rfl rfl rfl ?_
  refine mw_iald cx (q := 7) (w := ((M 5) 2 0 p1)) rfl (fun _ => rfl) vi_5_2 hp1 dX5_addRations_6 rfl ?_
  refine mw_iload_n cx (q := 8) 2 rfl rfl dX5_addRations_7 rfl ?_
  refine mw_iadd cx (q := 9) dX5_addRations_8 rfl ?_
  refine mw_iastC cx (q := 10) (fun _ => rfl) (by decide) vi_5_2 hp1 (by decide) dX5_addRations_9 rfl (fun m1 em1 => ?_)
  refine mw_aload_n cx (q := 11) 0 rfl rfl dX5_addRations_10 rfl ?_
  refine mw_get cx (q := 14) (v := .ref (ad 5 2 0)) gf_X5_15 rfl rfl vi_5_0 dX5_addRations_11 rfl ?_
  refine mw_iload_n cx (q := 15) 1 rfl rfl dX5_addRations_14 rfl ?_
  refine mw_iald cx (q := 16) (w := (m1 2 0 p1)) rfl (fun _ => rfl) vi_5_2 hp1 dX5_addRations_15 rfl ?_
  exact mw_iret cx hr rfl dX5_addRations_16
def f5_changeTariff (m : Cm) (p1 : Int32) : (Int32 × Cm) := bnd ((m 0 0 5)) (fun (v1 : Int32) => bnd (u3 m 0 0 5 p1) (fun (m2 : Cm) => (v1, m2)))
set_option maxHeartbeats 4000000 in
set_option maxRecDepth 100000 in
theorem mc_X5_changeTariff (l : Launch) (D : va_G) (ta : wTa) (ad : wAd) (M : Wm) (p1 : Int32) : MC l D ta ad yX5_changeTariff cX5_changeTariff 3 (some .int) 0 [.ref (ad 5 0 0), .int p1] M (fic M 5 (f5_changeTariff (M 5) p1)) := by
  refine MC.of (fic M 5) (f5_changeTariff (M 5) p1) rfl (by decide) (Nat.le_of_ble_eq_true rfl) (fun p e s m args below meth c cx hr => ?_)
  unfold f5_changeTariff
  refine mw_sub (lv' := [(0, .ref (ad 5 0 0)), (1, .int p1)]) [0, 1] rfl ?_
  refine mw_eqM (uW_self M 5) ?_
  refine mw_aload_n cx (q := 1) 0 rfl rfl dX5_changeTariff_0 rfl ?_
  refine mw_get cx (q := 4) (v := .int ((M 5) 0 0 5)) gf_X5_30 rfl rfl vi_5_0 dX5_changeTariff_1 rfl ?_
  refine mw_bndT (fun v1 ev1 => ?_)
  refine mw_istore_n cx (q := 5) (lv' := [(2, .int v1), (0, .ref (ad 5 0 0)), (1, .int p1)]) rfl rfl (by decide) dX5_changeTariff_4 rfl ?_
  refine mw_aload_n cx (q := 6) 1 rfl rfl dX5_changeTariff_5 rfl ?_
  refine mw_iload_n cx (q := 7) 2 rfl rfl dX5_changeTariff_6 rfl ?_
  refine mw_putC cx (q := 10) 5 gf_X5_30 pf_X5_5 (int_fit _) rfl (Nat.le_of_ble_eq_true rfl) rfl vi_5_0 (by decide) dX5_changeTariff_7 rfl (fun m2 em2 => ?_)
  refine mw_iload_n cx (q := 11) 0 rfl rfl dX5_changeTariff_10 rfl ?_
  exact mw_iret cx hr rfl dX5_changeTariff_11
def f5_changeBuying (m : Cm) (p1 : Int32) (p2 : Bool) : (Bool × Cm) := bnd ((m 3 0 p1)) (fun (v1 : Int32) => bnd (u3 m 3 0 p1 (b2i p2)) (fun (m2 : Cm) => (i2b v1, m2)))
set_option maxHeartbeats 4000000 in
set_option maxRecDepth 100000 in
theorem mc_X5_changeBuying (l : Launch) (D : va_G) (ta : wTa) (ad : wAd) (M : Wm) (p1 : Int32) (p2 : Bool) (hp1 : vp_in p1 4) (hb : (M 5) 3 0 p1 = 0 ∨ (M 5) 3 0 p1 = 1) : MC l D ta ad yX5_changeBuying cX5_changeBuying 4 (some .boolean) 0 [.ref (ad 5 0 0), .int p1, .int (b2i p2)] M (fzc M 5 (f5_changeBuying (M 5) p1 p2)) := by
  refine MC.of (fzc M 5) (f5_changeBuying (M 5) p1 p2) rfl (by decide) (Nat.le_of_ble_eq_true rfl) (fun p e s m args below meth c cx hr => ?_)
  unfold f5_changeBuying
  refine mw_sub (lv' := [(0, .ref (ad 5 0 0)), (1, .int p1), (2, .int (b2i p2))]) [0, 1, 2] rfl ?_
  refine mw_eqM (uW_self M 5) ?_
  refine mw_aload_n cx (q := 1) 0 rfl rfl dX5_changeBuying_0 rfl ?_
  refine mw_get cx (q := 4) (v := .ref (ad 5 3 0)) gf_X5_18 rfl rfl vi_5_0 dX5_changeBuying_1 rfl ?_
  refine mw_iload_n cx (q := 5) 1 rfl rfl dX5_changeBuying_4 rfl ?_
  refine mw_zald cx (q := 6) (w := ((M 5) 3 0 p1)) rfl (fun _ => rfl) vi_5_3 hp1 dX5_changeBuying_5 rfl ?_
  refine mw_bndT (fun v1 ev1 => ?_)
  refine mw_istore_n cx (q := 7) (lv' := [(3, .int v1), (0, .ref (ad 5 0 0)), (1, .int p1), (2, .int (b2i p2))]) rfl rfl (by decide) dX5_changeBuying_6 rfl ?_
  refine mw_aload_n cx (q := 8) 1 rfl rfl dX5_changeBuying_7 rfl ?_
  refine mw_get cx (q := 11) (v := .ref (ad 5 3 0)) gf_X5_18 rfl rfl vi_5_0 dX5_changeBuying_8 rfl ?_
  refine mw_iload_n cx (q := 12) 2 rfl rfl dX5_changeBuying_11 rfl ?_
  refine mw_iload_n cx (q := 13) 3 rfl rfl dX5_changeBuying_12 rfl ?_
  refine mw_zastC cx (q := 14) (fun _ => rfl) (by decide) vi_5_3 hp1 (by decide) (b2i_nar _) dX5_changeBuying_13 rfl (fun m2 em2 => ?_)
  refine mw_iload_n cx (q := 15) 0 rfl rfl dX5_changeBuying_14 rfl ?_
  exact mw_zretI cx hr (by simp only [vp_in_iff, i32lt, i32le, i32eq, i32add, i32sub, i32mul, i32neg, t32_0, t32_1, t32_3, t32_4] at ev1 hp1 hb ⊢; omega) rfl dX5_changeBuying_15
def f5_changeCredit (m : Cm) (p1 : Int32) (p2 : Int32) (p3 : Int32) : (Int32 × Cm) := bnd ((m 8 p2 p1)) (fun (v1 : Int32) => bnd (u3 m 8 p2 p1 p3) (fun (m2 : Cm) => (v1, m2)))
set_option maxHeartbeats 4000000 in
set_option maxRecDepth 100000 in
theorem mc_X5_changeCredit (l : Launch) (D : va_G) (ta : wTa) (ad : wAd) (M : Wm) (p1 : Int32) (p2 : Int32) (p3 : Int32) (hp1 : vp_in p1 4) (hp2 : vp_in p2 4) : MC l D ta ad yX5_changeCredit cX5_changeCredit 5 (some .int) 0 [.ref (ad 5 0 0), .int p1, .int p2, .int p3] M (fic M 5 (f5_changeCredit (M 5) p1 p2 p3)) := by
  refine MC.of (fic M 5) (f5_changeCredit (M 5) p1 p2 p3) rfl (by decide) (Nat.le_of_ble_eq_true rfl) (fun p e s m args below meth c cx hr => ?_)
  unfold f5_changeCredit
  refine mw_sub (lv' := [(0, .ref (ad 5 0 0)), (1, .int p1), (2, .int p2), (3, .int p3)]) [0, 1, 2, 3] rfl ?_
  refine mw_eqM (uW_self M 5) ?_
  refine mw_aload_n cx (q := 1) 0 rfl rfl dX5_changeCredit_0 rfl ?_
  refine mw_get cx (q := 4) (v := .ref (ad 5 5 0)) gf_X5_27 rfl rfl vi_5_0 dX5_changeCredit_1 rfl ?_
  refine mw_iload_n cx (q := 5) 2 rfl rfl dX5_changeCredit_4 rfl ?_
  refine mw_aald cx (q := 6) (fun _ => rfl) rfl rfl vi_5_5 hp2 dX5_changeCredit_5 rfl ?_
  refine mw_iload_n cx (q := 7) 1 rfl rfl dX5_changeCredit_6 rfl ?_
  refine mw_iald cx (q := 8) (w := ((M 5) 8 p2 p1)) rfl (fun _ => rfl) hp2 hp1 dX5_changeCredit_7 rfl ?_
  refine mw_bndT (fun v1 ev1 => ?_)
  refine mw_istore cx (q := 10) (lv' := [(4, .int v1), (0, .ref (ad 5 0 0)), (1, .int p1), (2, .int p2), (3, .int p3)]) rfl (by decide) dX5_changeCredit_8 rfl ?_
  refine mw_aload_n cx (q := 11) 1 rfl rfl dX5_changeCredit_10 rfl ?_
  refine mw_get cx (q := 14) (v := .ref (ad 5 5 0)) gf_X5_27 rfl rfl vi_5_0 dX5_changeCredit_11 rfl ?_
  refine mw_iload_n cx (q := 15) 3 rfl rfl dX5_changeCredit_14 rfl ?_
  refine mw_aald cx (q := 16) (fun _ => rfl) rfl rfl vi_5_5 hp2 dX5_changeCredit_15 rfl ?_
  refine mw_iload_n cx (q := 17) 2 rfl rfl dX5_changeCredit_16 rfl ?_
  refine mw_iload_n cx (q := 18) 4 rfl rfl dX5_changeCredit_17 rfl ?_
  refine mw_iastC cx (q := 19) (fun _ => rfl) (by decide) hp2 hp1 (by decide) dX5_changeCredit_18 rfl (fun m2 em2 => ?_)
  refine mw_iload cx (q := 21) 0 rfl dX5_changeCredit_19 rfl ?_
  exact mw_iret cx hr rfl dX5_changeCredit_21
def f5_payFromFuel (m : Cm) (p1 : Int32) (p2 : Int32) (p3 : Int32) : (Int32 × Cm) := bnd (u3 m 1 0 p1 ((m 1 0 p1) - p3)) (fun (m1 : Cm) => bnd (u3 m1 1 0 p2 ((m1 1 0 p2) + p3)) (fun (m2 : Cm) => bnd (u3 m2 7 p1 p2 ((m 7 p1 p2) - p3)) (fun (m3 : Cm) => ((m3 7 p1 p2), m3))))
set_option maxHeartbeats 4000000 in
set_option maxRecDepth 100000 in
theorem mc_X5_payFromFuel (l : Launch) (D : va_G) (ta : wTa) (ad : wAd) (M : Wm) (p1 : Int32) (p2 : Int32) (p3 : Int32) (hp1 : vp_in p1 4) (hp2 : vp_in p2 4) : MC l D ta ad yX5_payFromFuel cX5_payFromFuel 4 (some .int) 0 [.ref (ad 5 0 0), .int p1, .int p2, .int p3] M (fic M 5 (f5_payFromFuel (M 5) p1 p2 p3)) := by
  refine MC.of (fic M 5) (f5_payFromFuel (M 5) p1 p2 p3) rfl (by decide) (Nat.le_of_ble_eq_true rfl) (fun p e s m args below meth c cx hr => ?_)
  unfold f5_payFromFuel
  refine mw_sub (lv' := [(0, .ref (ad 5 0 0)), (1, .int p1), (2, .int p2), (3, .int p3)]) [0, 1, 2, 3] rfl ?_
  refine mw_eqM (uW_self M 5) ?_
  refine mw_aload_n cx (q := 1) 0 rfl rfl dX5_payFromFuel_0 rfl ?_
  refine mw_get cx (q := 4) (v := .ref (ad 5 1 0)) gf_X5_9 rfl rfl vi_5_0 dX5_payFromFuel_1 rfl ?_
  refine mw_iload_n cx (q := 5) 1 rfl rfl dX5_payFromFuel_4 rfl ?_
  refine mw_dup2 cx (q := 6) dX5_payFromFuel_5 rfl rfl rfl ?_
  refine mw_iald cx (q := 7) (w := ((M 5) 1 0 p1)) rfl (fun _ => rfl) vi_5_1 hp1 dX5_payFromFuel_6 rfl ?_
  refine mw_iload_n cx (q := 8) 3 rfl rfl dX5_payFromFuel_7 rfl ?_
  refine mw_isub cx (q := 9) dX5_payFromFuel_8 rfl ?_
  refine mw_iastC cx (q := 10) (fun _ => rfl) (by decide) vi_5_1 hp1 (by decide) dX5_payFromFuel_9 rfl (fun m1 em1 => ?_)
  refine mw_aload_n cx (q := 11) 0 rfl rfl dX5_payFromFuel_10 rfl ?_
  refine mw_get cx (q := 14) (v := .ref (ad 5 1 0)) gf_X5_9 rfl rfl vi_5_0 dX5_payFromFuel_11 rfl ?_
  refine mw_iload_n cx (q := 15) 2 rfl rfl dX5_payFromFuel_14 rfl ?_
  refine mw_dup2 cx (q := 16) dX5_payFromFuel_15 rfl rfl rfl ?_
  refine mw_iald cx (q := 17) (w := (m1 1 0 p2)) rfl (fun _ => rfl) vi_5_1 hp2 dX5_payFromFuel_16 rfl ?_
  refine mw_iload_n cx (q := 18) 3 rfl rfl dX5_payFromFuel_17 rfl ?_
  refine mw_iadd cx (q := 19) dX5_payFromFuel_18 rfl ?_
  refine mw_iastC cx (q := 20) (fun _ => rfl) (by decide) vi_5_1 hp2 (by decide) dX5_payFromFuel_19 rfl (fun m2 em2 => ?_)
  refine mw_aload_n cx (q := 21) 0 rfl rfl dX5_payFromFuel_20 rfl ?_
  refine mw_get cx (q := 24) (v := .ref (ad 5 4 0)) gf_X5_24 rfl rfl vi_5_0 dX5_payFromFuel_21 rfl ?_
  refine mw_iload_n cx (q := 25) 1 rfl rfl dX5_payFromFuel_24 rfl ?_
  refine mw_aald cx (q := 26) (fun _ => rfl) rfl rfl vi_5_4 hp1 dX5_payFromFuel_25 rfl ?_
  refine mw_iload_n cx (q := 27) 2 rfl rfl dX5_payFromFuel_26 rfl ?_
  refine mw_dup2 cx (q := 28) dX5_payFromFuel_27 rfl rfl rfl ?_
  refine mw_iald cx (q := 29) (w := ((M 5) 7 p1 p2)) (by rw [em2, em1]; rfl) (fun _ => rfl) hp1 hp2 dX5_payFromFuel_28 rfl ?_
  refine mw_iload_n cx (q := 30) 3 rfl rfl dX5_payFromFuel_29 rfl ?_
  refine mw_isub cx (q := 31) dX5_payFromFuel_30 rfl ?_
  refine mw_iastC cx (q := 32) (fun _ => rfl) (by decide) hp1 hp2 (by decide) dX5_payFromFuel_31 rfl (fun m3 em3 => ?_)
  refine mw_aload_n cx (q := 33) 0 rfl rfl dX5_payFromFuel_32 rfl ?_
  refine mw_get cx (q := 36) (v := .ref (ad 5 4 0)) gf_X5_24 rfl rfl vi_5_0 dX5_payFromFuel_33 rfl ?_
  refine mw_iload_n cx (q := 37) 1 rfl rfl dX5_payFromFuel_36 rfl ?_
  refine mw_aald cx (q := 38) (fun _ => rfl) rfl rfl vi_5_4 hp1 dX5_payFromFuel_37 rfl ?_
  refine mw_iload_n cx (q := 39) 2 rfl rfl dX5_payFromFuel_38 rfl ?_
  refine mw_iald cx (q := 40) (w := (m3 7 p1 p2)) rfl (fun _ => rfl) hp1 hp2 dX5_payFromFuel_39 rfl ?_
  exact mw_iret cx hr rfl dX5_payFromFuel_40
def f5_buyFuel_lp35 (p1 : Int32) (v1 : Int32) : Nat → (Int32 × Int32 × Cm) → (Int32 × Cm)
  | 0, x5 => (0, x5.2.2)
  | n6 + 1, x5 => if 4 ≤ x5.1 then (v1, x5.2.2) else bnd (f5_debtOf x5.2.2 p1 x5.1) (fun (r8 : Int32) => bnd ((mnI x5.2.1 r8)) (fun (v9 : Int32) => bnd (f5_payFromFuel x5.2.2 p1 x5.1 v9) (fun (r10 : Int32 × Cm) => bnd ((x5.2.1 - v9)) (fun (v11 : Int32) => bnd (x5.1 + 1) (fun (v12 : Int32) => f5_buyFuel_lp35 p1 v1 n6 (v12, v11, r10.2))))))
theorem f5_buyFuel_lp35_s (p1 : Int32) (v1 : Int32) (n6 : Nat) (x5 : Int32 × Int32 × Cm) : f5_buyFuel_lp35 p1 v1 (n6 + 1) x5 = if 4 ≤ x5.1 then (v1, x5.2.2) else bnd (f5_debtOf x5.2.2 p1 x5.1) (fun (r8 : Int32) => bnd ((mnI x5.2.1 r8)) (fun (v9 : Int32) => bnd (f5_payFromFuel x5.2.2 p1 x5.1 v9) (fun (r10 : Int32 × Cm) => bnd ((x5.2.1 - v9)) (fun (v11 : Int32) => bnd (x5.1 + 1) (fun (v12 : Int32) => f5_buyFuel_lp35 p1 v1 n6 (v12, v11, r10.2)))))) := rfl
def f5_buyFuel (m : Cm) (p1 : Int32) (p2 : Int32) : (Int32 × Cm) := bnd ((p2 * (m 0 0 5))) (fun (v1 : Int32) => bnd (u3 m 2 0 p1 ((m 2 0 p1) - p2)) (fun (m2 : Cm) => bnd (u3 m2 1 0 p1 ((m 1 0 p1) + v1)) (fun (m3 : Cm) => bnd ((v1 / 2)) (fun (v4 : Int32) => f5_buyFuel_lp35 p1 v1 5 (0, v4, m3)))))
set_option maxHeartbeats 4000000 in
set_option maxRecDepth 100000 in
theorem mc_X5_buyFuel (l : Launch) (D : va_G) (ta : wTa) (ad : wAd) (M : Wm) (p1 : Int32) (p2 : Int32) (hp1 : vp_in p1 4) : MC l D ta ad yX5_buyFuel cX5_buyFuel 7 (some .int) 1 [.ref (ad 5 0 0), .int p1, .int p2] M (fic M 5 (f5_buyFuel (M 5) p1 p2)) := by
  refine MC.of (fic M 5) (f5_buyFuel (M 5) p1 p2) rfl (by decide) (Nat.le_of_ble_eq_true rfl) (fun p e s m args below meth c cx hr => ?_)
  unfold f5_buyFuel
  refine mw_sub (lv' := [(0, .ref (ad 5 0 0)), (1, .int p1), (2, .int p2)]) [0, 1, 2] rfl ?_
  refine mw_eqM (uW_self M 5) ?_
  refine mw_iload_n cx (q := 1) 2 rfl rfl dX5_buyFuel_0 rfl ?_
  refine mw_aload_n cx (q := 2) 0 rfl rfl dX5_buyFuel_1 rfl ?_
  refine mw_get cx (q := 5) (v := .int ((M 5) 0 0 5)) gf_X5_30 rfl rfl vi_5_0 dX5_buyFuel_2 rfl ?_
  refine mw_imul cx (q := 6) dX5_buyFuel_5 rfl ?_
  refine mw_bndT (fun v1 ev1 => ?_)
  refine mw_istore_n cx (q := 7) (lv' := [(3, .int v1), (0, .ref (ad 5 0 0)), (1, .int p1), (2, .int p2)]) rfl rfl (by decide) dX5_buyFuel_6 rfl ?_
  refine mw_aload_n cx (q := 8) 1 rfl rfl dX5_buyFuel_7 rfl ?_
  refine mw_get cx (q := 11) (v := .ref (ad 5 2 0)) gf_X5_15 rfl rfl vi_5_0 dX5_buyFuel_8 rfl ?_
  refine mw_iload_n cx (q := 12) 2 rfl rfl dX5_buyFuel_11 rfl ?_
  refine mw_dup2 cx (q := 13) dX5_buyFuel_12 rfl rfl rfl ?_
  refine mw_iald cx (q := 14) (w := ((M 5) 2 0 p1)) rfl (fun _ => rfl) vi_5_2 hp1 dX5_buyFuel_13 rfl ?_
  refine mw_iload_n cx (q := 15) 3 rfl rfl dX5_buyFuel_14 rfl ?_
  refine mw_isub cx (q := 16) dX5_buyFuel_15 rfl ?_
  refine mw_iastC cx (q := 17) (fun _ => rfl) (by decide) vi_5_2 hp1 (by decide) dX5_buyFuel_16 rfl (fun m2 em2 => ?_)
  refine mw_aload_n cx (q := 18) 1 rfl rfl dX5_buyFuel_17 rfl ?_
  refine mw_get cx (q := 21) (v := .ref (ad 5 1 0)) gf_X5_9 rfl rfl vi_5_0 dX5_buyFuel_18 rfl ?_
  refine mw_iload_n cx (q := 22) 2 rfl rfl dX5_buyFuel_21 rfl ?_
  refine mw_dup2 cx (q := 23) dX5_buyFuel_22 rfl rfl rfl ?_
  refine mw_iald cx (q := 24) (w := ((M 5) 1 0 p1)) (by rw [em2]; rfl) (fun _ => rfl) vi_5_1 hp1 dX5_buyFuel_23 rfl ?_
  refine mw_iload_n cx (q := 25) 0 rfl rfl dX5_buyFuel_24 rfl ?_
  refine mw_iadd cx (q := 26) dX5_buyFuel_25 rfl ?_
  refine mw_iastC cx (q := 27) (fun _ => rfl) (by decide) vi_5_1 hp1 (by decide) dX5_buyFuel_26 rfl (fun m3 em3 => ?_)
  refine mw_iload_n cx (q := 28) 0 rfl rfl dX5_buyFuel_27 rfl ?_
  refine mw_iconst cx (q := 29) (v := 2) dX5_buyFuel_28 rfl rfl ?_
  refine mw_idiv cx (q := 30) dX5_buyFuel_29 rfl (by decide) ?_
  refine mw_bndT (fun v4 ev4 => ?_)
  refine mw_istore cx (q := 32) (lv' := [(4, .int v4), (3, .int v1), (0, .ref (ad 5 0 0)), (1, .int p1), (2, .int p2)]) rfl (by decide) dX5_buyFuel_30 rfl ?_
  refine mw_iconst cx (q := 33) (v := 0) dX5_buyFuel_32 rfl rfl ?_
  refine mw_istore cx (q := 35) (lv' := [(5, .int 0), (4, .int v4), (3, .int v1), (0, .ref (ad 5 0 0)), (1, .int p1), (2, .int p2)]) rfl (by decide) dX5_buyFuel_33 rfl ?_
  refine mw_sub [0, 1, 2, 3, 4] rfl ?_
  refine mw_loop (F := f5_buyFuel_lp35 p1 v1) (I := fun (x5 : Int32 × Int32 × Cm) => 0 ≤ (x5.1).toInt) (μ := fun (x5 : Int32 × Int32 × Cm) => (4 - (x5.1).toInt).toNat) (Mx := fun (x5 : Int32 × Int32 × Cm) => (uW M 5 x5.2.2)) (px := 35) (lx := fun (x5 : Int32 × Int32 × Cm) => [(5, .int x5.1), (4, .int x5.2.1), (3, .int v1), (0, .ref (ad 5 0 0)), (1, .int p1)]) (fun n6 x5 ivx5 ih => ?_) 5 (0, v4, m3) (by simp only [vp_in_iff, i32lt, i32le, i32eq, i32add, i32sub, i32mul, i32neg, t32_0]; omega) (by simp only [vp_in_iff, i32lt, i32le, i32eq, i32add, i32sub, i32mul, i32neg, t32_0, t32_4, t32_5]; omega)
  have ivx5_0 := ivx5
  refine mw_eqS (f5_buyFuel_lp35_s p1 v1 n6 x5) ?_
  refine mw_iload cx (q := 37) 0 rfl dX5_buyFuel_35 rfl ?_
  refine mw_iconst cx (q := 38) (v := 4) dX5_buyFuel_37 rfl rfl ?_
  refine mw_icmp_ge cx (tgt := 78) (q := 41) dX5_buyFuel_38 (by decide) rfl (fun h7 => ?_) (fun h7 => ?_)
  · refine mw_iload_n cx (q := 79) 2 rfl rfl dX5_buyFuel_78 rfl ?_
    exact mw_iret cx hr rfl dX5_buyFuel_79
  · refine mw_iload cx (q := 43) 1 rfl dX5_buyFuel_41 rfl ?_
    refine mw_aload_n cx (q := 44) 3 rfl rfl dX5_buyFuel_43 rfl ?_
    refine mw_iload_n cx (q := 45) 4 rfl rfl dX5_buyFuel_44 rfl ?_
    refine mw_iload cx (q := 47) 0 rfl dX5_buyFuel_45 rfl ?_
    refine mw_bnd (fun r8 er8 => ?_)
    refine mw_callV cx (q := 50) (d := 0) (As := [.int p1, .int x5.1]) (z := fip (uW M 5 x5.2.2) r8) (st := [.int x5.2.1]) (st1 := [.int r8, .int x5.2.1]) (M' := (uW M 5 x5.2.2)) (by rw [er8]; exact mc_X5_debtOf l D ta ad (uW M 5 x5.2.2) p1 x5.1 hp1 (by simp only [vp_in_iff, i32lt, i32le, i32eq, i32add, i32sub, i32mul, i32neg, t32_0, t32_4] at ivx5_0 h7 ⊢; omega)) cv_X5_34 rfl rfl rfl vi_5_0 ⟨Nat.le_of_ble_eq_true rfl, Nat.le_of_ble_eq_true rfl⟩ ⟨Nat.le_refl _, Nat.le_refl _⟩ (by simp [Value.category]) rfl rfl rfl dX5_buyFuel_47 rfl ?_
    refine mw_min cx (q := 53) cm_X5_38 ⟨Nat.le_of_ble_eq_true rfl, Nat.le_of_ble_eq_true rfl⟩ ⟨Nat.le_refl _, Nat.le_refl _⟩ (by simp [Value.category]) dX5_buyFuel_50 rfl ?_
    refine mw_bndT (fun v9 ev9 => ?_)
    refine mw_istore cx (q := 55) (lv' := [(6, .int v9), (5, .int x5.1), (4, .int x5.2.1), (3, .int v1), (0, .ref (ad 5 0 0)), (1, .int p1)]) rfl (by decide) dX5_buyFuel_53 rfl ?_
    refine mw_aload_n cx (q := 56) 4 rfl rfl dX5_buyFuel_55 rfl ?_
    refine mw_iload_n cx (q := 57) 5 rfl rfl dX5_buyFuel_56 rfl ?_
    refine mw_iload cx (q := 59) 1 rfl dX5_buyFuel_57 rfl ?_
    refine mw_iload cx (q := 61) 0 rfl dX5_buyFuel_59 rfl ?_
    refine mw_bnd (fun r10 er10 => ?_)
    refine mw_callV cx (q := 64) (d := 0) (As := [.int p1, .int x5.1, .int v9]) (z := fic (uW M 5 x5.2.2) 5 r10) (st := []) (st1 := [.int r10.1]) (M' := uW M 5 r10.2) (by rw [er10]; exact mc_X5_payFromFuel l D ta ad (uW M 5 x5.2.2) p1 x5.1 v9 hp1 (by simp only [vp_in_iff, i32lt, i32le, i32eq, i32add, i32sub, i32mul, i32neg, t32_0, t32_4] at ivx5_0 h7 ⊢; omega)) cv_X5_43 rfl rfl rfl vi_5_0 ⟨Nat.le_of_ble_eq_true rfl, Nat.le_of_ble_eq_true rfl⟩ ⟨Nat.le_refl _, Nat.le_refl _⟩ (by simp [Value.category]) rfl rfl (by exact uW_uW _ _ _ _) dX5_buyFuel_61 rfl ?_
    refine mw_pop cx (q := 65) dX5_buyFuel_64 rfl rfl ?_
    refine mw_iload cx (q := 67) 2 rfl dX5_buyFuel_65 rfl ?_
    refine mw_iload cx (q := 69) 0 rfl dX5_buyFuel_67 rfl ?_
    refine mw_isub cx (q := 70) dX5_buyFuel_69 rfl ?_
    refine mw_bndT (fun v11 ev11 => ?_)
    refine mw_istore cx (q := 72) (lv' := [(4, .int v11), (6, .int v9), (5, .int x5.1), (3, .int v1), (0, .ref (ad 5 0 0)), (1, .int p1)]) rfl (by decide) dX5_buyFuel_70 rfl ?_
    refine mw_bnd (fun v12 ev12 => ?_)
    refine mw_iinc cx (q := 75) (v := v12) (lv' := [(5, .int v12), (4, .int v11), (6, .int v9), (3, .int v1), (0, .ref (ad 5 0 0)), (1, .int p1)]) 2 rfl (by rw [ev12]; rfl) rfl (by decide) dX5_buyFuel_72 rfl ?_
    refine mw_goto cx (tgt := 35) dX5_buyFuel_75 (by decide) ?_
    refine mw_sub [0, 1, 3, 4, 5] rfl ?_
    exact ih (v12, v11, r10.2) (by simp only [vp_in_iff, i32lt, i32le, i32eq, i32add, i32sub, i32mul, i32neg, t32_0, t32_1, t32_4] at ev12 ivx5_0 h7 ⊢; omega) (by simp only [vp_in_iff, i32lt, i32le, i32eq, i32add, i32sub, i32mul, i32neg, t32_0, t32_1, t32_4] at ivx5_0 h7 ev12 ⊢; omega)
def f5_borrowsOne_lp2 (m : Cm) (p1 : Int32) : Nat → Int32 → (Bool × Cm)
  | 0, x1 => (false, m)
  | n2 + 1, x1 => if 4 ≤ x1 then (false, m) else jn (fun (v4 : Bool) => if v4 = true then if (m 1 0 x1) ≤ 0 then bnd (x1 + 1) (fun (v11 : Int32) => f5_borrowsOne_lp2 m p1 n2 v11) else bnd (u3 m 1 0 x1 ((m 1 0 x1) - 1)) (fun (m12 : Cm) => bnd (u3 m12 7 p1 x1 ((m 7 p1 x1) + 1)) (fun (m13 : Cm) => (true, m13))) else bnd (x1 + 1) (fun (v9 : Int32) => f5_borrowsOne_lp2 m p1 n2 v9)) (fun K5 => if x1 = p1 then K5 false else if (m 8 p1 x1) ≤ (m 7 p1 x1) then K5 false else K5 true)
theorem f5_borrowsOne_lp2_s (m : Cm) (p1 : Int32) (n2 : Nat) (x1 : Int32) : f5_borrowsOne_lp2 m p1 (n2 + 1) x1 = if 4 ≤ x1 then (false, m) else jn (fun (v4 : Bool) => if v4 = true then if (m 1 0 x1) ≤ 0 then bnd (x1 + 1) (fun (v11 : Int32) => f5_borrowsOne_lp2 m p1 n2 v11) else bnd (u3 m 1 0 x1 ((m 1 0 x1) - 1)) (fun (m12 : Cm) => bnd (u3 m12 7 p1 x1 ((m 7 p1 x1) + 1)) (fun (m13 : Cm) => (true, m13))) else bnd (x1 + 1) (fun (v9 : Int32) => f5_borrowsOne_lp2 m p1 n2 v9)) (fun K5 => if x1 = p1 then K5 false else if (m 8 p1 x1) ≤ (m 7 p1 x1) then K5 false else K5 true) := rfl
def f5_borrowsOne (m : Cm) (p1 : Int32) : (Bool × Cm) := f5_borrowsOne_lp2 m p1 5 0
set_option maxHeartbeats 4000000 in
set_option maxRecDepth 100000 in
theorem mc_X5_borrowsOne (l : Launch) (D : va_G) (ta : wTa) (ad : wAd) (M : Wm) (p1 : Int32) (hp1 : vp_in p1 4) : MC l D ta ad yX5_borrowsOne cX5_borrowsOne 4 (some .boolean) 0 [.ref (ad 5 0 0), .int p1] M (fzc M 5 (f5_borrowsOne (M 5) p1)) := by
  refine MC.of (fzc M 5) (f5_borrowsOne (M 5) p1) rfl (by decide) (Nat.le_of_ble_eq_true rfl) (fun p e s m args below meth c cx hr => ?_)
  unfold f5_borrowsOne
  refine mw_sub (lv' := [(0, .ref (ad 5 0 0)), (1, .int p1)]) [0, 1] rfl ?_
  refine mw_eqM (uW_self M 5) ?_
  refine mw_iconst cx (q := 1) (v := 0) dX5_borrowsOne_0 rfl rfl ?_
  refine mw_istore_n cx (q := 2) (lv' := [(2, .int 0), (0, .ref (ad 5 0 0)), (1, .int p1)]) rfl rfl (by decide) dX5_borrowsOne_1 rfl ?_
  refine mw_loop (F := f5_borrowsOne_lp2 (M 5) p1) (I := fun (x1 : Int32) => 0 ≤ (x1).toInt) (μ := fun (x1 : Int32) => (4 - (x1).toInt).toNat) (Mx := fun (x1 : Int32) => (uW M 5 (M 5))) (px := 2) (lx := fun (x1 : Int32) => [(2, .int x1), (0, .ref (ad 5 0 0)), (1, .int p1)]) (fun n2 x1 ivx1 ih => ?_) 5 0 (by simp only [vp_in_iff, i32lt, i32le, i32eq, i32add, i32sub, i32mul, i32neg, t32_0]; omega) (by simp only [vp_in_iff, i32lt, i32le, i32eq, i32add, i32sub, i32mul, i32neg, t32_0, t32_4, t32_5]; omega)
  have ivx1_0 := ivx1
  refine mw_eqS (f5_borrowsOne_lp2_s (M 5) p1 n2 x1) ?_
  refine mw_iload_n cx (q := 3) 0 rfl rfl dX5_borrowsOne_2 rfl ?_
  refine mw_iconst cx (q := 4) (v := 4) dX5_borrowsOne_3 rfl rfl ?_
  refine mw_icmp_ge cx (tgt := 80) (q := 7) dX5_borrowsOne_4 (by decide) rfl (fun h3 => ?_) (fun h3 => ?_)
  · refine mw_iconst cx (q := 81) (v := 0) dX5_borrowsOne_80 rfl rfl ?_
    exact mw_zret cx hr rfl rfl dX5_borrowsOne_81
  · refine mw_iload_n cx (q := 8) 0 rfl rfl dX5_borrowsOne_7 rfl ?_
    refine mw_iload_n cx (q := 9) 2 rfl rfl dX5_borrowsOne_8 rfl ?_
    refine mw_jn (Mj := fun (v4 : Bool) => (uW M 5 (M 5))) (pj := 36) (lj := fun (v4 : Bool) => [(0, .ref (ad 5 0 0)), (1, .int p1), (2, .int x1)]) (sj := fun (v4 : Bool) => [.int (b2i v4)]) (fun v4 => ?_) (fun K5 hK5 => ?_)
    · refine mw_istore_n cx (q := 37) (lv' := [(3, .int (b2i v4)), (0, .ref (ad 5 0 0)), (1, .int p1), (2, .int x1)]) rfl rfl (by decide) dX5_borrowsOne_36 rfl ?_
      refine mw_iload_n cx (q := 38) 0 rfl rfl dX5_borrowsOne_37 rfl ?_
      refine mw_ifb_eq cx (tgt := 74) (q := 41) dX5_borrowsOne_38 (by decide) rfl (fun h8 => ?_) (fun h8 => ?_)
      · refine mw_bnd (fun v9 ev9 => ?_)
        refine mw_iinc cx (q := 77) (v := v9) (lv' := [(2, .int v9), (3, .int (b2i v4)), (0, .ref (ad 5 0 0)), (1, .int p1)]) 3 rfl (by rw [ev9]; rfl) rfl (by decide) dX5_borrowsOne_74 rfl ?_
        refine mw_goto cx (tgt := 2) dX5_borrowsOne_77 (by decide) ?_
        refine mw_sub [0, 2, 3] rfl ?_
        exact ih v9 (by simp only [vp_in_iff, i32lt, i32le, i32eq, i32add, i32sub, i32mul, i32neg, t32_0, t32_1, t32_4] at ev9 ivx1_0 h3 ⊢; omega) (by simp only [vp_in_iff, i32lt, i32le, i32eq, i32add, i32sub, i32mul, i32neg, t32_0, t32_1, t32_4] at ivx1_0 h3 ev9 ⊢; omega)
      · refine mw_aload_n cx (q := 42) 1 rfl rfl dX5_borrowsOne_41 rfl ?_
        refine mw_get cx (q := 45) (v := .ref (ad 5 1 0)) gf_X5_9 rfl rfl vi_5_0 dX5_borrowsOne_42 rfl ?_
        refine mw_iload_n cx (q := 46) 3 rfl rfl dX5_borrowsOne_45 rfl ?_
        refine mw_iald cx (q := 47) (w := ((M 5) 1 0 x1)) rfl (fun _ => rfl) vi_5_1 (by simp only [vp_in_iff, i32lt, i32le, i32eq, i32add, i32sub, i32mul, i32neg, t32_0, t32_4] at ivx1_0 h3 ⊢; omega) dX5_borrowsOne_46 rfl ?_
        refine mw_if_le cx (tgt := 74) (q := 50) dX5_borrowsOne_47 (by decide) rfl (fun h10 => ?_) (fun h10 => ?_)
        · refine mw_bnd (fun v11 ev11 => ?_)
          refine mw_iinc cx (q := 77) (v := v11) (lv' := [(2, .int v11), (3, .int (b2i v4)), (0, .ref (ad 5 0 0)), (1, .int p1)]) 3 rfl (by rw [ev11]; rfl) rfl (by decide) dX5_borrowsOne_74 rfl ?_
          refine mw_goto cx (tgt := 2) dX5_borrowsOne_77 (by decide) ?_
          refine mw_sub [0, 2, 3] rfl ?_
          exact ih v11 (by simp only [vp_in_iff, i32lt, i32le, i32eq, i32add, i32sub, i32mul, i32neg, t32_0, t32_1, t32_4] at ev11 ivx1_0 h3 h10 ⊢; omega) (by simp only [vp_in_iff, i32lt, i32le, i32eq, i32add, i32sub, i32mul, i32neg, t32_0, t32_1, t32_4] at ivx1_0 h3 h10 ev11 ⊢; omega)
        · refine mw_aload_n cx (q := 51) 1 rfl rfl dX5_borrowsOne_50 rfl ?_
          refine mw_get cx (q := 54) (v := .ref (ad 5 1 0)) gf_X5_9 rfl rfl vi_5_0 dX5_borrowsOne_51 rfl ?_
          refine mw_iload_n cx (q := 55) 3 rfl rfl dX5_borrowsOne_54 rfl ?_
          refine mw_dup2 cx (q := 56) dX5_borrowsOne_55 rfl rfl rfl ?_
          refine mw_iald cx (q := 57) (w := ((M 5) 1 0 x1)) rfl (fun _ => rfl) vi_5_1 (by simp only [vp_in_iff, i32lt, i32le, i32eq, i32add, i32sub, i32mul, i32neg, t32_0, t32_1, t32_4] at ivx1_0 h3 h10 ⊢; omega) dX5_borrowsOne_56 rfl ?_
          refine mw_iconst cx (q := 58) (v := 1) dX5_borrowsOne_57 rfl rfl ?_
          refine mw_isub cx (q := 59) dX5_borrowsOne_58 rfl ?_
          refine mw_iastC cx (q := 60) (fun _ => rfl) (by decide) vi_5_1 (by simp only [vp_in_iff, i32lt, i32le, i32eq, i32add, i32sub, i32mul, i32neg, t32_0, t32_1, t32_4] at ivx1_0 h3 h10 ⊢; omega) (by decide) dX5_borrowsOne_59 rfl (fun m12 em12 => ?_)
          refine mw_aload_n cx (q := 61) 1 rfl rfl dX5_borrowsOne_60 rfl ?_
          refine mw_get cx (q := 64) (v := .ref (ad 5 4 0)) gf_X5_24 rfl rfl vi_5_0 dX5_borrowsOne_61 rfl ?_
          refine mw_iload_n cx (q := 65) 2 rfl rfl dX5_borrowsOne_64 rfl ?_
          refine mw_aald cx (q := 66) (fun _ => rfl) rfl rfl vi_5_4 hp1 dX5_borrowsOne_65 rfl ?_
          refine mw_iload_n cx (q := 67) 3 rfl rfl dX5_borrowsOne_66 rfl ?_
          refine mw_dup2 cx (q := 68) dX5_borrowsOne_67 rfl rfl rfl ?_
          refine mw_iald cx (q := 69) (w := ((M 5) 7 p1 x1)) (by rw [em12]; rfl) (fun _ => rfl) hp1 (by simp only [vp_in_iff, i32lt, i32le, i32eq, i32add, i32sub, i32mul, i32neg, t32_0, t32_1, t32_4] at ivx1_0 h3 h10 ⊢; omega) dX5_borrowsOne_68 rfl ?_
          refine mw_iconst cx (q := 70) (v := 1) dX5_borrowsOne_69 rfl rfl ?_
          refine mw_iadd cx (q := 71) dX5_borrowsOne_70 rfl ?_
          refine mw_iastC cx (q := 72) (fun _ => rfl) (by decide) hp1 (by simp only [vp_in_iff, i32lt, i32le, i32eq, i32add, i32sub, i32mul, i32neg, t32_0, t32_1, t32_4] at ivx1_0 h3 h10 ⊢; omega) (by decide) dX5_borrowsOne_71 rfl (fun m13 em13 => ?_)
          refine mw_iconst cx (q := 73) (v := 1) dX5_borrowsOne_72 rfl rfl ?_
          exact mw_zret cx hr rfl rfl dX5_borrowsOne_73
    · refine mw_icmp_eq cx (tgt := 35) (q := 12) dX5_borrowsOne_9 (by decide) rfl (fun h6 => ?_) (fun h6 => ?_)
      · refine mw_iconst cx (q := 36) (v := 0) dX5_borrowsOne_35 rfl rfl ?_
        refine mw_sub [1, 2, 0] rfl ?_
        exact hK5 false
      · refine mw_aload_n cx (q := 13) 1 rfl rfl dX5_borrowsOne_12 rfl ?_
        refine mw_get cx (q := 16) (v := .ref (ad 5 5 0)) gf_X5_27 rfl rfl vi_5_0 dX5_borrowsOne_13 rfl ?_
        refine mw_iload_n cx (q := 17) 2 rfl rfl dX5_borrowsOne_16 rfl ?_
        refine mw_aald cx (q := 18) (fun _ => rfl) rfl rfl vi_5_5 hp1 dX5_borrowsOne_17 rfl ?_
        refine mw_iload_n cx (q := 19) 0 rfl rfl dX5_borrowsOne_18 rfl ?_
        refine mw_iald cx (q := 20) (w := ((M 5) 8 p1 x1)) rfl (fun _ => rfl) hp1 (by simp only [vp_in_iff, i32lt, i32le, i32eq, i32add, i32sub, i32mul, i32neg, t32_0, t32_4] at ivx1_0 h3 h6 hp1 ⊢; omega) dX5_borrowsOne_19 rfl ?_
        refine mw_aload_n cx (q := 21) 1 rfl rfl dX5_borrowsOne_20 rfl ?_
        refine mw_get cx (q := 24) (v := .ref (ad 5 4 0)) gf_X5_24 rfl rfl vi_5_0 dX5_borrowsOne_21 rfl ?_
        refine mw_iload_n cx (q := 25) 2 rfl rfl dX5_borrowsOne_24 rfl ?_
        refine mw_aald cx (q := 26) (fun _ => rfl) rfl rfl vi_5_4 hp1 dX5_borrowsOne_25 rfl ?_
        refine mw_iload_n cx (q := 27) 0 rfl rfl dX5_borrowsOne_26 rfl ?_
        refine mw_iald cx (q := 28) (w := ((M 5) 7 p1 x1)) rfl (fun _ => rfl) hp1 (by simp only [vp_in_iff, i32lt, i32le, i32eq, i32add, i32sub, i32mul, i32neg, t32_0, t32_4] at ivx1_0 h3 h6 hp1 ⊢; omega) dX5_borrowsOne_27 rfl ?_
        refine mw_icmp_le cx (tgt := 35) (q := 31) dX5_borrowsOne_28 (by decide) rfl (fun h7 => ?_) (fun h7 => ?_)
        · refine mw_iconst cx (q := 36) (v := 0) dX5_borrowsOne_35 rfl rfl ?_
          refine mw_sub [1, 2, 0] rfl ?_
          exact hK5 false
        · refine mw_iconst cx (q := 32) (v := 1) dX5_borrowsOne_31 rfl rfl ?_
          refine mw_goto cx (tgt := 36) dX5_borrowsOne_32 (by decide) ?_
          refine mw_sub [1, 2, 0] rfl ?_
          exact hK5 true
def f5_takesOne (m : Cm) (p1 : Int32) : (Bool × Cm) := jn (fun (v1 : Cm) => if (v1 1 0 p1) ≤ 0 then bnd (f5_borrowsOne v1 p1) (fun (r8 : Bool × Cm) => (r8.1, r8.2)) else bnd (u3 v1 1 0 p1 ((v1 1 0 p1) - 1)) (fun (m9 : Cm) => (true, m9))) (fun K2 => if (m 1 0 p1) = 0 then if (m 3 0 p1) = 0 then K2 m else if (m 2 0 p1) ≤ 0 then K2 m else bnd (f5_buyFuel m p1 1) (fun (r6 : Int32 × Cm) => K2 r6.2) else K2 m)
set_option maxHeartbeats 4000000 in
set_option maxRecDepth 100000 in
theorem mc_X5_takesOne (l : Launch) (D : va_G) (ta : wTa) (ad : wAd) (M : Wm) (p1 : Int32) (hp1 : vp_in p1 4) : MC l D ta ad yX5_takesOne cX5_takesOne 2 (some .boolean) 2 [.ref (ad 5 0 0), .int p1] M (fzc M 5 (f5_takesOne (M 5) p1)) := by
  refine MC.of (fzc M 5) (f5_takesOne (M 5) p1) rfl (by decide) (Nat.le_of_ble_eq_true rfl) (fun p e s m args below meth c cx hr => ?_)
  unfold f5_takesOne
  refine mw_sub (lv' := [(0, .ref (ad 5 0 0)), (1, .int p1)]) [0, 1] rfl ?_
  refine mw_eqM (uW_self M 5) ?_
  refine mw_aload_n cx (q := 1) 0 rfl rfl dX5_takesOne_0 rfl ?_
  refine mw_get cx (q := 4) (v := .ref (ad 5 1 0)) gf_X5_9 rfl rfl vi_5_0 dX5_takesOne_1 rfl ?_
  refine mw_iload_n cx (q := 5) 1 rfl rfl dX5_takesOne_4 rfl ?_
  refine mw_iald cx (q := 6) (w := ((M 5) 1 0 p1)) rfl (fun _ => rfl) vi_5_1 hp1 dX5_takesOne_5 rfl ?_
  refine mw_jn (Mj := fun (v1 : Cm) => (uW M 5 v1)) (pj := 34) (lj := fun (v1 : Cm) => [(0, .ref (ad 5 0 0)), (1, .int p1)]) (sj := fun (v1 : Cm) => []) (fun v1 => ?_) (fun K2 hK2 => ?_)
  · refine mw_aload_n cx (q := 35) 0 rfl rfl dX5_takesOne_34 rfl ?_
    refine mw_get cx (q := 38) (v := .ref (ad 5 1 0)) gf_X5_9 rfl rfl vi_5_0 dX5_takesOne_35 rfl ?_
    refine mw_iload_n cx (q := 39) 1 rfl rfl dX5_takesOne_38 rfl ?_
    refine mw_iald cx (q := 40) (w := (v1 1 0 p1)) rfl (fun _ => rfl) vi_5_1 hp1 dX5_takesOne_39 rfl ?_
    refine mw_if_le cx (tgt := 55) (q := 43) dX5_takesOne_40 (by decide) rfl (fun h7 => ?_) (fun h7 => ?_)
    · refine mw_aload_n cx (q := 56) 0 rfl rfl dX5_takesOne_55 rfl ?_
      refine mw_iload_n cx (q := 57) 1 rfl rfl dX5_takesOne_56 rfl ?_
      refine mw_bnd (fun r8 er8 => ?_)
      refine mw_callV cx (q := 60) (d := 0) (As := [.int p1]) (z := fzc (uW M 5 v1) 5 r8) (st := []) (st1 := [.int (b2i r8.1)]) (M' := uW M 5 r8.2) (by rw [er8]; exact mc_X5_borrowsOne l D ta ad (uW M 5 v1) p1 hp1) cv_X5_50 rfl rfl rfl vi_5_0 ⟨Nat.le_of_ble_eq_true rfl, Nat.le_of_ble_eq_true rfl⟩ ⟨Nat.le_refl _, Nat.le_refl _⟩ (by simp [Value.category]) rfl rfl (by exact uW_uW _ _ _ _) dX5_takesOne_57 rfl ?_
      exact mw_zret cx hr (b2i_nar _) rfl dX5_takesOne_60
    · refine mw_aload_n cx (q := 44) 0 rfl rfl dX5_takesOne_43 rfl ?_
      refine mw_get cx (q := 47) (v := .ref (ad 5 1 0)) gf_X5_9 rfl rfl vi_5_0 dX5_takesOne_44 rfl ?_
      refine mw_iload_n cx (q := 48) 1 rfl rfl dX5_takesOne_47 rfl ?_
      refine mw_dup2 cx (q := 49) dX5_takesOne_48 rfl rfl rfl ?_
      refine mw_iald cx (q := 50) (w := (v1 1 0 p1)) rfl (fun _ => rfl) vi_5_1 hp1 dX5_takesOne_49 rfl ?_
      refine mw_iconst cx (q := 51) (v := 1) dX5_takesOne_50 rfl rfl ?_
      refine mw_isub cx (q := 52) dX5_takesOne_51 rfl ?_
      refine mw_iastC cx (q := 53) (fun _ => rfl) (by decide) vi_5_1 hp1 (by decide) dX5_takesOne_52 rfl (fun m9 em9 => ?_)
      refine mw_iconst cx (q := 54) (v := 1) dX5_takesOne_53 rfl rfl ?_
      exact mw_zret cx hr rfl rfl dX5_takesOne_54
  · refine mw_if_ne cx (tgt := 34) (q := 9) dX5_takesOne_6 (by decide) rfl (fun h3 => ?_) (fun h3 => ?_)
    · exact hK2 (M 5)
    · refine mw_aload_n cx (q := 10) 0 rfl rfl dX5_takesOne_9 rfl ?_
      refine mw_get cx (q := 13) (v := .ref (ad 5 3 0)) gf_X5_18 rfl rfl vi_5_0 dX5_takesOne_10 rfl ?_
      refine mw_iload_n cx (q := 14) 1 rfl rfl dX5_takesOne_13 rfl ?_
      refine mw_zald cx (q := 15) (w := ((M 5) 3 0 p1)) rfl (fun _ => rfl) vi_5_3 hp1 dX5_takesOne_14 rfl ?_
      refine mw_if_eq cx (tgt := 34) (q := 18) dX5_takesOne_15 (by decide) rfl (fun h4 => ?_) (fun h4 => ?_)
      · exact hK2 (M 5)
      · refine mw_aload_n cx (q := 19) 0 rfl rfl dX5_takesOne_18 rfl ?_
        refine mw_get cx (q := 22) (v := .ref (ad 5 2 0)) gf_X5_15 rfl rfl vi_5_0 dX5_takesOne_19 rfl ?_
        refine mw_iload_n cx (q := 23) 1 rfl rfl dX5_takesOne_22 rfl ?_
        refine mw_iald cx (q := 24) (w := ((M 5) 2 0 p1)) rfl (fun _ => rfl) vi_5_2 hp1 dX5_takesOne_23 rfl ?_
        refine mw_if_le cx (tgt := 34) (q := 27) dX5_takesOne_24 (by decide) rfl (fun h5 => ?_) (fun h5 => ?_)
        · exact hK2 (M 5)
        · refine mw_aload_n cx (q := 28) 0 rfl rfl dX5_takesOne_27 rfl ?_
          refine mw_iload_n cx (q := 29) 1 rfl rfl dX5_takesOne_28 rfl ?_
          refine mw_iconst cx (q := 30) (v := 1) dX5_takesOne_29 rfl rfl ?_
          refine mw_bnd (fun r6 er6 => ?_)
          refine mw_callV cx (q := 33) (d := 1) (As := [.int p1, .int 1]) (z := fic (uW M 5 (M 5)) 5 r6) (st := []) (st1 := [.int r6.1]) (M' := uW M 5 r6.2) (by rw [er6]; exact mc_X5_buyFuel l D ta ad (uW M 5 (M 5)) p1 1 hp1) cv_X5_47 rfl rfl rfl vi_5_0 ⟨Nat.le_of_ble_eq_true rfl, Nat.le_of_ble_eq_true rfl⟩ ⟨Nat.le_refl _, Nat.le_refl _⟩ (by simp [Value.category]) rfl rfl (by exact uW_uW _ _ _ _) dX5_takesOne_30 rfl ?_
          refine mw_pop cx (q := 34) dX5_takesOne_33 rfl rfl ?_
          exact hK2 r6.2
