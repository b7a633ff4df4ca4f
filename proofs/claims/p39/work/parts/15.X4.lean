def f4_areFull (m : Cm) : Bool := if (m 0 0 1) < 60 then false else true
set_option maxHeartbeats 4000000 in
set_option maxRecDepth 100000 in
theorem mc_X4_areFull (l : Launch) (D : va_G) (ta : wTa) (ad : wAd) (M : Wm) : MC l D ta ad yX4_areFull cX4_areFull 1 (some .boolean) 0 [.ref (ad 4 0 0)] M (fzp M (f4_areFull (M 4))) := by
  refine MC.of (fzp M) (f4_areFull (M 4)) rfl (by decide) (Nat.le_of_ble_eq_true rfl) (fun p e s m args below meth c cx hr => ?_)
  unfold f4_areFull
  refine mw_sub (lv' := [(0, .ref (ad 4 0 0))]) [0] rfl ?_
  refine mw_aload_n cx (q := 1) 0 rfl rfl dX4_areFull_0 rfl ?_
  refine mw_get cx (q := 4) (v := .int ((M 4) 0 0 1)) gf_X4_18 rfl rfl vi_4_0 dX4_areFull_1 rfl ?_
  refine mw_bipush cx (q := 6) (v := 60) dX4_areFull_4 rfl rfl ?_
  refine mw_icmp_lt cx (tgt := 13) (q := 9) dX4_areFull_6 (by decide) rfl (fun h1 => ?_) (fun h1 => ?_)
  · refine mw_iconst cx (q := 14) (v := 0) dX4_areFull_13 rfl rfl ?_
    exact mw_zret cx hr rfl rfl dX4_areFull_14
  · refine mw_iconst cx (q := 10) (v := 1) dX4_areFull_9 rfl rfl ?_
    refine mw_goto cx (tgt := 14) dX4_areFull_10 (by decide) ?_
    exact mw_zret cx hr rfl rfl dX4_areFull_14
theorem areFull_f {m : Cm} (h : f4_areFull m = false) : (m 0 0 1).toInt < 60 := by
  unfold f4_areFull at h
  by_cases h1 : (m 0 0 1) < 60
  · simp only [i32lt, t32_60] at h1; omega
  · rw [if_neg h1] at h; cases h
theorem areFull_t {m : Cm} (h : f4_areFull m = true) : 60 ≤ (m 0 0 1).toInt := by
  unfold f4_areFull at h
  by_cases h1 : (m 0 0 1) < 60
  · rw [if_pos h1] at h; cases h
  · simp only [i32lt, t32_60] at h1; omega
def f4_add (m : Cm) (p1 : Int32) (p2 : Int32) (p3 : Int32) (p4 : Int32) : (Int32 × Cm) := bnd (f4_areFull m) (fun (r1 : Bool) => if r1 = true then ((-1), m) else bnd (u3 m 4 (m 0 0 1) 0 p1) (fun (m3 : Cm) => bnd (u3 m3 4 (m 0 0 1) 1 p2) (fun (m4 : Cm) => bnd (u3 m4 4 (m 0 0 1) 2 ((m 0 0 2) + p3)) (fun (m5 : Cm) => bnd (u3 m5 4 (m 0 0 1) 3 p4) (fun (m6 : Cm) => bnd (u3 m6 0 0 1 ((m 0 0 1) + 1)) (fun (m7 : Cm) => ((((m 0 0 1) + 1) - 1), m7)))))))
set_option maxHeartbeats 4000000 in
set_option maxRecDepth 100000 in
theorem mc_X4_add (l : Launch) (D : va_G) (ta : wTa) (ad : wAd) (M : Wm) (p1 : Int32) (p2 : Int32) (p3 : Int32) (p4 : Int32) (hc0 : 0 ≤ ((M 4) 0 0 1).toInt) : MC l D ta ad yX4_add cX4_add 6 (some .int) 1 [.ref (ad 4 0 0), .int p1, .int p2, .int p3, .int p4] M (fic M 4 (f4_add (M 4) p1 p2 p3 p4)) := by
  refine MC.of (fic M 4) (f4_add (M 4) p1 p2 p3 p4) rfl (by decide) (Nat.le_of_ble_eq_true rfl) (fun p e s m args below meth c cx hr => ?_)
  unfold f4_add
  refine mw_sub (lv' := [(0, .ref (ad 4 0 0)), (1, .int p1), (2, .int p2), (3, .int p3), (4, .int p4)]) [0, 1, 2, 3, 4] rfl ?_
  refine mw_eqM (uW_self M 4) ?_
  refine mw_aload_n cx (q := 1) 0 rfl rfl dX4_add_0 rfl ?_
  refine mw_bnd (fun r1 er1 => ?_)
  refine mw_callV cx (q := 4) (d := 0) (As := []) (z := fzp (uW M 4 (M 4)) r1) (st := []) (st1 := [.int (b2i r1)]) (M' := (uW M 4 (M 4))) (by rw [er1]; exact mc_X4_areFull l D ta ad (uW M 4 (M 4))) cv_X4_22 rfl rfl rfl vi_4_0 ⟨Nat.le_of_ble_eq_true rfl, Nat.le_of_ble_eq_true rfl⟩ ⟨Nat.le_refl _, Nat.le_refl _⟩ (by simp [Value.category]) rfl rfl rfl dX4_add_1 rfl ?_
  refine mw_ifb_eq cx (tgt := 9) (q := 7) dX4_add_4 (by decide) rfl (fun h2 => ?_) (fun h2 => ?_)
  · refine mw_aload_n cx (q := 10) 0 rfl rfl dX4_add_9 rfl ?_
    refine mw_get cx (q := 13) (v := .ref (ad 4 1 0)) gf_X4_13 rfl rfl vi_4_0 dX4_add_10 rfl ?_
    refine mw_aload_n cx (q := 14) 0 rfl rfl dX4_add_13 rfl ?_
    refine mw_get cx (q := 17) (v := .int ((M 4) 0 0 1)) gf_X4_18 rfl rfl vi_4_0 dX4_add_14 rfl ?_
    refine mw_aald cx (q := 18) (fun _ => rfl) rfl rfl vi_4_1 (by have hz := areFull_f (er1.symm.trans h2); simp only [vp_in_iff]; omega) dX4_add_17 rfl ?_
    refine mw_astore cx (q := 20) (lv' := [(5, .ref (ad 4 4 ((M 4) 0 0 1))), (0, .ref (ad 4 0 0)), (1, .int p1), (2, .int p2), (3, .int p3), (4, .int p4)]) rfl (by decide) dX4_add_18 rfl ?_
    refine mw_aload cx (q := 22) 0 rfl dX4_add_20 rfl ?_
    refine mw_iload_n cx (q := 23) 2 rfl rfl dX4_add_22 rfl ?_
    refine mw_putNC cx (q := 26) 0 gf_X4_26 pf_X3_0 (int_fit _) rfl (Nat.le_of_ble_eq_true rfl) rfl (show vp_in ((M 4) 0 0 1) 60 from (by have hz := areFull_f (er1.symm.trans h2); simp only [vp_in_iff]; omega)) (by decide) dX4_add_23 rfl (fun m3 em3 => ?_)
    refine mw_aload cx (q := 28) 0 rfl dX4_add_26 rfl ?_
    refine mw_iload_n cx (q := 29) 3 rfl rfl dX4_add_28 rfl ?_
    refine mw_putNC cx (q := 32) 1 gf_X4_29 pf_X3_1 (int_fit _) rfl (Nat.le_of_ble_eq_true rfl) rfl (show vp_in ((M 4) 0 0 1) 60 from (by have hz := areFull_f (er1.symm.trans h2); simp only [vp_in_iff]; omega)) (by decide) dX4_add_29 rfl (fun m4 em4 => ?_)
    refine mw_aload cx (q := 34) 0 rfl dX4_add_32 rfl ?_
    refine mw_aload_n cx (q := 35) 1 rfl rfl dX4_add_34 rfl ?_
    refine mw_get cx (q := 38) (v := .int ((M 4) 0 0 2)) gf_X4_32 rfl (by rw [em4, em3]; rfl) vi_4_0 dX4_add_35 rfl ?_
    refine mw_iload_n cx (q := 39) 4 rfl rfl dX4_add_38 rfl ?_
    refine mw_iadd cx (q := 40) dX4_add_39 rfl ?_
    refine mw_putNC cx (q := 43) 2 gf_X4_35 pf_X3_2 (int_fit _) rfl (Nat.le_of_ble_eq_true rfl) rfl (show vp_in ((M 4) 0 0 1) 60 from (by have hz := areFull_f (er1.symm.trans h2); simp only [vp_in_iff]; omega)) (by decide) dX4_add_40 rfl (fun m5 em5 => ?_)
    refine mw_aload cx (q := 45) 0 rfl dX4_add_43 rfl ?_
    refine mw_iload cx (q := 47) 5 rfl dX4_add_45 rfl ?_
    refine mw_putNC cx (q := 50) 3 gf_X4_36 pf_X3_3 (int_fit _) rfl (Nat.le_of_ble_eq_true rfl) rfl (show vp_in ((M 4) 0 0 1) 60 from (by have hz := areFull_f (er1.symm.trans h2); simp only [vp_in_iff]; omega)) (by decide) dX4_add_47 rfl (fun m6 em6 => ?_)
    refine mw_aload_n cx (q := 51) 1 rfl rfl dX4_add_50 rfl ?_
    refine mw_dup cx (q := 52) dX4_add_51 rfl rfl ?_
    refine mw_get cx (q := 55) (v := .int ((M 4) 0 0 1)) gf_X4_18 rfl (by rw [em6, em5, em4, em3]; rfl) vi_4_0 dX4_add_52 rfl ?_
    refine mw_iconst cx (q := 56) (v := 1) dX4_add_55 rfl rfl ?_
    refine mw_iadd cx (q := 57) dX4_add_56 rfl ?_
    refine mw_putC cx (q := 60) 1 gf_X4_18 pf_X4_1 (int_fit _) rfl (Nat.le_of_ble_eq_true rfl) rfl vi_4_0 (by decide) dX4_add_57 rfl (fun m7 em7 => ?_)
    refine mw_aload_n cx (q := 61) 1 rfl rfl dX4_add_60 rfl ?_
    refine mw_get cx (q := 64) (v := .int (((M 4) 0 0 1) + 1)) gf_X4_18 rfl (by rw [em7]; rfl) vi_4_0 dX4_add_61 rfl ?_
    refine mw_iconst cx (q := 65) (v := 1) dX4_add_64 rfl rfl ?_
    refine mw_isub cx (q := 66) dX4_add_65 rfl ?_
    exact mw_iret cx hr rfl dX4_add_66
  · refine mw_iconst cx (q := 8) (v := (-1)) dX4_add_7 rfl rfl ?_
    exact mw_iret cx hr rfl dX4_add_8
def f4_undoFrom_lp2  : Nat → (Int32 × Cm) → Cm
  | 0, x1 => x1.2
  | n2 + 1, x1 => if (x1.2 0 0 1) ≤ x1.1 then x1.2 else bnd (u3 x1.2 4 x1.1 4 4) (fun (m4 : Cm) => bnd (x1.1 + 1) (fun (v5 : Int32) => f4_undoFrom_lp2 n2 (v5, m4)))
theorem f4_undoFrom_lp2_s  (n2 : Nat) (x1 : Int32 × Cm) : f4_undoFrom_lp2 (n2 + 1) x1 = if (x1.2 0 0 1) ≤ x1.1 then x1.2 else bnd (u3 x1.2 4 x1.1 4 4) (fun (m4 : Cm) => bnd (x1.1 + 1) (fun (v5 : Int32) => f4_undoFrom_lp2 n2 (v5, m4))) := rfl
def f4_undoFrom (m : Cm) (p1 : Int32) : Cm := f4_undoFrom_lp2 61 (p1, m)
set_option maxHeartbeats 4000000 in
set_option maxRecDepth 100000 in
theorem mc_X4_undoFrom (l : Launch) (D : va_G) (ta : wTa) (ad : wAd) (M : Wm) (p1 : Int32) (hc1 : ((M 4) 0 0 1).toInt ≤ 60) (hp1 : 0 ≤ p1.toInt) : MC l D ta ad yX4_undoFrom cX4_undoFrom 3 none 0 [.ref (ad 4 0 0), .int p1] M (fvc M 4 (f4_undoFrom (M 4) p1)) := by
  refine MC.of (fvc M 4) (f4_undoFrom (M 4) p1) rfl (by decide) (Nat.le_of_ble_eq_true rfl) (fun p e s m args below meth c cx hr => ?_)
  unfold f4_undoFrom
  refine mw_sub (lv' := [(0, .ref (ad 4 0 0)), (1, .int p1)]) [0, 1] rfl ?_
  refine mw_eqM (uW_self M 4) ?_
  refine mw_iload_n cx (q := 1) 1 rfl rfl dX4_undoFrom_0 rfl ?_
  refine mw_istore_n cx (q := 2) (lv' := [(2, .int p1), (0, .ref (ad 4 0 0)), (1, .int p1)]) rfl rfl (by decide) dX4_undoFrom_1 rfl ?_
  refine mw_sub [0, 1] rfl ?_
  refine mw_loop (F := f4_undoFrom_lp2) (I := fun (x1 : Int32 × Cm) => (0 ≤ (x1.1).toInt) ∧ ((x1.2 0 0 1).toInt ≤ 60)) (μ := fun (x1 : Int32 × Cm) => (60 - (x1.1).toInt).toNat) (Mx := fun (x1 : Int32 × Cm) => (uW M 4 x1.2)) (px := 2) (lx := fun (x1 : Int32 × Cm) => [(2, .int x1.1), (0, .ref (ad 4 0 0))]) (fun n2 x1 ivx1 ih => ?_) 61 (p1, (M 4)) ⟨(by simp only [vp_in_iff, i32lt, i32le, i32eq, i32add, i32sub, i32mul, i32neg, t32_0] at hp1 ⊢; omega), hc1⟩ (by simp only [vp_in_iff, i32lt, i32le, i32eq, i32add, i32sub, i32mul, i32neg, t32_0, t32_60, t32_61] at hp1 ⊢; omega)
  obtain ⟨ivx1_0, ivx1_1⟩ := ivx1
  refine mw_eqS (f4_undoFrom_lp2_s n2 x1) ?_
  refine mw_iload_n cx (q := 3) 0 rfl rfl dX4_undoFrom_2 rfl ?_
  refine mw_aload_n cx (q := 4) 1 rfl rfl dX4_undoFrom_3 rfl ?_
  refine mw_get cx (q := 7) (v := .int (x1.2 0 0 1)) gf_X4_18 rfl rfl vi_4_0 dX4_undoFrom_4 rfl ?_
  refine mw_icmp_ge cx (tgt := 26) (q := 10) dX4_undoFrom_7 (by decide) rfl (fun h3 => ?_) (fun h3 => ?_)
  · exact mw_vret cx hr rfl dX4_undoFrom_26
  · refine mw_aload_n cx (q := 11) 1 rfl rfl dX4_undoFrom_10 rfl ?_
    refine mw_get cx (q := 14) (v := .ref (ad 4 1 0)) gf_X4_13 rfl rfl vi_4_0 dX4_undoFrom_11 rfl ?_
    refine mw_iload_n cx (q := 15) 0 rfl rfl dX4_undoFrom_14 rfl ?_
    refine mw_aald cx (q := 16) (fun _ => rfl) rfl rfl vi_4_1 (by simp only [vp_in_iff, i32lt, i32le, i32eq, i32add, i32sub, i32mul, i32neg, t32_0, t32_1, t32_60] at ivx1_0 h3 ivx1_1 ⊢; omega) dX4_undoFrom_15 rfl ?_
    refine mw_iconst cx (q := 17) (v := 4) dX4_undoFrom_16 rfl rfl ?_
    refine mw_putNC cx (q := 20) 4 gf_X4_39 pf_X3_4 (int_fit _) rfl (Nat.le_of_ble_eq_true rfl) rfl (show vp_in x1.1 60 from (by simp only [vp_in_iff, i32lt, i32le, i32eq, i32add, i32sub, i32mul, i32neg, t32_0, t32_1, t32_60] at ivx1_0 h3 ivx1_1 ⊢; omega)) (by decide) dX4_undoFrom_17 rfl (fun m4 em4 => ?_)
    refine mw_bnd (fun v5 ev5 => ?_)
    refine mw_iinc cx (q := 23) (v := v5) (lv' := [(2, .int v5), (0, .ref (ad 4 0 0))]) 0 rfl (by rw [ev5]; rfl) rfl (by decide) dX4_undoFrom_20 rfl ?_
    refine mw_goto cx (tgt := 2) dX4_undoFrom_23 (by decide) ?_
    exact ih (v5, m4) ⟨(by simp only [vp_in_iff, i32lt, i32le, i32eq, i32add, i32sub, i32mul, i32neg, t32_0, t32_1, t32_60] at ev5 ivx1_0 h3 ivx1_1 ⊢; omega), (by rw [em4]; exact ivx1_1)⟩ (by simp only [vp_in_iff, i32lt, i32le, i32eq, i32add, i32sub, i32mul, i32neg, t32_0, t32_1, t32_60] at ivx1_0 h3 ev5 ivx1_1 ⊢; omega)
