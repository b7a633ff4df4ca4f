/-- what one run of an order needs -/
def ExP (M : Wm) (w : Int32) : Prop := Ok7 M ∧ vp_in w 60 ∧ vp_in (M 4 4 w 0) 4 ∧ vp_in (M 4 4 w 1) 8 ∧ ∀ j : Int32, vp_in j 8 → 0 ≤ (M 8 2 0 j).toInt ∧ (M 8 2 0 j).toInt ≤ 120
/-- what pass needs: a fact for each hour, that the runs in it keep -/
def PsJ (J : Int32 → Wm → Prop) (hs : Int32) (M : Wm) : Prop := (1 ≤ hs.toInt ∧ hs.toInt ≤ 100 → M 4 0 0 2 + hs ≤ 1000 → J 0 M) ∧ (∀ (i : Int32) (M : Wm), 0 ≤ i.toInt → i.toInt < hs.toInt → J i M → J (i + 1) (uW M 4 (u3 (M 4) 0 0 2 (M 4 0 0 2 + 1)))) ∧ (∀ (i : Int32) (M : Wm), J i M → 0 ≤ (M 4 0 0 1).toInt ∧ (M 4 0 0 1).toInt ≤ 60) ∧ ∀ (i : Int32) (M : Wm) (w : Int32), J i M → 0 ≤ w.toInt → w.toInt < (M 4 0 0 1).toInt → M 4 4 w 4 = 0 → M 4 4 w 2 = M 4 0 0 2 → ExP M w ∧ J i (f7_execute M w (M 4 4 w 3)) ∧ (M 4 0 0 1).toInt ≤ (f7_execute M w (M 4 4 w 3) 4 0 0 1).toInt
def f11_takeUp (M : Wm) (p1 : Int32) (p2 : Int32) : ((Nat × Int32) × Wm) := bnd (f11_existing M p1) (fun (r1 : Nat) => if r1 = 0 then bnd (f11_isIn p2 1 1000) (fun (r3 : Bool) => bnd (f11_demand r3) (fun (r4 : Nat) => if r4 = 0 then jn (fun (v6 : Bool) => bnd (f11_demandState v6) (fun (r10 : Nat) => if r10 = 0 then bnd (f7_execute M p1 p2) (fun (r12 : Wm) => ((0, (r12 4 4 p1 4)), r12)) else ((r10, 0), M))) (fun K7 => if (M 4 4 p1 4) = 2 then K7 true else if (M 4 4 p1 4) = 3 then K7 true else K7 false) else ((r4, 0), M))) else ((r1, 0), M))
set_option maxHeartbeats 4000000 in
set_option maxRecDepth 100000 in
theorem mc_X11_takeUp (l : Launch) (hl : l.stackTraces = false) (D : va_G) (ta : wTa) (ad : wAd) (M : Wm) (p1 : Int32) (p2 : Int32) (hc1 : (M 4 0 0 1).toInt ≤ 60) (hE : 0 ≤ p1.toInt → p1.toInt < (M 4 0 0 1).toInt → ExP M p1) : MX l D ta ad yX11_takeUp cX11_takeUp 4 (some .int) 220 3 [.ref (ad 11 0 0), .int p1, .int p2] M (fxi (f11_takeUp M p1 p2)) := by
  refine MX.of (fxi) (f11_takeUp M p1 p2) rfl (by decide) (Nat.le_of_ble_eq_true rfl) (fun p e s m args below meth c cx hzx ht hr => ?_)
  unfold f11_takeUp
  refine mw_sub (lv' := [(0, .ref (ad 11 0 0)), (1, .int p1), (2, .int p2)]) [0, 1, 2] rfl ?_
  refine mw_aload_n cx (q := 1) 0 rfl rfl dX11_takeUp_0 rfl ?_
  refine mw_iload_n cx (q := 2) 1 rfl rfl dX11_takeUp_1 rfl ?_
  refine mw_bnd (fun r1 er1 => ?_)
  refine mx_gV cx hzx ht (q := 5) (d := 7) (u0 := 1) (As := [.int p1]) (r := r1) (v := (some (.ref (ad 4 4 p1)))) (st := []) (st1 := [.ref (ad 4 4 p1)]) (by rw [er1]; exact mc_X11_existing l hl D ta ad M p1 hc1) cv_X11_184 rfl rfl rfl vi_11_0 ⟨by decide, by decide⟩ ⟨by decide, by decide⟩ ⟨by decide, by decide⟩ (by simp [Value.category]) rfl rfl ⟨rfl, rfl⟩ dX11_takeUp_2 rfl (fun h2 => ?_)
  have qr10 : 0 ≤ p1.toInt ∧ p1.toInt < (M 4 0 0 1).toInt := existing_ok (er1.symm.trans h2)
  refine mw_astore_n cx (q := 6) (lv' := [(3, .ref (ad 4 4 p1)), (0, .ref (ad 11 0 0)), (1, .int p1), (2, .int p2)]) rfl rfl (by decide) dX11_takeUp_5 rfl ?_
  refine mw_iload_n cx (q := 7) 3 rfl rfl dX11_takeUp_6 rfl ?_
  refine mw_iconst cx (q := 8) (v := 1) dX11_takeUp_7 rfl rfl ?_
  refine mw_sipush cx (q := 11) (v := 1000) dX11_takeUp_8 rfl rfl ?_
  refine mw_bnd (fun r3 er3 => ?_)
  refine mw_callS cx (q := 14) (d := 0) (As := [.int p2, .int 1, .int 1000]) (z := fzp M r3) (st := []) (st1 := [.int (b2i r3)]) (M' := M) (by rw [er3]; exact mc_X11_isIn l D ta ad M p2 1 1000) cv_X11_105 ⟨Nat.le_of_ble_eq_true rfl, Nat.le_of_ble_eq_true rfl⟩ ⟨by decide, by decide⟩ (by simp [Value.category]) rfl rfl rfl dX11_takeUp_11 rfl ?_
  refine mw_bnd (fun r4 er4 => ?_)
  refine mx_gS cx hzx ht (q := 17) (d := 6) (u0 := 1) (As := [.int (b2i r3)]) (r := r4) (v := none) (st := []) (st1 := []) (by rw [er4]; exact mc_X11_demand l hl D ta ad M r3) cv_X11_65 ⟨by decide, by decide⟩ ⟨by decide, by decide⟩ ⟨by decide, by decide⟩ (by simp [Value.category]) rfl rfl ⟨rfl, rfl⟩ dX11_takeUp_14 rfl (fun h5 => ?_)
  have qr40 : r3 = true := demand_ok (er4.symm.trans h5)
  refine mw_aload_n cx (q := 18) 0 rfl rfl dX11_takeUp_17 rfl ?_
  refine mw_getN cx (q := 21) (v := .int (M 4 4 p1 4)) gf_X11_172 rfl rfl (show vp_in p1 60 from (by simp only [vp_in_iff, i32lt, i32le, i32eq, i32add, i32sub, i32mul, i32neg, t32_0, t32_1, t32_4, t32_60] at hE qr10 hc1 ⊢; omega)) dX11_takeUp_18 rfl ?_
  refine mw_iconst cx (q := 22) (v := 2) dX11_takeUp_21 rfl rfl ?_
  refine mw_jn (Mj := fun (v6 : Bool) => M) (pj := 38) (lj := fun (v6 : Bool) => [(0, .ref (ad 11 0 0)), (1, .int p1), (2, .int p2), (3, .ref (ad 4 4 p1))]) (sj := fun (v6 : Bool) => [.int (b2i v6)]) (fun v6 => ?_) (fun K7 hK7 => ?_)
  · refine mw_bnd (fun r10 er10 => ?_)
    refine mx_gS cx hzx ht (q := 41) (d := 6) (u0 := 1) (As := [.int (b2i v6)]) (r := r10) (v := none) (st := []) (st1 := []) (by rw [er10]; exact mc_X11_demandState l hl D ta ad M v6) cv_X11_73 ⟨by decide, by decide⟩ ⟨by decide, by decide⟩ ⟨by decide, by decide⟩ (by simp [Value.category]) rfl rfl ⟨rfl, rfl⟩ dX11_takeUp_38 rfl (fun h11 => ?_)
    have qr100 : v6 = true := demandState_ok (er10.symm.trans h11)
    refine mw_aload_n cx (q := 42) 0 rfl rfl dX11_takeUp_41 rfl ?_
    refine mw_get cx (q := 45) (v := .ref (ad 7 0 0)) gf_X11_51 rfl rfl vi_11_0 dX11_takeUp_42 rfl ?_
    refine mw_iload_n cx (q := 46) 1 rfl rfl dX11_takeUp_45 rfl ?_
    refine mw_iload_n cx (q := 47) 2 rfl rfl dX11_takeUp_46 rfl ?_
    refine mw_bnd (fun r12 er12 => ?_)
    refine mw_callV cx (q := 50) (d := 219) (As := [.int p1, .int p2]) (z := fv r12) (st := []) (st1 := []) (M' := r12) (by rw [er12]; exact mc_X7_execute l D ta ad M p1 p2 (hE qr10.1 qr10.2).1 (hE qr10.1 qr10.2).2.1 (hE qr10.1 qr10.2).2.2.1 (hE qr10.1 qr10.2).2.2.2.1 (hE qr10.1 qr10.2).2.2.2.2) cv_X11_181 rfl rfl rfl vi_7_0 ⟨Nat.le_of_ble_eq_true rfl, Nat.le_of_ble_eq_true rfl⟩ ⟨by decide, by decide⟩ (by simp [Value.category]) rfl rfl rfl dX11_takeUp_47 rfl ?_
    refine mw_aload_n cx (q := 51) 3 rfl rfl dX11_takeUp_50 rfl ?_
    refine mw_getN cx (q := 54) (v := .int (r12 4 4 p1 4)) gf_X11_172 rfl rfl (show vp_in p1 60 from (by simp only [vp_in_iff, i32lt, i32le, i32eq, i32add, i32sub, i32mul, i32neg, t32_0, t32_1, t32_4, t32_60] at hE qr10 hc1 ⊢; omega)) dX11_takeUp_51 rfl ?_
    exact mx_iret cx hr rfl rfl ⟨by decide, by decide⟩ dX11_takeUp_54
  · refine mw_icmp_eq cx (tgt := 33) (q := 25) dX11_takeUp_22 (by decide) rfl (fun h8 => ?_) (fun h8 => ?_)
    · refine mw_iconst cx (q := 34) (v := 1) dX11_takeUp_33 rfl rfl ?_
      refine mw_goto cx (tgt := 38) dX11_takeUp_34 (by decide) ?_
      refine mw_sub [1, 2, 3, 0] rfl ?_
      exact hK7 true
    · refine mw_aload_n cx (q := 26) 0 rfl rfl dX11_takeUp_25 rfl ?_
      refine mw_getN cx (q := 29) (v := .int (M 4 4 p1 4)) gf_X11_172 rfl rfl (show vp_in p1 60 from (by simp only [vp_in_iff, i32lt, i32le, i32eq, i32add, i32sub, i32mul, i32neg, t32_0, t32_1, t32_2, t32_4, t32_60] at hE qr10 h8 hc1 ⊢; omega)) dX11_takeUp_26 rfl ?_
      refine mw_iconst cx (q := 30) (v := 3) dX11_takeUp_29 rfl rfl ?_
      refine mw_icmp_ne cx (tgt := 37) (q := 33) dX11_takeUp_30 (by decide) rfl (fun h9 => ?_) (fun h9 => ?_)
      · refine mw_iconst cx (q := 38) (v := 0) dX11_takeUp_37 rfl rfl ?_
        refine mw_sub [1, 2, 3, 0] rfl ?_
        exact hK7 false
      · refine mw_iconst cx (q := 34) (v := 1) dX11_takeUp_33 rfl rfl ?_
        refine mw_goto cx (tgt := 38) dX11_takeUp_34 (by decide) ?_
        refine mw_sub [1, 2, 3, 0] rfl ?_
        exact hK7 true
def f11_pass_lp67 (v13 : Int32) (K15 : (Int32 × Wm) → ((Nat × Int32) × Wm)) : Nat → (Int32 × Int32 × Wm) → ((Nat × Int32) × Wm)
  | 0, x14 => ((0, 0), x14.2.2)
  | n16 + 1, x14 => if v13 ≤ x14.1 then K15 (x14.2.1, x14.2.2) else jn (fun (v18 : Int32 × Wm) => bnd (x14.1 + 1) (fun (v24 : Int32) => f11_pass_lp67 v13 K15 n16 (v24, v18.1, v18.2))) (fun K19 => if (x14.2.2 4 4 x14.1 4) = 0 then if (x14.2.2 4 4 x14.1 2) = (x14.2.2 4 0 0 2) then bnd (f7_execute x14.2.2 x14.1 (x14.2.2 4 4 x14.1 3)) (fun (r22 : Wm) => bnd (x14.2.1 + 1) (fun (v23 : Int32) => K19 (v23, r22))) else K19 (x14.2.1, x14.2.2) else K19 (x14.2.1, x14.2.2))
theorem f11_pass_lp67_s (v13 : Int32) (K15 : (Int32 × Wm) → ((Nat × Int32) × Wm)) (n16 : Nat) (x14 : Int32 × Int32 × Wm) : f11_pass_lp67 v13 K15 (n16 + 1) x14 = if v13 ≤ x14.1 then K15 (x14.2.1, x14.2.2) else jn (fun (v18 : Int32 × Wm) => bnd (x14.1 + 1) (fun (v24 : Int32) => f11_pass_lp67 v13 K15 n16 (v24, v18.1, v18.2))) (fun K19 => if (x14.2.2 4 4 x14.1 4) = 0 then if (x14.2.2 4 4 x14.1 2) = (x14.2.2 4 0 0 2) then bnd (f7_execute x14.2.2 x14.1 (x14.2.2 4 4 x14.1 3)) (fun (r22 : Wm) => bnd (x14.2.1 + 1) (fun (v23 : Int32) => K19 (v23, r22))) else K19 (x14.2.1, x14.2.2) else K19 (x14.2.1, x14.2.2)) := rfl
def f11_pass_lp37 (p1 : Int32) : Nat → (Int32 × Int32 × Wm) → ((Nat × Int32) × Wm)
  | 0, x9 => ((0, 0), x9.2.2)
  | n10 + 1, x9 => if p1 ≤ x9.1 then ((0, x9.2.1), x9.2.2) else bnd (uW x9.2.2 4 (u3 (x9.2.2 4) 0 0 2 ((x9.2.2 4 0 0 2) + 1))) (fun (M12 : Wm) => bnd ((x9.2.2 4 0 0 1)) (fun (v13 : Int32) => jn (fun (y25 : Int32 × Wm) => bnd (x9.1 + 1) (fun (v26 : Int32) => f11_pass_lp37 p1 n10 (v26, y25.1, y25.2))) (fun K15 => f11_pass_lp67 v13 K15 62 (0, x9.2.1, M12))))
theorem f11_pass_lp37_s (p1 : Int32) (n10 : Nat) (x9 : Int32 × Int32 × Wm) : f11_pass_lp37 p1 (n10 + 1) x9 = if p1 ≤ x9.1 then ((0, x9.2.1), x9.2.2) else bnd (uW x9.2.2 4 (u3 (x9.2.2 4) 0 0 2 ((x9.2.2 4 0 0 2) + 1))) (fun (M12 : Wm) => bnd ((x9.2.2 4 0 0 1)) (fun (v13 : Int32) => jn (fun (y25 : Int32 × Wm) => bnd (x9.1 + 1) (fun (v26 : Int32) => f11_pass_lp37 p1 n10 (v26, y25.1, y25.2))) (fun K15 => f11_pass_lp67 v13 K15 62 (0, x9.2.1, M12)))) := rfl
def f11_pass (M : Wm) (p1 : Int32) : ((Nat × Int32) × Wm) := bnd (f11_isIn p1 1 100) (fun (r1 : Bool) => bnd (f11_demand r1) (fun (r2 : Nat) => if r2 = 0 then jn (fun (v4 : Bool) => bnd (f11_demandState v4) (fun (r7 : Nat) => if r7 = 0 then f11_pass_lp37 p1 102 (0, 0, M) else ((r7, 0), M))) (fun K5 => if 1000 < ((M 4 0 0 2) + p1) then K5 false else K5 true) else ((r2, 0), M)))
set_option maxHeartbeats 4000000 in
set_option maxRecDepth 100000 in
theorem mc_X11_pass (l : Launch) (hl : l.stackTraces = false) (D : va_G) (ta : wTa) (ad : wAd) (M : Wm) (p1 : Int32) (J : Int32 → Wm → Prop) (hJ : PsJ J p1 M) : MX l D ta ad yX11_pass cX11_pass 7 (some .int) 220 2 [.ref (ad 11 0 0), .int p1] M (fxi (f11_pass M p1)) := by
  refine MX.of (fxi) (f11_pass M p1) rfl (by decide) (Nat.le_of_ble_eq_true rfl) (fun p e s m args below meth c cx hzx ht hr => ?_)
  unfold f11_pass
  refine mw_sub (lv' := [(0, .ref (ad 11 0 0)), (1, .int p1)]) [0, 1] rfl ?_
  refine mw_iload_n cx (q := 1) 1 rfl rfl dX11_pass_0 rfl ?_
  refine mw_iconst cx (q := 2) (v := 1) dX11_pass_1 rfl rfl ?_
  refine mw_bipush cx (q := 4) (v := 100) dX11_pass_2 rfl rfl ?_
  refine mw_bnd (fun r1 er1 => ?_)
  refine mw_callS cx (q := 7) (d := 0) (As := [.int p1, .int 1, .int 100]) (z := fzp M r1) (st := []) (st1 := [.int (b2i r1)]) (M' := M) (by rw [er1]; exact mc_X11_isIn l D ta ad M p1 1 100) cv_X11_105 ⟨Nat.le_of_ble_eq_true rfl, Nat.le_of_ble_eq_true rfl⟩ ⟨by decide, by decide⟩ (by simp [Value.category]) rfl rfl rfl dX11_pass_4 rfl ?_
  refine mw_bnd (fun r2 er2 => ?_)
  refine mx_gS cx hzx ht (q := 10) (d := 6) (u0 := 1) (As := [.int (b2i r1)]) (r := r2) (v := none) (st := []) (st1 := []) (by rw [er2]; exact mc_X11_demand l hl D ta ad M r1) cv_X11_65 ⟨by decide, by decide⟩ ⟨by decide, by decide⟩ ⟨by decide, by decide⟩ (by simp [Value.category]) rfl rfl ⟨rfl, rfl⟩ dX11_pass_7 rfl (fun h3 => ?_)
  have qr20 : r1 = true := demand_ok (er2.symm.trans h3)
  refine mw_aload_n cx (q := 11) 0 rfl rfl dX11_pass_10 rfl ?_
  refine mw_get cx (q := 14) (v := .ref (ad 4 0 0)) gf_X11_42 rfl rfl vi_11_0 dX11_pass_11 rfl ?_
  refine mw_getN cx (q := 17) (v := .int (M 4 0 0 2)) gf_X11_161 rfl rfl vi_4_0 dX11_pass_14 rfl ?_
  refine mw_iload_n cx (q := 18) 1 rfl rfl dX11_pass_17 rfl ?_
  refine mw_iadd cx (q := 19) dX11_pass_18 rfl ?_
  refine mw_sipush cx (q := 22) (v := 1000) dX11_pass_19 rfl rfl ?_
  refine mw_jnP (P := fun (v4 : Bool) => (v4 = true → (M 4 0 0 2) + p1 ≤ 1000)) (Mj := fun (v4 : Bool) => M) (pj := 30) (lj := fun (v4 : Bool) => [(0, .ref (ad 11 0 0)), (1, .int p1)]) (sj := fun (v4 : Bool) => [.int (b2i v4)]) (fun v4 jv4 => ?_) (fun K5 hK5 => ?_)
  · have jv4_0 := jv4
    refine mw_bnd (fun r7 er7 => ?_)
    refine mx_gS cx hzx ht (q := 33) (d := 6) (u0 := 1) (As := [.int (b2i v4)]) (r := r7) (v := none) (st := []) (st1 := []) (by rw [er7]; exact mc_X11_demandState l hl D ta ad M v4) cv_X11_73 ⟨by decide, by decide⟩ ⟨by decide, by decide⟩ ⟨by decide, by decide⟩ (by simp [Value.category]) rfl rfl ⟨rfl, rfl⟩ dX11_pass_30 rfl (fun h8 => ?_)
    have qr70 : v4 = true := demandState_ok (er7.symm.trans h8)
    refine mw_iconst cx (q := 34) (v := 0) dX11_pass_33 rfl rfl ?_
    refine mw_istore_n cx (q := 35) (lv' := [(2, .int 0), (0, .ref (ad 11 0 0)), (1, .int p1)]) rfl rfl (by decide) dX11_pass_34 rfl ?_
    refine mw_iconst cx (q := 36) (v := 0) dX11_pass_35 rfl rfl ?_
    refine mw_istore_n cx (q := 37) (lv' := [(3, .int 0), (2, .int 0), (0, .ref (ad 11 0 0)), (1, .int p1)]) rfl rfl (by decide) dX11_pass_36 rfl ?_
    refine mw_loop (F := f11_pass_lp37 p1) (I := fun (x9 : Int32 × Int32 × Wm) => (0 ≤ (x9.1).toInt) ∧ (J x9.1 x9.2.2)) (μ := fun (x9 : Int32 × Int32 × Wm) => (101 - (x9.1).toInt).toNat) (Mx := fun (x9 : Int32 × Int32 × Wm) => x9.2.2) (px := 37) (lx := fun (x9 : Int32 × Int32 × Wm) => [(3, .int x9.1), (2, .int x9.2.1), (0, .ref (ad 11 0 0)), (1, .int p1)]) (fun n10 x9 ivx9 ih => ?_) 102 (0, 0, M) ⟨(by simp only [vp_in_iff, i32lt, i32le, i32eq, i32add, i32sub, i32mul, i32neg, t32_0] at J ⊢; omega), (hJ.1 (by have h9 := isIn11_t (er1.symm.trans qr20); rw [t32_1, t32_100] at h9; exact h9) (jv4_0 qr70))⟩ (by simp only [vp_in_iff, i32lt, i32le, i32eq, i32add, i32sub, i32mul, i32neg, t32_0] at J ⊢; omega)
    obtain ⟨ivx9_0, ivx9_1⟩ := ivx9
    refine mw_eqS (f11_pass_lp37_s p1 n10 x9) ?_
    refine mw_iload_n cx (q := 38) 0 rfl rfl dX11_pass_37 rfl ?_
    refine mw_iload_n cx (q := 39) 3 rfl rfl dX11_pass_38 rfl ?_
    refine mw_icmp_ge cx (tgt := 138) (q := 42) dX11_pass_39 (by decide) rfl (fun h11 => ?_) (fun h11 => ?_)
    · refine mw_iload_n cx (q := 139) 1 rfl rfl dX11_pass_138 rfl ?_
      exact mx_iret cx hr rfl rfl ⟨by decide, by decide⟩ dX11_pass_139
    · refine mw_aload_n cx (q := 43) 2 rfl rfl dX11_pass_42 rfl ?_
      refine mw_get cx (q := 46) (v := .ref (ad 4 0 0)) gf_X11_42 rfl rfl vi_11_0 dX11_pass_43 rfl ?_
      refine mw_dup cx (q := 47) dX11_pass_46 rfl rfl ?_
      refine mw_getN cx (q := 50) (v := .int (x9.2.2 4 0 0 2)) gf_X11_161 rfl rfl vi_4_0 dX11_pass_47 rfl ?_
      refine mw_iconst cx (q := 51) (v := 1) dX11_pass_50 rfl rfl ?_
      refine mw_iadd cx (q := 52) dX11_pass_51 rfl ?_
      refine mw_putNW cx (q := 55) 2 gf_X11_161 pf_X4_2 (int_fit _) rfl (Nat.le_of_ble_eq_true rfl) rfl vi_4_0 (by decide) dX11_pass_52 rfl (fun M12 eM12 => ?_)
      refine mw_aload_n cx (q := 56) 2 rfl rfl dX11_pass_55 rfl ?_
      refine mw_get cx (q := 59) (v := .ref (ad 4 0 0)) gf_X11_42 rfl rfl vi_11_0 dX11_pass_56 rfl ?_
      refine mw_getN cx (q := 62) (v := .int (x9.2.2 4 0 0 1)) gf_X11_165 rfl (by rw [eM12]; rfl) vi_4_0 dX11_pass_59 rfl ?_
      refine mw_bndT (fun v13 ev13 => ?_)
      refine mw_istore cx (q := 64) (lv' := [(4, .int v13), (3, .int x9.1), (2, .int x9.2.1), (0, .ref (ad 11 0 0)), (1, .int p1)]) rfl (by decide) dX11_pass_62 rfl ?_
      refine mw_iconst cx (q := 65) (v := 0) dX11_pass_64 rfl rfl ?_
      refine mw_istore cx (q := 67) (lv' := [(5, .int 0), (4, .int v13), (3, .int x9.1), (2, .int x9.2.1), (0, .ref (ad 11 0 0)), (1, .int p1)]) rfl (by decide) dX11_pass_65 rfl ?_
      refine mw_jnP (P := fun (y25 : Int32 × Wm) => (J (x9.1 + 1) y25.2)) (Mj := fun (y25 : Int32 × Wm) => y25.2) (pj := 132) (lj := fun (y25 : Int32 × Wm) => [(3, .int x9.1), (2, .int y25.1), (0, .ref (ad 11 0 0)), (1, .int p1)]) (sj := fun (y25 : Int32 × Wm) => []) (fun y25 jy25 => ?_) (fun K15 hK15 => ?_)
      · have jy25_0 := jy25
        refine mw_bnd (fun v26 ev26 => ?_)
        refine mw_iinc cx (q := 135) (v := v26) (lv' := [(3, .int v26), (2, .int y25.1), (0, .ref (ad 11 0 0)), (1, .int p1)]) 0 rfl (by rw [ev26]; rfl) rfl (by decide) dX11_pass_132 rfl ?_
        refine mw_goto cx (tgt := 37) dX11_pass_135 (by decide) ?_
        exact ih (v26, y25.1, y25.2) ⟨(by have h9 := isIn11_t (er1.symm.trans qr20); rw [t32_1, t32_100] at h9; have hz := (show ¬ p1 ≤ _ by assumption); have h0 := ivx9_0; simp only [i32le] at hz; rw [ev26, inc_t h0 (by omega)]; omega), (by rw [ev26]; assumption)⟩ (by have h9 := isIn11_t (er1.symm.trans qr20); rw [t32_1, t32_100] at h9; have hz := (show ¬ p1 ≤ _ by assumption); have h0 := ivx9_0; simp only [i32le] at hz; rw [ev26, inc_t h0 (by omega)]; omega)
      · refine mw_loop (F := f11_pass_lp67 v13 K15) (I := fun (x14 : Int32 × Int32 × Wm) => (0 ≤ (x14.1).toInt) ∧ (J (x9.1 + 1) x14.2.2) ∧ ((v13).toInt ≤ (x14.2.2 4 0 0 1).toInt)) (μ := fun (x14 : Int32 × Int32 × Wm) => (61 - (x14.1).toInt).toNat) (Mx := fun (x14 : Int32 × Int32 × Wm) => x14.2.2) (px := 67) (lx := fun (x14 : Int32 × Int32 × Wm) => [(5, .int x14.1), (4, .int v13), (3, .int x9.1), (2, .int x14.2.1), (0, .ref (ad 11 0 0)), (1, .int p1)]) (fun n16 x14 ivx14 ih => ?_) 62 (0, x9.2.1, M12) ⟨(by simp only [vp_in_iff, i32lt, i32le, i32eq, i32add, i32sub, i32mul, i32neg, t32_0] at J ⊢; omega), (by dsimp only; rw [eM12]; exact hJ.2.1 _ _ ivx9_0 (by have hz := (show ¬ p1 ≤ _ by assumption); have h0 := ivx9_0; simp only [i32le] at hz; omega) ivx9_1), (by dsimp only; rw [ev13, eM12]; exact Int.le_refl _)⟩ (by simp only [vp_in_iff, i32lt, i32le, i32eq, i32add, i32sub, i32mul, i32neg, t32_0, t32_61, t32_62] at J ⊢; omega)
        obtain ⟨ivx14_0, ivx14_1, ivx14_2⟩ := ivx14
        refine mw_eqS (f11_pass_lp67_s v13 K15 n16 x14) ?_
        refine mw_iload cx (q := 69) 0 rfl dX11_pass_67 rfl ?_
        refine mw_iload cx (q := 71) 1 rfl dX11_pass_69 rfl ?_
        refine mw_icmp_ge cx (tgt := 132) (q := 74) dX11_pass_71 (by decide) rfl (fun h17 => ?_) (fun h17 => ?_)
        · refine mw_sub [2, 3, 4, 5] rfl ?_
          exact hK15 (x14.2.1, x14.2.2) ivx14_1
        · refine mw_aload_n cx (q := 75) 4 rfl rfl dX11_pass_74 rfl ?_
          refine mw_get cx (q := 78) (v := .ref (ad 4 0 0)) gf_X11_42 rfl rfl vi_11_0 dX11_pass_75 rfl ?_
          refine mw_getN cx (q := 81) (v := .ref (ad 4 1 0)) gf_X11_168 rfl rfl vi_4_0 dX11_pass_78 rfl ?_
          refine mw_iload cx (q := 83) 0 rfl dX11_pass_81 rfl ?_
          refine mw_aald cx (q := 84) (fun _ => rfl) rfl rfl vi_4_1 (by have h1 := (hJ.2.2.1 _ _ ivx14_1).2; have hz := (show ¬ v13 ≤ _ by assumption); have h0 := ivx14_0; have h2 := ivx14_2; simp only [i32le] at hz; simp only [vp_in_iff]; omega) dX11_pass_83 rfl ?_
          refine mw_astore cx (q := 86) (lv' := [(6, .ref (ad 4 4 x14.1)), (5, .int x14.1), (4, .int v13), (3, .int x9.1), (2, .int x14.2.1), (0, .ref (ad 11 0 0)), (1, .int p1)]) rfl (by decide) dX11_pass_84 rfl ?_
          refine mw_aload cx (q := 88) 0 rfl dX11_pass_86 rfl ?_
          refine mw_getN cx (q := 91) (v := .int (x14.2.2 4 4 x14.1 4)) gf_X11_172 rfl rfl (show vp_in x14.1 60 from (by have h1 := (hJ.2.2.1 _ _ ivx14_1).2; have hz := (show ¬ v13 ≤ _ by assumption); have h0 := ivx14_0; have h2 := ivx14_2; simp only [i32le] at hz; simp only [vp_in_iff]; omega)) dX11_pass_88 rfl ?_
          refine mw_jnP (P := fun (v18 : Int32 × Wm) => (J (x9.1 + 1) v18.2) ∧ ((v13).toInt ≤ (v18.2 4 0 0 1).toInt)) (Mj := fun (v18 : Int32 × Wm) => v18.2) (pj := 126) (lj := fun (v18 : Int32 × Wm) => [(0, .ref (ad 11 0 0)), (1, .int p1), (2, .int v18.1), (3, .int x9.1), (4, .int v13), (5, .int x14.1)]) (sj := fun (v18 : Int32 × Wm) => []) (fun v18 jv18 => ?_) (fun K19 hK19 => ?_)
          · obtain ⟨jv18_0, jv18_1⟩ := jv18
            refine mw_bnd (fun v24 ev24 => ?_)
            refine mw_iinc cx (q := 129) (v := v24) (lv' := [(5, .int v24), (0, .ref (ad 11 0 0)), (1, .int p1), (2, .int v18.1), (3, .int x9.1), (4, .int v13)]) 5 rfl (by rw [ev24]; rfl) rfl (by decide) dX11_pass_126 rfl ?_
            refine mw_goto cx (tgt := 67) dX11_pass_129 (by decide) ?_
            refine mw_sub [0, 5, 4, 3, 1, 2] rfl ?_
            exact ih (v24, v18.1, v18.2) ⟨(by have h1 := (hJ.2.2.1 _ _ ivx14_1).2; have hz := (show ¬ v13 ≤ _ by assumption); have h0 := ivx14_0; have h2 := ivx14_2; simp only [i32le] at hz; rw [ev24, inc_t h0 (by omega)]; omega), jv18_0, jv18_1⟩ (by have h1 := (hJ.2.2.1 _ _ ivx14_1).2; have hz := (show ¬ v13 ≤ _ by assumption); have h0 := ivx14_0; have h2 := ivx14_2; simp only [i32le] at hz; rw [ev24, inc_t h0 (by omega)]; omega)
          · refine mw_if_ne cx (tgt := 126) (q := 94) dX11_pass_91 (by decide) rfl (fun h20 => ?_) (fun h20 => ?_)
            · refine mw_sub [5, 6, 4, 3, 2, 1] rfl ?_
              exact hK19 (x14.2.1, x14.2.2) ⟨ivx14_1, ivx14_2⟩
            · refine mw_aload cx (q := 96) 0 rfl dX11_pass_94 rfl ?_
              refine mw_getN cx (q := 99) (v := .int (x14.2.2 4 4 x14.1 2)) gf_X11_177 rfl rfl (show vp_in x14.1 60 from (by have h1 := (hJ.2.2.1 _ _ ivx14_1).2; have hz := (show ¬ v13 ≤ _ by assumption); have h0 := ivx14_0; have h2 := ivx14_2; simp only [i32le] at hz; simp only [vp_in_iff]; omega)) dX11_pass_96 rfl ?_
              refine mw_aload_n cx (q := 100) 5 rfl rfl dX11_pass_99 rfl ?_
              refine mw_get cx (q := 103) (v := .ref (ad 4 0 0)) gf_X11_42 rfl rfl vi_11_0 dX11_pass_100 rfl ?_
              refine mw_getN cx (q := 106) (v := .int (x14.2.2 4 0 0 2)) gf_X11_161 rfl rfl vi_4_0 dX11_pass_103 rfl ?_
              refine mw_icmp_ne cx (tgt := 126) (q := 109) dX11_pass_106 (by decide) rfl (fun h21 => ?_) (fun h21 => ?_)
              · refine mw_sub [5, 6, 4, 3, 2, 1] rfl ?_
                exact hK19 (x14.2.1, x14.2.2) ⟨ivx14_1, ivx14_2⟩
              · refine mw_aload_n cx (q := 110) 5 rfl rfl dX11_pass_109 rfl ?_
                refine mw_get cx (q := 113) (v := .ref (ad 7 0 0)) gf_X11_51 rfl rfl vi_11_0 dX11_pass_110 rfl ?_
                refine mw_iload cx (q := 115) 1 rfl dX11_pass_113 rfl ?_
                refine mw_aload cx (q := 117) 0 rfl dX11_pass_115 rfl ?_
                refine mw_getN cx (q := 120) (v := .int (x14.2.2 4 4 x14.1 3)) gf_X11_178 rfl rfl (show vp_in x14.1 60 from (by have h1 := (hJ.2.2.1 _ _ ivx14_1).2; have hz := (show ¬ v13 ≤ _ by assumption); have h0 := ivx14_0; have h2 := ivx14_2; simp only [i32le] at hz; simp only [vp_in_iff]; omega)) dX11_pass_117 rfl ?_
                refine mw_bnd (fun r22 er22 => ?_)
                refine mw_callV cx (q := 123) (d := 219) (As := [.int x14.1, .int (x14.2.2 4 4 x14.1 3)]) (z := fv r22) (st := []) (st1 := []) (M' := r22) (by rw [er22]; exact mc_X7_execute l D ta ad x14.2.2 x14.1 (x14.2.2 4 4 x14.1 3) (hJ.2.2.2 _ _ _ ivx14_1 ivx14_0 (by have hz := (show ¬ v13 ≤ _ by assumption); have h2 := ivx14_2; simp only [i32le] at hz; omega) (by assumption) (by assumption)).1.1 (hJ.2.2.2 _ _ _ ivx14_1 ivx14_0 (by have hz := (show ¬ v13 ≤ _ by assumption); have h2 := ivx14_2; simp only [i32le] at hz; omega) (by assumption) (by assumption)).1.2.1 (hJ.2.2.2 _ _ _ ivx14_1 ivx14_0 (by have hz := (show ¬ v13 ≤ _ by assumption); have h2 := ivx14_2; simp only [i32le] at hz; omega) (by assumption) (by assumption)).1.2.2.1 (hJ.2.2.2 _ _ _ ivx14_1 ivx14_0 (by have hz := (show ¬ v13 ≤ _ by assumption); have h2 := ivx14_2; simp only [i32le] at hz; omega) (by assumption) (by assumption)).1.2.2.2.1 (hJ.2.2.2 _ _ _ ivx14_1 ivx14_0 (by have hz := (show ¬ v13 ≤ _ by assumption); have h2 := ivx14_2; simp only [i32le] at hz; omega) (by assumption) (by assumption)).1.2.2.2.2) cv_X11_181 rfl rfl rfl vi_7_0 ⟨Nat.le_of_ble_eq_true rfl, Nat.le_of_ble_eq_true rfl⟩ ⟨by decide, by decide⟩ (by simp [Value.category]) rfl rfl rfl dX11_pass_120 rfl ?_
                refine mw_bnd (fun v23 ev23 => ?_)
                refine mw_iinc cx (q := 126) (v := v23) (lv' := [(2, .int v23), (6, .ref (ad 4 4 x14.1)), (5, .int x14.1), (4, .int v13), (3, .int x9.1), (0, .ref (ad 11 0 0)), (1, .int p1)]) 4 rfl (by rw [ev23]; rfl) rfl (by decide) dX11_pass_123 rfl ?_
                refine mw_sub [5, 6, 0, 4, 3, 2] rfl ?_
                exact hK19 (v23, r22) ⟨(by first | assumption | (rw [er22]; exact (hJ.2.2.2 _ _ _ ivx14_1 ivx14_0 (by have hz := (show ¬ v13 ≤ _ by assumption); have h2 := ivx14_2; simp only [i32le] at hz; omega) (by assumption) (by assumption)).2.1)), (by first | assumption | (dsimp only; rw [er22]; have h7 := (hJ.2.2.2 _ _ _ ivx14_1 ivx14_0 (by have hz := (show ¬ v13 ≤ _ by assumption); have h2 := ivx14_2; simp only [i32le] at hz; omega) (by assumption) (by assumption)).2.2; have h8 := ivx14_2; omega))⟩
  · refine mw_icmp_gt cx (tgt := 29) (q := 25) dX11_pass_22 (by decide) rfl (fun h6 => ?_) (fun h6 => ?_)
    · refine mw_iconst cx (q := 30) (v := 0) dX11_pass_29 rfl rfl ?_
      exact hK5 false (by intro hz; first | exact absurd hz (by decide) | exact Int32.not_lt.mp (by assumption))
    · refine mw_iconst cx (q := 26) (v := 1) dX11_pass_25 rfl rfl ?_
      refine mw_goto cx (tgt := 30) dX11_pass_26 (by decide) ?_
      exact hK5 true (by intro hz; first | exact absurd hz (by decide) | exact Int32.not_lt.mp (by assumption))
