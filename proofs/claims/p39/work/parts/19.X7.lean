def fOrd (w : Int32) : Int32 := w
theorem goodOf_in {n : Int32} (h : ¬ f10_goodOf n = -1) : vp_in (f10_goodOf n) 8 := by
  unfold f10_goodOf at h ⊢
  by_cases c1 : n < 1
  · rw [if_pos c1] at h; exact absurd rfl h
  · rw [if_neg c1] at h ⊢
    by_cases c2 : 8 < n
    · rw [if_pos c2] at h; exact absurd rfl h
    · rw [if_neg c2]
      simp only [i32lt, t32_1, t32_8] at c1 c2
      rw [vp_in_iff, i32subn (by rw [t32_1]; omega) (by rw [t32_1]; omega), t32_1]; omega
theorem own_in {k : Int32} (h : vp_in k 4) : vp_in (k + 1) 5 := by
  rw [vp_in_iff] at h ⊢
  rw [i32addn (by rw [t32_1]; omega) (by rw [t32_1]; omega), t32_1]; omega
theorem fstrLen_in {i j : Int32} (hi : vp_in i 9) (h0 : 0 ≤ j.toInt) (h : ¬ fstrLen i ≤ j) : vp_in j (stLen i) := by
  have := st_lenI hi
  unfold fstrLen at h
  rw [i32le, nI_toInt (by omega)] at h
  rw [vp_in_iff]; omega
theorem fstrLen_lt {i : Int32} (hi : vp_in i 9) : 0 ≤ (fstrLen i).toInt ∧ (fstrLen i).toInt < 4 := by
  have := st_lenI hi
  unfold fstrLen
  rw [nI_toInt (by omega)]; omega
def f7_stop (m : Cm) (p1 : Int32) : (Int32 × Cm) := bnd (u3 m 0 0 10 p1) (fun (m1 : Cm) => (0, m1))
set_option maxHeartbeats 4000000 in
set_option maxRecDepth 100000 in
theorem mc_X7_stop (l : Launch) (D : va_G) (ta : wTa) (ad : wAd) (M : Wm) (p1 : Int32) : MC l D ta ad yX7_stop cX7_stop 2 (some .int) 0 [.ref (ad 7 0 0), .int p1] M (fic M 7 (f7_stop (M 7) p1)) := by
  refine MC.of (fic M 7) (f7_stop (M 7) p1) rfl (by decide) (Nat.le_of_ble_eq_true rfl) (fun p e s m args below meth c cx hr => ?_)
  unfold f7_stop
  refine mw_sub (lv' := [(0, .ref (ad 7 0 0)), (1, .int p1)]) [0, 1] rfl ?_
  refine mw_eqM (uW_self M 7) ?_
  refine mw_aload_n cx (q := 1) 0 rfl rfl dX7_stop_0 rfl ?_
  refine mw_iload_n cx (q := 2) 1 rfl rfl dX7_stop_1 rfl ?_
  refine mw_putC cx (q := 5) 10 gf_X7_60 pf_X7_10 (int_fit _) rfl (Nat.le_of_ble_eq_true rfl) rfl vi_7_0 (by decide) dX7_stop_2 rfl (fun m1 em1 => ?_)
  refine mw_iconst cx (q := 6) (v := 0) dX7_stop_5 rfl rfl ?_
  exact mw_iret cx hr rfl dX7_stop_6
theorem ok7_f7_stop {M : Wm} (h : Ok7 M) (a : Int32) : Ok7 (uW M 7 (f7_stop (M 7) a).2) := ok7_put7 h (by decide)
def f7_stateThen (m : Cm) : Int32 := if (m 0 0 10) = 0 then 1 else if (m 0 0 10) = 7 then 2 else 3
set_option maxHeartbeats 4000000 in
set_option maxRecDepth 100000 in
theorem mc_X7_stateThen (l : Launch) (D : va_G) (ta : wTa) (ad : wAd) (M : Wm) : MC l D ta ad yX7_stateThen cX7_stateThen 1 (some .int) 0 [.ref (ad 7 0 0)] M (fip M (f7_stateThen (M 7))) := by
  refine MC.of (fip M) (f7_stateThen (M 7)) rfl (by decide) (Nat.le_of_ble_eq_true rfl) (fun p e s m args below meth c cx hr => ?_)
  unfold f7_stateThen
  refine mw_sub (lv' := [(0, .ref (ad 7 0 0))]) [0] rfl ?_
  refine mw_aload_n cx (q := 1) 0 rfl rfl dX7_stateThen_0 rfl ?_
  refine mw_get cx (q := 4) (v := .int ((M 7) 0 0 10)) gf_X7_60 rfl rfl vi_7_0 dX7_stateThen_1 rfl ?_
  refine mw_if_ne cx (tgt := 9) (q := 7) dX7_stateThen_4 (by decide) rfl (fun h1 => ?_) (fun h1 => ?_)
  · refine mw_aload_n cx (q := 10) 0 rfl rfl dX7_stateThen_9 rfl ?_
    refine mw_get cx (q := 13) (v := .int ((M 7) 0 0 10)) gf_X7_60 rfl rfl vi_7_0 dX7_stateThen_10 rfl ?_
    refine mw_bipush cx (q := 15) (v := 7) dX7_stateThen_13 rfl rfl ?_
    refine mw_icmp_ne cx (tgt := 22) (q := 18) dX7_stateThen_15 (by decide) rfl (fun h2 => ?_) (fun h2 => ?_)
    · refine mw_iconst cx (q := 23) (v := 3) dX7_stateThen_22 rfl rfl ?_
      exact mw_iret cx hr rfl dX7_stateThen_23
    · refine mw_iconst cx (q := 19) (v := 2) dX7_stateThen_18 rfl rfl ?_
      refine mw_goto cx (tgt := 23) dX7_stateThen_19 (by decide) ?_
      exact mw_iret cx hr rfl dX7_stateThen_23
  · refine mw_iconst cx (q := 8) (v := 1) dX7_stateThen_7 rfl rfl ?_
    exact mw_iret cx hr rfl dX7_stateThen_8
def f7_valueOfName (M : Wm) (p1 : Int32) : (Int32 × Wm) := bnd (f2_find (M 2) p1) (fun (r1 : Int32) => if r1 = (-1) then bnd (f10_goodOf p1) (fun (r3 : Int32) => if r3 = (-1) then bnd (f7_stop (M 7) 3) (fun (r6 : Int32 × Cm) => bnd (uW M 7 r6.2) (fun (M7 : Wm) => (r6.1, M7))) else bnd (f1_stockOf (M 1) (M 7 0 0 7) r3) (fun (r5 : Int32) => (r5, M))) else bnd (f2_valueAt (M 2) r1) (fun (r9 : Int32) => (r9, M)))
set_option maxHeartbeats 4000000 in
set_option maxRecDepth 100000 in
theorem mc_X7_valueOfName (l : Launch) (D : va_G) (ta : wTa) (ad : wAd) (M : Wm) (p1 : Int32) (hok : Ok7 M) : MC l D ta ad yX7_valueOfName cX7_valueOfName 4 (some .int) 2 [.ref (ad 7 0 0), .int p1] M (fi (f7_valueOfName M p1)) := by
  refine MC.of (fi) (f7_valueOfName M p1) rfl (by decide) (Nat.le_of_ble_eq_true rfl) (fun p e s m args below meth c cx hr => ?_)
  unfold f7_valueOfName
  refine mw_sub (lv' := [(0, .ref (ad 7 0 0)), (1, .int p1)]) [0, 1] rfl ?_
  refine mw_aload_n cx (q := 1) 0 rfl rfl dX7_valueOfName_0 rfl ?_
  refine mw_get cx (q := 4) (v := .ref (ad 2 0 0)) gf_X7_12 rfl rfl vi_7_0 dX7_valueOfName_1 rfl ?_
  refine mw_iload_n cx (q := 5) 1 rfl rfl dX7_valueOfName_4 rfl ?_
  refine mw_bnd (fun r1 er1 => ?_)
  refine mw_callV cx (q := 8) (d := 0) (As := [.int p1]) (z := fip M r1) (st := []) (st1 := [.int r1]) (M' := M) (by rw [er1]; exact mc_X2_find l D ta ad M p1 hok.2.1 hok.2.2.1) cv_X7_151 rfl rfl rfl vi_2_0 ⟨Nat.le_of_ble_eq_true rfl, Nat.le_of_ble_eq_true rfl⟩ ⟨Nat.le_refl _, Nat.le_refl _⟩ (by simp [Value.category]) rfl rfl rfl dX7_valueOfName_5 rfl ?_
  refine mw_istore_n cx (q := 9) (lv' := [(2, .int r1), (0, .ref (ad 7 0 0)), (1, .int p1)]) rfl rfl (by decide) dX7_valueOfName_8 rfl ?_
  refine mw_iload_n cx (q := 10) 0 rfl rfl dX7_valueOfName_9 rfl ?_
  refine mw_iconst cx (q := 11) (v := (-1)) dX7_valueOfName_10 rfl rfl ?_
  refine mw_icmp_eq cx (tgt := 23) (q := 14) dX7_valueOfName_11 (by decide) rfl (fun h2 => ?_) (fun h2 => ?_)
  · refine mw_iload_n cx (q := 24) 2 rfl rfl dX7_valueOfName_23 rfl ?_
    refine mw_bnd (fun r3 er3 => ?_)
    refine mw_callS cx (q := 27) (d := 0) (As := [.int p1]) (z := fip M r3) (st := []) (st1 := [.int r3]) (M' := M) (by rw [er3]; exact mc_X10_goodOf l D ta ad M p1) cv_X7_156 ⟨Nat.le_of_ble_eq_true rfl, Nat.le_of_ble_eq_true rfl⟩ ⟨Nat.le_refl _, Nat.le_refl _⟩ (by simp [Value.category]) rfl rfl rfl dX7_valueOfName_24 rfl ?_
    refine mw_istore_n cx (q := 28) (lv' := [(3, .int r3), (2, .int r1), (0, .ref (ad 7 0 0)), (1, .int p1)]) rfl rfl (by decide) dX7_valueOfName_27 rfl ?_
    refine mw_iload_n cx (q := 29) 0 rfl rfl dX7_valueOfName_28 rfl ?_
    refine mw_iconst cx (q := 30) (v := (-1)) dX7_valueOfName_29 rfl rfl ?_
    refine mw_icmp_ne cx (tgt := 41) (q := 33) dX7_valueOfName_30 (by decide) rfl (fun h4 => ?_) (fun h4 => ?_)
    · refine mw_aload_n cx (q := 42) 2 rfl rfl dX7_valueOfName_41 rfl ?_
      refine mw_get cx (q := 45) (v := .ref (ad 1 0 0)) gf_X7_30 rfl rfl vi_7_0 dX7_valueOfName_42 rfl ?_
      refine mw_aload_n cx (q := 46) 2 rfl rfl dX7_valueOfName_45 rfl ?_
      refine mw_get cx (q := 49) (v := .int (M 7 0 0 7)) gf_X7_53 rfl rfl vi_7_0 dX7_valueOfName_46 rfl ?_
      refine mw_iload_n cx (q := 50) 0 rfl rfl dX7_valueOfName_49 rfl ?_
      refine mw_bnd (fun r5 er5 => ?_)
      refine mw_callV cx (q := 53) (d := 0) (As := [.int (M 7 0 0 7), .int r3]) (z := fip M r5) (st := []) (st1 := [.int r5]) (M' := M) (by rw [er5]; exact mc_X1_stockOf l D ta ad M (M 7 0 0 7) r3 (own_in hok.1) (by have hz := h4; rw [er3] at hz ⊢; exact goodOf_in hz)) cv_X7_161 rfl rfl rfl vi_1_0 ⟨Nat.le_of_ble_eq_true rfl, Nat.le_of_ble_eq_true rfl⟩ ⟨Nat.le_refl _, Nat.le_refl _⟩ (by simp [Value.category]) rfl rfl rfl dX7_valueOfName_50 rfl ?_
      exact mw_iret cx hr rfl dX7_valueOfName_53
    · refine mw_aload_n cx (q := 34) 2 rfl rfl dX7_valueOfName_33 rfl ?_
      refine mw_iconst cx (q := 35) (v := 3) dX7_valueOfName_34 rfl rfl ?_
      refine mw_bnd (fun r6 er6 => ?_)
      refine mw_callV cx (q := 38) (d := 0) (As := [.int 3]) (z := fic M 7 r6) (st := []) (st1 := [.int r6.1]) (M' := uW M 7 r6.2) (by rw [er6]; exact mc_X7_stop l D ta ad M 3) cv_X7_136 rfl rfl rfl vi_7_0 ⟨Nat.le_of_ble_eq_true rfl, Nat.le_of_ble_eq_true rfl⟩ ⟨Nat.le_refl _, Nat.le_refl _⟩ (by simp [Value.category]) rfl rfl rfl dX7_valueOfName_35 rfl ?_
      refine mw_bndM (fun M7 eM7 => ?_)
      have ok8 : Ok7 M7 := (by rw [eM7, er6]; exact ok7_f7_stop hok 3)
      refine mw_goto cx (tgt := 53) dX7_valueOfName_38 (by decide) ?_
      exact mw_iret cx hr rfl dX7_valueOfName_53
  · refine mw_aload_n cx (q := 15) 1 rfl rfl dX7_valueOfName_14 rfl ?_
    refine mw_get cx (q := 18) (v := .ref (ad 2 0 0)) gf_X7_12 rfl rfl vi_7_0 dX7_valueOfName_15 rfl ?_
    refine mw_iload_n cx (q := 19) 0 rfl rfl dX7_valueOfName_18 rfl ?_
    refine mw_bnd (fun r9 er9 => ?_)
    refine mw_callV cx (q := 22) (d := 1) (As := [.int r1]) (z := fip M r9) (st := []) (st1 := [.int r9]) (M' := M) (by rw [er9]; exact mc_X2_valueAt l D ta ad M r1 hok.2.1 hok.2.2.1) cv_X7_154 rfl rfl rfl vi_2_0 ⟨Nat.le_of_ble_eq_true rfl, Nat.le_of_ble_eq_true rfl⟩ ⟨Nat.le_refl _, Nat.le_refl _⟩ (by simp [Value.category]) rfl rfl rfl dX7_valueOfName_19 rfl ?_
    exact mw_iret cx hr rfl dX7_valueOfName_22
def f7_suits (M : Wm) (p1 : Int32) (p2 : Int32) : Bool := bnd (f9_kindOf (M 9) p1) (fun (r1 : Int32) => if p2 = 103 then if r1 = 2 then bnd (f9_contentOf (M 9) p1) (fun (r4 : Int32) => bnd (f10_goodOf r4) (fun (r5 : Int32) => if r5 = (-1) then false else true)) else false else if p2 = 108 then if r1 = 3 then true else false else if p2 = 120 then if r1 = 2 then true else false else true)
set_option maxHeartbeats 4000000 in
set_option maxRecDepth 100000 in
theorem mc_X7_suits (l : Launch) (D : va_G) (ta : wTa) (ad : wAd) (M : Wm) (p1 : Int32) (p2 : Int32) : MC l D ta ad yX7_suits cX7_suits 4 (some .boolean) 1 [.ref (ad 7 0 0), .int p1, .int p2] M (fzp M (f7_suits M p1 p2)) := by
  refine MC.of (fzp M) (f7_suits M p1 p2) rfl (by decide) (Nat.le_of_ble_eq_true rfl) (fun p e s m args below meth c cx hr => ?_)
  unfold f7_suits
  refine mw_sub (lv' := [(0, .ref (ad 7 0 0)), (1, .int p1), (2, .int p2)]) [0, 1, 2] rfl ?_
  refine mw_aload_n cx (q := 1) 0 rfl rfl dX7_suits_0 rfl ?_
  refine mw_get cx (q := 4) (v := .ref (ad 9 0 0)) gf_X7_18 rfl rfl vi_7_0 dX7_suits_1 rfl ?_
  refine mw_iload_n cx (q := 5) 1 rfl rfl dX7_suits_4 rfl ?_
  refine mw_bnd (fun r1 er1 => ?_)
  refine mw_callV cx (q := 8) (d := 0) (As := [.int p1]) (z := fip M r1) (st := []) (st1 := [.int r1]) (M' := M) (by rw [er1]; exact mc_X9_kindOf l D ta ad M p1) cv_X7_139 rfl rfl rfl vi_9_0 ⟨Nat.le_of_ble_eq_true rfl, Nat.le_of_ble_eq_true rfl⟩ ⟨Nat.le_refl _, Nat.le_refl _⟩ (by simp [Value.category]) rfl rfl rfl dX7_suits_5 rfl ?_
  refine mw_istore_n cx (q := 9) (lv' := [(3, .int r1), (0, .ref (ad 7 0 0)), (1, .int p1), (2, .int p2)]) rfl rfl (by decide) dX7_suits_8 rfl ?_
  refine mw_iload_n cx (q := 10) 3 rfl rfl dX7_suits_9 rfl ?_
  refine mw_split (fun h2 => ?_) (fun h2 => ?_)
  · refine mw_lookup cx (tgt := 44) dX7_suits_10 rfl (by rw [h2]; try rfl) (by decide) ?_
    refine mw_iload_n cx (q := 45) 0 rfl rfl dX7_suits_44 rfl ?_
    refine mw_iconst cx (q := 46) (v := 2) dX7_suits_45 rfl rfl ?_
    refine mw_icmp_ne cx (tgt := 68) (q := 49) dX7_suits_46 (by decide) rfl (fun h3 => ?_) (fun h3 => ?_)
    · refine mw_iconst cx (q := 69) (v := 0) dX7_suits_68 rfl rfl ?_
      exact mw_zret cx hr rfl rfl dX7_suits_69
    · refine mw_aload_n cx (q := 50) 1 rfl rfl dX7_suits_49 rfl ?_
      refine mw_get cx (q := 53) (v := .ref (ad 9 0 0)) gf_X7_18 rfl rfl vi_7_0 dX7_suits_50 rfl ?_
      refine mw_iload_n cx (q := 54) 2 rfl rfl dX7_suits_53 rfl ?_
      refine mw_bnd (fun r4 er4 => ?_)
      refine mw_callV cx (q := 57) (d := 0) (As := [.int p1]) (z := fip M r4) (st := []) (st1 := [.int r4]) (M' := M) (by rw [er4]; exact mc_X9_contentOf l D ta ad M p1) cv_X7_142 rfl rfl rfl vi_9_0 ⟨Nat.le_of_ble_eq_true rfl, Nat.le_of_ble_eq_true rfl⟩ ⟨Nat.le_refl _, Nat.le_refl _⟩ (by simp [Value.category]) rfl rfl rfl dX7_suits_54 rfl ?_
      refine mw_bnd (fun r5 er5 => ?_)
      refine mw_callS cx (q := 60) (d := 0) (As := [.int r4]) (z := fip M r5) (st := []) (st1 := [.int r5]) (M' := M) (by rw [er5]; exact mc_X10_goodOf l D ta ad M r4) cv_X7_156 ⟨Nat.le_of_ble_eq_true rfl, Nat.le_of_ble_eq_true rfl⟩ ⟨Nat.le_refl _, Nat.le_refl _⟩ (by simp [Value.category]) rfl rfl rfl dX7_suits_57 rfl ?_
      refine mw_iconst cx (q := 61) (v := (-1)) dX7_suits_60 rfl rfl ?_
      refine mw_icmp_eq cx (tgt := 68) (q := 64) dX7_suits_61 (by decide) rfl (fun h6 => ?_) (fun h6 => ?_)
      · refine mw_iconst cx (q := 69) (v := 0) dX7_suits_68 rfl rfl ?_
        exact mw_zret cx hr rfl rfl dX7_suits_69
      · refine mw_iconst cx (q := 65) (v := 1) dX7_suits_64 rfl rfl ?_
        refine mw_goto cx (tgt := 69) dX7_suits_65 (by decide) ?_
        exact mw_zret cx hr rfl rfl dX7_suits_69
  · refine mw_split (fun h7 => ?_) (fun h7 => ?_)
    · refine mw_lookup cx (tgt := 81) dX7_suits_10 rfl (by rw [h7]; try rfl) (by decide) ?_
      refine mw_iload_n cx (q := 82) 0 rfl rfl dX7_suits_81 rfl ?_
      refine mw_iconst cx (q := 83) (v := 3) dX7_suits_82 rfl rfl ?_
      refine mw_icmp_ne cx (tgt := 90) (q := 86) dX7_suits_83 (by decide) rfl (fun h8 => ?_) (fun h8 => ?_)
      · refine mw_iconst cx (q := 91) (v := 0) dX7_suits_90 rfl rfl ?_
        exact mw_zret cx hr rfl rfl dX7_suits_91
      · refine mw_iconst cx (q := 87) (v := 1) dX7_suits_86 rfl rfl ?_
        refine mw_goto cx (tgt := 91) dX7_suits_87 (by decide) ?_
        exact mw_zret cx hr rfl rfl dX7_suits_91
    · refine mw_split (fun h9 => ?_) (fun h9 => ?_)
      · refine mw_lookup cx (tgt := 70) dX7_suits_10 rfl (by rw [h9]; try rfl) (by decide) ?_
        refine mw_iload_n cx (q := 71) 0 rfl rfl dX7_suits_70 rfl ?_
        refine mw_iconst cx (q := 72) (v := 2) dX7_suits_71 rfl rfl ?_
        refine mw_icmp_ne cx (tgt := 79) (q := 75) dX7_suits_72 (by decide) rfl (fun h10 => ?_) (fun h10 => ?_)
        · refine mw_iconst cx (q := 80) (v := 0) dX7_suits_79 rfl rfl ?_
          exact mw_zret cx hr rfl rfl dX7_suits_80
        · refine mw_iconst cx (q := 76) (v := 1) dX7_suits_75 rfl rfl ?_
          refine mw_goto cx (tgt := 80) dX7_suits_76 (by decide) ?_
          exact mw_zret cx hr rfl rfl dX7_suits_80
      · refine mw_lookup cx (tgt := 92) dX7_suits_10 rfl (look_out3 h2 h7 h9) (by decide) ?_
        refine mw_iconst cx (q := 93) (v := 1) dX7_suits_92 rfl rfl ?_
        exact mw_zret cx hr rfl rfl dX7_suits_93
def f7_fits_lp32 (M : Wm) (p2 : Int32) : Nat → (Int32 × Int32) → Bool
  | 0, x5 => false
  | n6 + 1, x5 => bnd (fstrLen (wdForm p2)) (fun (r7 : Int32) => if r7 ≤ x5.1 then true else bnd (stByte (wdForm p2) x5.1) (fun (r9 : Int32) => bnd (f7_suits M x5.2 r9) (fun (r10 : Bool) => if r10 = true then bnd (f9_nextOf (M 9) x5.2) (fun (r12 : Int32) => bnd (x5.1 + 1) (fun (v13 : Int32) => f7_fits_lp32 M p2 n6 (v13, r12))) else false)))
theorem f7_fits_lp32_s (M : Wm) (p2 : Int32) (n6 : Nat) (x5 : Int32 × Int32) : f7_fits_lp32 M p2 (n6 + 1) x5 = bnd (fstrLen (wdForm p2)) (fun (r7 : Int32) => if r7 ≤ x5.1 then true else bnd (stByte (wdForm p2) x5.1) (fun (r9 : Int32) => bnd (f7_suits M x5.2 r9) (fun (r10 : Bool) => if r10 = true then bnd (f9_nextOf (M 9) x5.2) (fun (r12 : Int32) => bnd (x5.1 + 1) (fun (v13 : Int32) => f7_fits_lp32 M p2 n6 (v13, r12))) else false))) := rfl
def f7_fits (M : Wm) (p1 : Int32) (p2 : Int32) : Bool := bnd (f9_partsOf (M 9) p1) (fun (r1 : Int32) => bnd (f10_allows p2 (r1 - 1)) (fun (r2 : Bool) => if r2 = true then bnd (f9_partOf (M 9) p1 1) (fun (r4 : Int32) => f7_fits_lp32 M p2 5 (0, r4)) else false))
set_option maxHeartbeats 4000000 in
set_option maxRecDepth 100000 in
theorem mc_X7_fits (l : Launch) (D : va_G) (ta : wTa) (ad : wAd) (M : Wm) (p1 : Int32) (p2 : Int32) (hp2 : vp_in p2 26) : MC l D ta ad yX7_fits cX7_fits 5 (some .boolean) 4 [.ref (ad 7 0 0), .int p1, .ref (ad 10 0 p2)] M (fzp M (f7_fits M p1 p2)) := by
  refine MC.of (fzp M) (f7_fits M p1 p2) rfl (by decide) (Nat.le_of_ble_eq_true rfl) (fun p e s m args below meth c cx hr => ?_)
  unfold f7_fits
  refine mw_sub (lv' := [(0, .ref (ad 7 0 0)), (1, .int p1), (2, .ref (ad 10 0 p2))]) [0, 1, 2] rfl ?_
  refine mw_aload_n cx (q := 1) 2 rfl rfl dX7_fits_0 rfl ?_
  refine mw_aload_n cx (q := 2) 0 rfl rfl dX7_fits_1 rfl ?_
  refine mw_get cx (q := 5) (v := .ref (ad 9 0 0)) gf_X7_18 rfl rfl vi_7_0 dX7_fits_2 rfl ?_
  refine mw_iload_n cx (q := 6) 1 rfl rfl dX7_fits_5 rfl ?_
  refine mw_bnd (fun r1 er1 => ?_)
  refine mw_callV cx (q := 9) (d := 0) (As := [.int p1]) (z := fip M r1) (st := [.ref (ad 10 0 p2)]) (st1 := [.int r1, .ref (ad 10 0 p2)]) (M' := M) (by rw [er1]; exact mc_X9_partsOf l D ta ad M p1) cv_X7_90 rfl rfl rfl vi_9_0 ⟨Nat.le_of_ble_eq_true rfl, Nat.le_of_ble_eq_true rfl⟩ ⟨Nat.le_refl _, Nat.le_refl _⟩ (by simp [Value.category]) rfl rfl rfl dX7_fits_6 rfl ?_
  refine mw_iconst cx (q := 10) (v := 1) dX7_fits_9 rfl rfl ?_
  refine mw_isub cx (q := 11) dX7_fits_10 rfl ?_
  refine mw_bnd (fun r2 er2 => ?_)
  refine mw_callVK cx (q := 14) (d := 2) (As := [.int (r1 - 1)]) (z := fzp M r2) (st := []) (st1 := [.int (b2i r2)]) (M' := M) (by rw [er2]; exact mc_X10_allows l D ta ad M p2 (r1 - 1) hp2) cv_X7_232 ((cx_st cx).2.1 _ hp2).1 ⟨Nat.le_of_ble_eq_true rfl, Nat.le_of_ble_eq_true rfl⟩ ⟨Nat.le_refl _, Nat.le_refl _⟩ (by simp [Value.category]) rfl rfl rfl dX7_fits_11 rfl ?_
  refine mw_ifb_ne cx (tgt := 19) (q := 17) dX7_fits_14 (by decide) rfl (fun h3 => ?_) (fun h3 => ?_)
  · refine mw_aload_n cx (q := 20) 0 rfl rfl dX7_fits_19 rfl ?_
    refine mw_get cx (q := 23) (v := .ref (ad 9 0 0)) gf_X7_18 rfl rfl vi_7_0 dX7_fits_20 rfl ?_
    refine mw_iload_n cx (q := 24) 1 rfl rfl dX7_fits_23 rfl ?_
    refine mw_iconst cx (q := 25) (v := 1) dX7_fits_24 rfl rfl ?_
    refine mw_bnd (fun r4 er4 => ?_)
    refine mw_callV cx (q := 28) (d := 0) (As := [.int p1, .int 1]) (z := fip M r4) (st := []) (st1 := [.int r4]) (M' := M) (by rw [er4]; exact mc_X9_partOf l D ta ad M p1 1) cv_X7_86 rfl rfl rfl vi_9_0 ⟨Nat.le_of_ble_eq_true rfl, Nat.le_of_ble_eq_true rfl⟩ ⟨Nat.le_refl _, Nat.le_refl _⟩ (by simp [Value.category]) rfl rfl rfl dX7_fits_25 rfl ?_
    refine mw_istore_n cx (q := 29) (lv' := [(3, .int r4), (0, .ref (ad 7 0 0)), (1, .int p1), (2, .ref (ad 10 0 p2))]) rfl rfl (by decide) dX7_fits_28 rfl ?_
    refine mw_iconst cx (q := 30) (v := 0) dX7_fits_29 rfl rfl ?_
    refine mw_istore cx (q := 32) (lv' := [(4, .int 0), (3, .int r4), (0, .ref (ad 7 0 0)), (1, .int p1), (2, .ref (ad 10 0 p2))]) rfl (by decide) dX7_fits_30 rfl ?_
    refine mw_sub [0, 1, 2, 4] rfl ?_
    refine mw_loop (F := f7_fits_lp32 M p2) (I := fun (x5 : Int32 × Int32) => 0 ≤ (x5.1).toInt) (μ := fun (x5 : Int32 × Int32) => (4 - (x5.1).toInt).toNat) (Mx := fun (x5 : Int32 × Int32) => M) (px := 32) (lx := fun (x5 : Int32 × Int32) => [(4, .int x5.1), (3, .int x5.2), (0, .ref (ad 7 0 0)), (2, .ref (ad 10 0 p2))]) (fun n6 x5 ivx5 ih => ?_) 5 (0, r4) (by simp only [vp_in_iff, i32lt, i32le, i32eq, i32add, i32sub, i32mul, i32neg, t32_0]; omega) (by simp only [vp_in_iff, i32lt, i32le, i32eq, i32add, i32sub, i32mul, i32neg, t32_0, t32_4, t32_5]; omega)
    have ivx5_0 := ivx5
    refine mw_eqS (f7_fits_lp32_s M p2 n6 x5) ?_
    refine mw_iload cx (q := 34) 0 rfl dX7_fits_32 rfl ?_
    refine mw_aload_n cx (q := 35) 3 rfl rfl dX7_fits_34 rfl ?_
    refine mw_getKN cx (q := 38) (v := .ref (ad 10 1 (wdForm p2))) ((cx_st cx).2.1 _ hp2).2.2.1 fk_X7_235 dX7_fits_35 rfl ?_
    refine mw_bnd (fun r7 er7 => ?_)
    refine mw_callVK cx (q := 41) (d := 1) (As := []) (z := fip M r7) (st := [.int x5.1]) (st1 := [.int r7, .int x5.1]) (M' := M) (by rw [er7]; exact mc_strLen l D ta ad M (wdForm p2) (wd_formI hp2)) cv_X7_239 ((cx_st cx).2.2.1 _ (wd_formI hp2)).1 ⟨Nat.le_of_ble_eq_true rfl, Nat.le_of_ble_eq_true rfl⟩ ⟨Nat.le_refl _, Nat.le_refl _⟩ (by simp [Value.category]) rfl rfl rfl dX7_fits_38 rfl ?_
    refine mw_icmp_ge cx (tgt := 78) (q := 44) dX7_fits_41 (by decide) rfl (fun h8 => ?_) (fun h8 => ?_)
    · refine mw_iconst cx (q := 79) (v := 1) dX7_fits_78 rfl rfl ?_
      exact mw_zret cx hr rfl rfl dX7_fits_79
    · refine mw_aload_n cx (q := 45) 2 rfl rfl dX7_fits_44 rfl ?_
      refine mw_iload_n cx (q := 46) 1 rfl rfl dX7_fits_45 rfl ?_
      refine mw_aload_n cx (q := 47) 3 rfl rfl dX7_fits_46 rfl ?_
      refine mw_getKN cx (q := 50) (v := .ref (ad 10 1 (wdForm p2))) ((cx_st cx).2.1 _ hp2).2.2.1 fk_X7_235 dX7_fits_47 rfl ?_
      refine mw_iload cx (q := 52) 0 rfl dX7_fits_50 rfl ?_
      refine mw_bnd (fun r9 er9 => ?_)
      refine mw_callVK cx (q := 55) (d := 3) (As := [.int x5.1]) (z := fip M r9) (st := [.int x5.2, .ref (ad 7 0 0)]) (st1 := [.int r9, .int x5.2, .ref (ad 7 0 0)]) (M' := M) (by rw [er9]; exact mc_charAt l D ta ad M (wdForm p2) x5.1 (wd_formI hp2) (fstrLen_in (wd_formI hp2) ivx5_0 (by rw [← er7]; exact h8))) cv_X7_244 ((cx_st cx).2.2.1 _ (wd_formI hp2)).1 ⟨Nat.le_of_ble_eq_true rfl, Nat.le_of_ble_eq_true rfl⟩ ⟨Nat.le_refl _, Nat.le_refl _⟩ (by simp [Value.category]) rfl rfl rfl dX7_fits_52 rfl ?_
      refine mw_bnd (fun r10 er10 => ?_)
      refine mw_callV cx (q := 58) (d := 1) (As := [.int x5.2, .int r9]) (z := fzp M r10) (st := []) (st1 := [.int (b2i r10)]) (M' := M) (by rw [er10]; exact mc_X7_suits l D ta ad M x5.2 r9) cv_X7_248 rfl rfl rfl vi_7_0 ⟨Nat.le_of_ble_eq_true rfl, Nat.le_of_ble_eq_true rfl⟩ ⟨Nat.le_refl _, Nat.le_refl _⟩ (by simp [Value.category]) rfl rfl rfl dX7_fits_55 rfl ?_
      refine mw_ifb_ne cx (tgt := 63) (q := 61) dX7_fits_58 (by decide) rfl (fun h11 => ?_) (fun h11 => ?_)
      · refine mw_aload_n cx (q := 64) 2 rfl rfl dX7_fits_63 rfl ?_
        refine mw_get cx (q := 67) (v := .ref (ad 9 0 0)) gf_X7_18 rfl rfl vi_7_0 dX7_fits_64 rfl ?_
        refine mw_iload_n cx (q := 68) 1 rfl rfl dX7_fits_67 rfl ?_
        refine mw_bnd (fun r12 er12 => ?_)
        refine mw_callV cx (q := 71) (d := 0) (As := [.int x5.2]) (z := fip M r12) (st := []) (st1 := [.int r12]) (M' := M) (by rw [er12]; exact mc_X9_nextOf l D ta ad M x5.2) cv_X7_97 rfl rfl rfl vi_9_0 ⟨Nat.le_of_ble_eq_true rfl, Nat.le_of_ble_eq_true rfl⟩ ⟨Nat.le_refl _, Nat.le_refl _⟩ (by simp [Value.category]) rfl rfl rfl dX7_fits_68 rfl ?_
        refine mw_istore_n cx (q := 72) (lv' := [(3, .int r12), (4, .int x5.1), (0, .ref (ad 7 0 0)), (2, .ref (ad 10 0 p2))]) rfl rfl (by decide) dX7_fits_71 rfl ?_
        refine mw_bnd (fun v13 ev13 => ?_)
        refine mw_iinc cx (q := 75) (v := v13) (lv' := [(4, .int v13), (3, .int r12), (0, .ref (ad 7 0 0)), (2, .ref (ad 10 0 p2))]) 1 rfl (by rw [ev13]; rfl) rfl (by decide) dX7_fits_72 rfl ?_
        refine mw_goto cx (tgt := 32) dX7_fits_75 (by decide) ?_
        exact ih (v13, r12) (by have hz := h8; have hb := fstrLen_lt (wd_formI hp2); have hi := ivx5_0; rw [er7, i32le] at hz; rw [ev13, i32addn (by rw [t32_1]; omega) (by rw [t32_1]; omega), t32_1]; omega) (by have hz := h8; have hb := fstrLen_lt (wd_formI hp2); have hi := ivx5_0; rw [er7, i32le] at hz; rw [ev13, i32addn (by rw [t32_1]; omega) (by rw [t32_1]; omega), t32_1]; omega)
      · refine mw_iconst cx (q := 62) (v := 0) dX7_fits_61 rfl rfl ?_
        exact mw_zret cx hr rfl rfl dX7_fits_62
  · refine mw_iconst cx (q := 18) (v := 0) dX7_fits_17 rfl rfl ?_
    exact mw_zret cx hr rfl rfl dX7_fits_18
def f7_combine (M : Wm) (p1 : Int32) (p2 : Int32) (p3 : Int32) : (Int32 × Wm) := if (M 7 0 0 10) = 0 then if (wdSw p1) = 18 then ((p2 + p3), M) else if (wdSw p1) = 19 then ((p2 - p3), M) else if (wdSw p1) = 20 then ((p2 * p3), M) else if (wdSw p1) = 21 then ((mnI p2 p3), M) else if (wdSw p1) = 22 then ((mxI p2 p3), M) else if (wdSw p1) = 23 then if p3 = 0 then bnd (f7_stop (M 7) 5) (fun (r9 : Int32 × Cm) => bnd (uW M 7 r9.2) (fun (M10 : Wm) => (r9.1, M10))) else ((p2 / p3), M) else if (wdSw p1) = 24 then if p3 = 0 then bnd (f7_stop (M 7) 5) (fun (r14 : Int32 × Cm) => bnd (uW M 7 r14.2) (fun (M15 : Wm) => (r14.1, M15))) else ((p2 - p2 / p3 * p3), M) else if (wdSw p1) = 25 then if p3 ≤ p2 then (0, M) else (1, M) else if p2 = p3 then (1, M) else (0, M) else (0, M)
set_option maxHeartbeats 4000000 in
set_option maxRecDepth 100000 in
theorem mc_X7_combine (l : Launch) (D : va_G) (ta : wTa) (ad : wAd) (M : Wm) (p1 : Int32) (p2 : Int32) (p3 : Int32) (hok : Ok7 M) (hp1 : vp_in p1 26) : MC l D ta ad yX7_combine cX7_combine 4 (some .int) 1 [.ref (ad 7 0 0), .ref (ad 10 0 p1), .int p2, .int p3] M (fi (f7_combine M p1 p2 p3)) := by
  refine MC.of (fi) (f7_combine M p1 p2 p3) rfl (by decide) (Nat.le_of_ble_eq_true rfl) (fun p e s m args below meth c cx hr => ?_)
  unfold f7_combine
  refine mw_sub (lv' := [(0, .ref (ad 7 0 0)), (1, .ref (ad 10 0 p1)), (2, .int p2), (3, .int p3)]) [0, 1, 2, 3] rfl ?_
  refine mw_aload_n cx (q := 1) 0 rfl rfl dX7_combine_0 rfl ?_
  refine mw_get cx (q := 4) (v := .int (M 7 0 0 10)) gf_X7_60 rfl rfl vi_7_0 dX7_combine_1 rfl ?_
  refine mw_if_eq cx (tgt := 9) (q := 7) dX7_combine_4 (by decide) rfl (fun h1 => ?_) (fun h1 => ?_)
  · refine mw_gets cx (q := 12) (v := .ref (ad 10 3 0)) (cx_st cx).1.2.1 fk_X7_176 dX7_combine_9 rfl ?_
    refine mw_aload_n cx (q := 13) 1 rfl rfl dX7_combine_12 rfl ?_
    refine mw_callUK cx (q := 16) (d := 0) (As := []) (z := fip M p1) (st := [.ref (ad 10 3 0)]) (st1 := [.int p1, .ref (ad 10 3 0)]) (M' := M) (by exact mc_ordinal l D ta ad M p1 hp1) cu_X7_182 ((cx_st cx).2.1 _ hp1).1 ⟨Nat.le_of_ble_eq_true rfl, Nat.le_of_ble_eq_true rfl⟩ ⟨Nat.le_refl _, Nat.le_refl _⟩ (by simp [Value.category]) rfl rfl rfl dX7_combine_13 rfl ?_
    refine mw_ti cx (q := 17) (v := .int (wdSw p1)) (cx_st cx).2.2.2.2.1 hp1 (by rw [nI_tn hp1]) dX7_combine_16 rfl ?_
    refine mw_split (fun h2 => ?_) (fun h2 => ?_)
    · refine mw_tableIn cx (tgt := 64) dX7_combine_17 (by rw [h2]; decide) (by rw [h2]; decide) (by rw [h2]; try rfl) (by decide) ?_
      refine mw_iload_n cx (q := 65) 2 rfl rfl dX7_combine_64 rfl ?_
      refine mw_iload_n cx (q := 66) 3 rfl rfl dX7_combine_65 rfl ?_
      refine mw_iadd cx (q := 67) dX7_combine_66 rfl ?_
      exact mw_iret cx hr rfl dX7_combine_67
    · refine mw_split (fun h3 => ?_) (fun h3 => ?_)
      · refine mw_tableIn cx (tgt := 68) dX7_combine_17 (by rw [h3]; decide) (by rw [h3]; decide) (by rw [h3]; try rfl) (by decide) ?_
        refine mw_iload_n cx (q := 69) 2 rfl rfl dX7_combine_68 rfl ?_
        refine mw_iload_n cx (q := 70) 3 rfl rfl dX7_combine_69 rfl ?_
        refine mw_isub cx (q := 71) dX7_combine_70 rfl ?_
        exact mw_iret cx hr rfl dX7_combine_71
      · refine mw_split (fun h4 => ?_) (fun h4 => ?_)
        · refine mw_tableIn cx (tgt := 72) dX7_combine_17 (by rw [h4]; decide) (by rw [h4]; decide) (by rw [h4]; try rfl) (by decide) ?_
          refine mw_iload_n cx (q := 73) 2 rfl rfl dX7_combine_72 rfl ?_
          refine mw_iload_n cx (q := 74) 3 rfl rfl dX7_combine_73 rfl ?_
          refine mw_imul cx (q := 75) dX7_combine_74 rfl ?_
          exact mw_iret cx hr rfl dX7_combine_75
        · refine mw_split (fun h5 => ?_) (fun h5 => ?_)
          · refine mw_tableIn cx (tgt := 76) dX7_combine_17 (by rw [h5]; decide) (by rw [h5]; decide) (by rw [h5]; try rfl) (by decide) ?_
            refine mw_iload_n cx (q := 77) 2 rfl rfl dX7_combine_76 rfl ?_
            refine mw_iload_n cx (q := 78) 3 rfl rfl dX7_combine_77 rfl ?_
            refine mw_min cx (q := 81) cm_X7_252 ⟨Nat.le_of_ble_eq_true rfl, Nat.le_of_ble_eq_true rfl⟩ ⟨Nat.le_refl _, Nat.le_refl _⟩ (by simp [Value.category]) dX7_combine_78 rfl ?_
            exact mw_iret cx hr rfl dX7_combine_81
          · refine mw_split (fun h6 => ?_) (fun h6 => ?_)
            · refine mw_tableIn cx (tgt := 82) dX7_combine_17 (by rw [h6]; decide) (by rw [h6]; decide) (by rw [h6]; try rfl) (by decide) ?_
              refine mw_iload_n cx (q := 83) 2 rfl rfl dX7_combine_82 rfl ?_
              refine mw_iload_n cx (q := 84) 3 rfl rfl dX7_combine_83 rfl ?_
              refine mw_max cx (q := 87) cm_X7_257 ⟨Nat.le_of_ble_eq_true rfl, Nat.le_of_ble_eq_true rfl⟩ ⟨Nat.le_refl _, Nat.le_refl _⟩ (by simp [Value.category]) dX7_combine_84 rfl ?_
              exact mw_iret cx hr rfl dX7_combine_87
            · refine mw_split (fun h7 => ?_) (fun h7 => ?_)
              · refine mw_tableIn cx (tgt := 88) dX7_combine_17 (by rw [h7]; decide) (by rw [h7]; decide) (by rw [h7]; try rfl) (by decide) ?_
                refine mw_iload_n cx (q := 89) 3 rfl rfl dX7_combine_88 rfl ?_
                refine mw_if_ne cx (tgt := 100) (q := 92) dX7_combine_89 (by decide) rfl (fun h8 => ?_) (fun h8 => ?_)
                · refine mw_iload_n cx (q := 101) 2 rfl rfl dX7_combine_100 rfl ?_
                  refine mw_iload_n cx (q := 102) 3 rfl rfl dX7_combine_101 rfl ?_
                  refine mw_idiv cx (q := 103) dX7_combine_102 rfl h8 ?_
                  exact mw_iret cx hr rfl dX7_combine_103
                · refine mw_aload_n cx (q := 93) 0 rfl rfl dX7_combine_92 rfl ?_
                  refine mw_iconst cx (q := 94) (v := 5) dX7_combine_93 rfl rfl ?_
                  refine mw_bnd (fun r9 er9 => ?_)
                  refine mw_callV cx (q := 97) (d := 0) (As := [.int 5]) (z := fic M 7 r9) (st := []) (st1 := [.int r9.1]) (M' := uW M 7 r9.2) (by rw [er9]; exact mc_X7_stop l D ta ad M 5) cv_X7_136 rfl rfl rfl vi_7_0 ⟨Nat.le_of_ble_eq_true rfl, Nat.le_of_ble_eq_true rfl⟩ ⟨Nat.le_refl _, Nat.le_refl _⟩ (by simp [Value.category]) rfl rfl rfl dX7_combine_94 rfl ?_
                  refine mw_bndM (fun M10 eM10 => ?_)
                  have ok11 : Ok7 M10 := (by rw [eM10, er9]; exact ok7_f7_stop hok 5)
                  refine mw_goto cx (tgt := 103) dX7_combine_97 (by decide) ?_
                  exact mw_iret cx hr rfl dX7_combine_103
              · refine mw_split (fun h12 => ?_) (fun h12 => ?_)
                · refine mw_tableIn cx (tgt := 104) dX7_combine_17 (by rw [h12]; decide) (by rw [h12]; decide) (by rw [h12]; try rfl) (by decide) ?_
                  refine mw_iload_n cx (q := 105) 3 rfl rfl dX7_combine_104 rfl ?_
                  refine mw_if_ne cx (tgt := 116) (q := 108) dX7_combine_105 (by decide) rfl (fun h13 => ?_) (fun h13 => ?_)
                  · refine mw_iload_n cx (q := 117) 2 rfl rfl dX7_combine_116 rfl ?_
                    refine mw_iload_n cx (q := 118) 3 rfl rfl dX7_combine_117 rfl ?_
                    refine mw_irem cx (q := 119) dX7_combine_118 rfl h13 ?_
                    exact mw_iret cx hr rfl dX7_combine_119
                  · refine mw_aload_n cx (q := 109) 0 rfl rfl dX7_combine_108 rfl ?_
                    refine mw_iconst cx (q := 110) (v := 5) dX7_combine_109 rfl rfl ?_
                    refine mw_bnd (fun r14 er14 => ?_)
                    refine mw_callV cx (q := 113) (d := 0) (As := [.int 5]) (z := fic M 7 r14) (st := []) (st1 := [.int r14.1]) (M' := uW M 7 r14.2) (by rw [er14]; exact mc_X7_stop l D ta ad M 5) cv_X7_136 rfl rfl rfl vi_7_0 ⟨Nat.le_of_ble_eq_true rfl, Nat.le_of_ble_eq_true rfl⟩ ⟨Nat.le_refl _, Nat.le_refl _⟩ (by simp [Value.category]) rfl rfl rfl dX7_combine_110 rfl ?_
                    refine mw_bndM (fun M15 eM15 => ?_)
                    have ok16 : Ok7 M15 := (by rw [eM15, er14]; exact ok7_f7_stop hok 5)
                    refine mw_goto cx (tgt := 119) dX7_combine_113 (by decide) ?_
                    exact mw_iret cx hr rfl dX7_combine_119
                · refine mw_split (fun h17 => ?_) (fun h17 => ?_)
                  · refine mw_tableIn cx (tgt := 120) dX7_combine_17 (by rw [h17]; decide) (by rw [h17]; decide) (by rw [h17]; try rfl) (by decide) ?_
                    refine mw_iload_n cx (q := 121) 2 rfl rfl dX7_combine_120 rfl ?_
                    refine mw_iload_n cx (q := 122) 3 rfl rfl dX7_combine_121 rfl ?_
                    refine mw_icmp_ge cx (tgt := 129) (q := 125) dX7_combine_122 (by decide) rfl (fun h18 => ?_) (fun h18 => ?_)
                    · refine mw_iconst cx (q := 130) (v := 0) dX7_combine_129 rfl rfl ?_
                      exact mw_iret cx hr rfl dX7_combine_130
                    · refine mw_iconst cx (q := 126) (v := 1) dX7_combine_125 rfl rfl ?_
                      refine mw_goto cx (tgt := 130) dX7_combine_126 (by decide) ?_
                      exact mw_iret cx hr rfl dX7_combine_130
                  · refine mw_tableOut cx (tgt := 131) dX7_combine_17 (by simp only [i32eq, t32_18, t32_19, t32_20, t32_21, t32_22, t32_23, t32_24, t32_25] at h2 h3 h4 h5 h6 h7 h12 h17; omega) (by decide) ?_
                    refine mw_iload_n cx (q := 132) 2 rfl rfl dX7_combine_131 rfl ?_
                    refine mw_iload_n cx (q := 133) 3 rfl rfl dX7_combine_132 rfl ?_
                    refine mw_icmp_ne cx (tgt := 140) (q := 136) dX7_combine_133 (by decide) rfl (fun h19 => ?_) (fun h19 => ?_)
                    · refine mw_iconst cx (q := 141) (v := 0) dX7_combine_140 rfl rfl ?_
                      exact mw_iret cx hr rfl dX7_combine_141
                    · refine mw_iconst cx (q := 137) (v := 1) dX7_combine_136 rfl rfl ?_
                      refine mw_goto cx (tgt := 141) dX7_combine_137 (by decide) ?_
                      exact mw_iret cx hr rfl dX7_combine_141
  · refine mw_iconst cx (q := 8) (v := 0) dX7_combine_7 rfl rfl ?_
    exact mw_iret cx hr rfl dX7_combine_8
def f7_areInnerNames_lp52 (M : Wm) (p1 : Int32) (x3 : Int32) (r6 : Int32) (K10 : Unit → Bool) : Nat → Int32 → Bool
  | 0, x9 => false
  | n11 + 1, x9 => if x3 ≤ x9 then K10 () else bnd (f9_partOf (M 9) p1 x9) (fun (r13 : Int32) => bnd (f9_contentOf (M 9) r13) (fun (r14 : Int32) => bnd (f9_contentOf (M 9) r6) (fun (r15 : Int32) => if r14 = r15 then false else bnd (x9 + 1) (fun (v17 : Int32) => f7_areInnerNames_lp52 M p1 x3 r6 K10 n11 v17))))
theorem f7_areInnerNames_lp52_s (M : Wm) (p1 : Int32) (x3 : Int32) (r6 : Int32) (K10 : Unit → Bool) (n11 : Nat) (x9 : Int32) : f7_areInnerNames_lp52 M p1 x3 r6 K10 (n11 + 1) x9 = if x3 ≤ x9 then K10 () else bnd (f9_partOf (M 9) p1 x9) (fun (r13 : Int32) => bnd (f9_contentOf (M 9) r13) (fun (r14 : Int32) => bnd (f9_contentOf (M 9) r6) (fun (r15 : Int32) => if r14 = r15 then false else bnd (x9 + 1) (fun (v17 : Int32) => f7_areInnerNames_lp52 M p1 x3 r6 K10 n11 v17)))) := rfl
def f7_areInnerNames_lp18 (M : Wm) (p1 : Int32) (r1 : Int32) : Nat → Int32 → Bool
  | 0, x3 => false
  | n4 + 1, x3 => if r1 ≤ x3 then true else bnd (f9_partOf (M 9) p1 x3) (fun (r6 : Int32) => bnd (f9_kindOf (M 9) r6) (fun (r7 : Int32) => if r7 = 2 then jn (fun (y18 : Unit) => bnd (x3 + 1) (fun (v19 : Int32) => f7_areInnerNames_lp18 M p1 r1 n4 v19)) (fun K10 => f7_areInnerNames_lp52 M p1 x3 r6 K10 5 0) else false))
theorem f7_areInnerNames_lp18_s (M : Wm) (p1 : Int32) (r1 : Int32) (n4 : Nat) (x3 : Int32) : f7_areInnerNames_lp18 M p1 r1 (n4 + 1) x3 = if r1 ≤ x3 then true else bnd (f9_partOf (M 9) p1 x3) (fun (r6 : Int32) => bnd (f9_kindOf (M 9) r6) (fun (r7 : Int32) => if r7 = 2 then jn (fun (y18 : Unit) => bnd (x3 + 1) (fun (v19 : Int32) => f7_areInnerNames_lp18 M p1 r1 n4 v19)) (fun K10 => f7_areInnerNames_lp52 M p1 x3 r6 K10 5 0) else false)) := rfl
def f7_areInnerNames (M : Wm) (p1 : Int32) : Bool := bnd (f9_partsOf (M 9) p1) (fun (r1 : Int32) => if r1 ≤ 3 then f7_areInnerNames_lp18 M p1 r1 5 0 else false)
set_option maxHeartbeats 4000000 in
set_option maxRecDepth 100000 in
theorem mc_X7_areInnerNames (l : Launch) (D : va_G) (ta : wTa) (ad : wAd) (M : Wm) (p1 : Int32) : MC l D ta ad yX7_areInnerNames cX7_areInnerNames 6 (some .boolean) 1 [.ref (ad 7 0 0), .int p1] M (fzp M (f7_areInnerNames M p1)) := by
  refine MC.of (fzp M) (f7_areInnerNames M p1) rfl (by decide) (Nat.le_of_ble_eq_true rfl) (fun p e s m args below meth c cx hr => ?_)
  unfold f7_areInnerNames
  refine mw_sub (lv' := [(0, .ref (ad 7 0 0)), (1, .int p1)]) [0, 1] rfl ?_
  refine mw_aload_n cx (q := 1) 0 rfl rfl dX7_areInnerNames_0 rfl ?_
  refine mw_get cx (q := 4) (v := .ref (ad 9 0 0)) gf_X7_18 rfl rfl vi_7_0 dX7_areInnerNames_1 rfl ?_
  refine mw_iload_n cx (q := 5) 1 rfl rfl dX7_areInnerNames_4 rfl ?_
  refine mw_bnd (fun r1 er1 => ?_)
  refine mw_callV cx (q := 8) (d := 0) (As := [.int p1]) (z := fip M r1) (st := []) (st1 := [.int r1]) (M' := M) (by rw [er1]; exact mc_X9_partsOf l D ta ad M p1) cv_X7_90 rfl rfl rfl vi_9_0 ⟨Nat.le_of_ble_eq_true rfl, Nat.le_of_ble_eq_true rfl⟩ ⟨Nat.le_refl _, Nat.le_refl _⟩ (by simp [Value.category]) rfl rfl rfl dX7_areInnerNames_5 rfl ?_
  refine mw_istore_n cx (q := 9) (lv' := [(2, .int r1), (0, .ref (ad 7 0 0)), (1, .int p1)]) rfl rfl (by decide) dX7_areInnerNames_8 rfl ?_
  refine mw_iload_n cx (q := 10) 0 rfl rfl dX7_areInnerNames_9 rfl ?_
  refine mw_iconst cx (q := 11) (v := 3) dX7_areInnerNames_10 rfl rfl ?_
  refine mw_icmp_le cx (tgt := 16) (q := 14) dX7_areInnerNames_11 (by decide) rfl (fun h2 => ?_) (fun h2 => ?_)
  · refine mw_iconst cx (q := 17) (v := 0) dX7_areInnerNames_16 rfl rfl ?_
    refine mw_istore_n cx (q := 18) (lv' := [(3, .int 0), (2, .int r1), (0, .ref (ad 7 0 0)), (1, .int p1)]) rfl rfl (by decide) dX7_areInnerNames_17 rfl ?_
    refine mw_loop (F := f7_areInnerNames_lp18 M p1 r1) (I := fun (x3 : Int32) => 0 ≤ (x3).toInt) (μ := fun (x3 : Int32) => (4 - (x3).toInt).toNat) (Mx := fun (x3 : Int32) => M) (px := 18) (lx := fun (x3 : Int32) => [(3, .int x3), (2, .int r1), (0, .ref (ad 7 0 0)), (1, .int p1)]) (fun n4 x3 ivx3 ih => ?_) 5 0 (by simp only [vp_in_iff, i32lt, i32le, i32eq, i32add, i32sub, i32mul, i32neg, t32_0]; omega) (by simp only [vp_in_iff, i32lt, i32le, i32eq, i32add, i32sub, i32mul, i32neg, t32_0, t32_4, t32_5]; omega)
    have ivx3_0 := ivx3
    refine mw_eqS (f7_areInnerNames_lp18_s M p1 r1 n4 x3) ?_
    refine mw_iload_n cx (q := 19) 0 rfl rfl dX7_areInnerNames_18 rfl ?_
    refine mw_iload_n cx (q := 20) 1 rfl rfl dX7_areInnerNames_19 rfl ?_
    refine mw_icmp_ge cx (tgt := 101) (q := 23) dX7_areInnerNames_20 (by decide) rfl (fun h5 => ?_) (fun h5 => ?_)
    · refine mw_iconst cx (q := 102) (v := 1) dX7_areInnerNames_101 rfl rfl ?_
      exact mw_zret cx hr rfl rfl dX7_areInnerNames_102
    · refine mw_aload_n cx (q := 24) 2 rfl rfl dX7_areInnerNames_23 rfl ?_
      refine mw_get cx (q := 27) (v := .ref (ad 9 0 0)) gf_X7_18 rfl rfl vi_7_0 dX7_areInnerNames_24 rfl ?_
      refine mw_iload_n cx (q := 28) 3 rfl rfl dX7_areInnerNames_27 rfl ?_
      refine mw_iload_n cx (q := 29) 0 rfl rfl dX7_areInnerNames_28 rfl ?_
      refine mw_bnd (fun r6 er6 => ?_)
      refine mw_callV cx (q := 32) (d := 0) (As := [.int p1, .int x3]) (z := fip M r6) (st := []) (st1 := [.int r6]) (M' := M) (by rw [er6]; exact mc_X9_partOf l D ta ad M p1 x3) cv_X7_86 rfl rfl rfl vi_9_0 ⟨Nat.le_of_ble_eq_true rfl, Nat.le_of_ble_eq_true rfl⟩ ⟨Nat.le_refl _, Nat.le_refl _⟩ (by simp [Value.category]) rfl rfl rfl dX7_areInnerNames_29 rfl ?_
      refine mw_istore cx (q := 34) (lv' := [(4, .int r6), (3, .int x3), (2, .int r1), (0, .ref (ad 7 0 0)), (1, .int p1)]) rfl (by decide) dX7_areInnerNames_32 rfl ?_
      refine mw_aload_n cx (q := 35) 3 rfl rfl dX7_areInnerNames_34 rfl ?_
      refine mw_get cx (q := 38) (v := .ref (ad 9 0 0)) gf_X7_18 rfl rfl vi_7_0 dX7_areInnerNames_35 rfl ?_
      refine mw_iload cx (q := 40) 0 rfl dX7_areInnerNames_38 rfl ?_
      refine mw_bnd (fun r7 er7 => ?_)
      refine mw_callV cx (q := 43) (d := 0) (As := [.int r6]) (z := fip M r7) (st := []) (st1 := [.int r7]) (M' := M) (by rw [er7]; exact mc_X9_kindOf l D ta ad M r6) cv_X7_139 rfl rfl rfl vi_9_0 ⟨Nat.le_of_ble_eq_true rfl, Nat.le_of_ble_eq_true rfl⟩ ⟨Nat.le_refl _, Nat.le_refl _⟩ (by simp [Value.category]) rfl rfl rfl dX7_areInnerNames_40 rfl ?_
      refine mw_iconst cx (q := 44) (v := 2) dX7_areInnerNames_43 rfl rfl ?_
      refine mw_icmp_eq cx (tgt := 49) (q := 47) dX7_areInnerNames_44 (by decide) rfl (fun h8 => ?_) (fun h8 => ?_)
      · refine mw_iconst cx (q := 50) (v := 0) dX7_areInnerNames_49 rfl rfl ?_
        refine mw_istore cx (q := 52) (lv' := [(5, .int 0), (4, .int r6), (3, .int x3), (2, .int r1), (0, .ref (ad 7 0 0)), (1, .int p1)]) rfl (by decide) dX7_areInnerNames_50 rfl ?_
        refine mw_jn (Mj := fun (y18 : Unit) => M) (pj := 95) (lj := fun (y18 : Unit) => [(3, .int x3), (2, .int r1), (0, .ref (ad 7 0 0)), (1, .int p1)]) (sj := fun (y18 : Unit) => []) (fun y18 => ?_) (fun K10 hK10 => ?_)
        · refine mw_bnd (fun v19 ev19 => ?_)
          refine mw_iinc cx (q := 98) (v := v19) (lv' := [(3, .int v19), (2, .int r1), (0, .ref (ad 7 0 0)), (1, .int p1)]) 0 rfl (by rw [ev19]; rfl) rfl (by decide) dX7_areInnerNames_95 rfl ?_
          refine mw_goto cx (tgt := 18) dX7_areInnerNames_98 (by decide) ?_
          exact ih v19 (by simp only [vp_in_iff, i32lt, i32le, i32eq, i32add, i32sub, i32mul, i32neg, t32_0, t32_1, t32_3] at ev19 ivx3_0 h5 h2 ⊢; omega) (by simp only [vp_in_iff, i32lt, i32le, i32eq, i32add, i32sub, i32mul, i32neg, t32_0, t32_1, t32_3, t32_4] at ivx3_0 h5 ev19 h2 ⊢; omega)
        · refine mw_loop (F := f7_areInnerNames_lp52 M p1 x3 r6 K10) (I := fun (x9 : Int32) => 0 ≤ (x9).toInt) (μ := fun (x9 : Int32) => (4 - (x9).toInt).toNat) (Mx := fun (x9 : Int32) => M) (px := 52) (lx := fun (x9 : Int32) => [(5, .int x9), (4, .int r6), (3, .int x3), (2, .int r1), (0, .ref (ad 7 0 0)), (1, .int p1)]) (fun n11 x9 ivx9 ih => ?_) 5 0 (by simp only [vp_in_iff, i32lt, i32le, i32eq, i32add, i32sub, i32mul, i32neg, t32_0]; omega) (by simp only [vp_in_iff, i32lt, i32le, i32eq, i32add, i32sub, i32mul, i32neg, t32_0, t32_4, t32_5]; omega)
          have ivx9_0 := ivx9
          refine mw_eqS (f7_areInnerNames_lp52_s M p1 x3 r6 K10 n11 x9) ?_
          refine mw_iload cx (q := 54) 0 rfl dX7_areInnerNames_52 rfl ?_
          refine mw_iload_n cx (q := 55) 2 rfl rfl dX7_areInnerNames_54 rfl ?_
          refine mw_icmp_ge cx (tgt := 95) (q := 58) dX7_areInnerNames_55 (by decide) rfl (fun h12 => ?_) (fun h12 => ?_)
          · refine mw_sub [2, 3, 4, 5] rfl ?_
            exact hK10 ()
          · refine mw_aload_n cx (q := 59) 4 rfl rfl dX7_areInnerNames_58 rfl ?_
            refine mw_get cx (q := 62) (v := .ref (ad 9 0 0)) gf_X7_18 rfl rfl vi_7_0 dX7_areInnerNames_59 rfl ?_
            refine mw_aload_n cx (q := 63) 4 rfl rfl dX7_areInnerNames_62 rfl ?_
            refine mw_get cx (q := 66) (v := .ref (ad 9 0 0)) gf_X7_18 rfl rfl vi_7_0 dX7_areInnerNames_63 rfl ?_
            refine mw_iload_n cx (q := 67) 5 rfl rfl dX7_areInnerNames_66 rfl ?_
            refine mw_iload cx (q := 69) 0 rfl dX7_areInnerNames_67 rfl ?_
            refine mw_bnd (fun r13 er13 => ?_)
            refine mw_callV cx (q := 72) (d := 0) (As := [.int p1, .int x9]) (z := fip M r13) (st := [.ref (ad 9 0 0)]) (st1 := [.int r13, .ref (ad 9 0 0)]) (M' := M) (by rw [er13]; exact mc_X9_partOf l D ta ad M p1 x9) cv_X7_86 rfl rfl rfl vi_9_0 ⟨Nat.le_of_ble_eq_true rfl, Nat.le_of_ble_eq_true rfl⟩ ⟨Nat.le_refl _, Nat.le_refl _⟩ (by simp [Value.category]) rfl rfl rfl dX7_areInnerNames_69 rfl ?_
            refine mw_bnd (fun r14 er14 => ?_)
            refine mw_callV cx (q := 75) (d := 0) (As := [.int r13]) (z := fip M r14) (st := []) (st1 := [.int r14]) (M' := M) (by rw [er14]; exact mc_X9_contentOf l D ta ad M r13) cv_X7_142 rfl rfl rfl vi_9_0 ⟨Nat.le_of_ble_eq_true rfl, Nat.le_of_ble_eq_true rfl⟩ ⟨Nat.le_refl _, Nat.le_refl _⟩ (by simp [Value.category]) rfl rfl rfl dX7_areInnerNames_72 rfl ?_
            refine mw_aload_n cx (q := 76) 4 rfl rfl dX7_areInnerNames_75 rfl ?_
            refine mw_get cx (q := 79) (v := .ref (ad 9 0 0)) gf_X7_18 rfl rfl vi_7_0 dX7_areInnerNames_76 rfl ?_
            refine mw_iload cx (q := 81) 1 rfl dX7_areInnerNames_79 rfl ?_
            refine mw_bnd (fun r15 er15 => ?_)
            refine mw_callV cx (q := 84) (d := 0) (As := [.int r6]) (z := fip M r15) (st := [.int r14]) (st1 := [.int r15, .int r14]) (M' := M) (by rw [er15]; exact mc_X9_contentOf l D ta ad M r6) cv_X7_142 rfl rfl rfl vi_9_0 ⟨Nat.le_of_ble_eq_true rfl, Nat.le_of_ble_eq_true rfl⟩ ⟨Nat.le_refl _, Nat.le_refl _⟩ (by simp [Value.category]) rfl rfl rfl dX7_areInnerNames_81 rfl ?_
            refine mw_icmp_ne cx (tgt := 89) (q := 87) dX7_areInnerNames_84 (by decide) rfl (fun h16 => ?_) (fun h16 => ?_)
            · refine mw_bnd (fun v17 ev17 => ?_)
              refine mw_iinc cx (q := 92) (v := v17) (lv' := [(5, .int v17), (4, .int r6), (3, .int x3), (2, .int r1), (0, .ref (ad 7 0 0)), (1, .int p1)]) 0 rfl (by rw [ev17]; rfl) rfl (by decide) dX7_areInnerNames_89 rfl ?_
              refine mw_goto cx (tgt := 52) dX7_areInnerNames_92 (by decide) ?_
              exact ih v17 (by simp only [vp_in_iff, i32lt, i32le, i32eq, i32add, i32sub, i32mul, i32neg, t32_0, t32_1, t32_3] at ev17 ivx9_0 h12 ivx3_0 h5 h2 ⊢; omega) (by simp only [vp_in_iff, i32lt, i32le, i32eq, i32add, i32sub, i32mul, i32neg, t32_0, t32_1, t32_3, t32_4] at ivx9_0 h12 ev17 ivx3_0 h5 h2 ⊢; omega)
            · refine mw_iconst cx (q := 88) (v := 0) dX7_areInnerNames_87 rfl rfl ?_
              exact mw_zret cx hr rfl rfl dX7_areInnerNames_88
      · refine mw_iconst cx (q := 48) (v := 0) dX7_areInnerNames_47 rfl rfl ?_
        exact mw_zret cx hr rfl rfl dX7_areInnerNames_48
  · refine mw_iconst cx (q := 15) (v := 0) dX7_areInnerNames_14 rfl rfl ?_
    exact mw_zret cx hr rfl rfl dX7_areInnerNames_15
def f7_bindInner (M : Wm) (p1 : Int32) (p2 : Int32) (p3 : Int32) : Wm := bnd (f9_partOf (M 9) p1 p2) (fun (r1 : Int32) => if r1 = (-1) then M else bnd (f9_contentOf (M 9) r1) (fun (r3 : Int32) => bnd (f2_bind (M 2) r3 p3) (fun (r4 : Cm) => bnd (uW M 2 r4) (fun (M5 : Wm) => M5))))
set_option maxHeartbeats 4000000 in
set_option maxRecDepth 100000 in
theorem mc_X7_bindInner (l : Launch) (D : va_G) (ta : wTa) (ad : wAd) (M : Wm) (p1 : Int32) (p2 : Int32) (p3 : Int32) (hok : Ok7 M) : MC l D ta ad yX7_bindInner cX7_bindInner 5 none 1 [.ref (ad 7 0 0), .int p1, .int p2, .int p3] M (fv (f7_bindInner M p1 p2 p3)) := by
  refine MC.of (fv) (f7_bindInner M p1 p2 p3) rfl (by decide) (Nat.le_of_ble_eq_true rfl) (fun p e s m args below meth c cx hr => ?_)
  unfold f7_bindInner
  refine mw_sub (lv' := [(0, .ref (ad 7 0 0)), (1, .int p1), (2, .int p2), (3, .int p3)]) [0, 1, 2, 3] rfl ?_
  refine mw_aload_n cx (q := 1) 0 rfl rfl dX7_bindInner_0 rfl ?_
  refine mw_get cx (q := 4) (v := .ref (ad 9 0 0)) gf_X7_18 rfl rfl vi_7_0 dX7_bindInner_1 rfl ?_
  refine mw_iload_n cx (q := 5) 1 rfl rfl dX7_bindInner_4 rfl ?_
  refine mw_iload_n cx (q := 6) 2 rfl rfl dX7_bindInner_5 rfl ?_
  refine mw_bnd (fun r1 er1 => ?_)
  refine mw_callV cx (q := 9) (d := 0) (As := [.int p1, .int p2]) (z := fip M r1) (st := []) (st1 := [.int r1]) (M' := M) (by rw [er1]; exact mc_X9_partOf l D ta ad M p1 p2) cv_X7_86 rfl rfl rfl vi_9_0 ⟨Nat.le_of_ble_eq_true rfl, Nat.le_of_ble_eq_true rfl⟩ ⟨Nat.le_refl _, Nat.le_refl _⟩ (by simp [Value.category]) rfl rfl rfl dX7_bindInner_6 rfl ?_
  refine mw_istore cx (q := 11) (lv' := [(4, .int r1), (0, .ref (ad 7 0 0)), (1, .int p1), (2, .int p2), (3, .int p3)]) rfl (by decide) dX7_bindInner_9 rfl ?_
  refine mw_iload cx (q := 13) 0 rfl dX7_bindInner_11 rfl ?_
  refine mw_iconst cx (q := 14) (v := (-1)) dX7_bindInner_13 rfl rfl ?_
  refine mw_icmp_eq cx (tgt := 34) (q := 17) dX7_bindInner_14 (by decide) rfl (fun h2 => ?_) (fun h2 => ?_)
  · exact mw_vret cx hr rfl dX7_bindInner_34
  · refine mw_aload_n cx (q := 18) 1 rfl rfl dX7_bindInner_17 rfl ?_
    refine mw_get cx (q := 21) (v := .ref (ad 2 0 0)) gf_X7_12 rfl rfl vi_7_0 dX7_bindInner_18 rfl ?_
    refine mw_aload_n cx (q := 22) 1 rfl rfl dX7_bindInner_21 rfl ?_
    refine mw_get cx (q := 25) (v := .ref (ad 9 0 0)) gf_X7_18 rfl rfl vi_7_0 dX7_bindInner_22 rfl ?_
    refine mw_iload cx (q := 27) 0 rfl dX7_bindInner_25 rfl ?_
    refine mw_bnd (fun r3 er3 => ?_)
    refine mw_callV cx (q := 30) (d := 0) (As := [.int r1]) (z := fip M r3) (st := [.ref (ad 2 0 0)]) (st1 := [.int r3, .ref (ad 2 0 0)]) (M' := M) (by rw [er3]; exact mc_X9_contentOf l D ta ad M r1) cv_X7_142 rfl rfl rfl vi_9_0 ⟨Nat.le_of_ble_eq_true rfl, Nat.le_of_ble_eq_true rfl⟩ ⟨Nat.le_refl _, Nat.le_refl _⟩ (by simp [Value.category]) rfl rfl rfl dX7_bindInner_27 rfl ?_
    refine mw_iload_n cx (q := 31) 4 rfl rfl dX7_bindInner_30 rfl ?_
    refine mw_bnd (fun r4 er4 => ?_)
    refine mw_callV cx (q := 34) (d := 0) (As := [.int r3, .int p3]) (z := fvc M 2 r4) (st := []) (st1 := []) (M' := uW M 2 r4) (by rw [er4]; exact mc_X2_bind l D ta ad M r3 p3 hok.2.1) cv_X7_268 rfl rfl rfl vi_2_0 ⟨Nat.le_of_ble_eq_true rfl, Nat.le_of_ble_eq_true rfl⟩ ⟨Nat.le_refl _, Nat.le_refl _⟩ (by simp [Value.category]) rfl rfl rfl dX7_bindInner_31 rfl ?_
    refine mw_bndM (fun M5 eM5 => ?_)
    have ok6 : Ok7 M5 := (by rw [eM5, er4]; exact ok7_f2_bind hok r3 p3)
    exact mw_vret cx hr rfl dX7_bindInner_34
def f7_carry (M : Wm) (p1 : Int32) (p2 : Int32) (p3 : Int32) (p4 : Int32) : (Int32 × Wm) := if (M 7 0 0 10) = 0 then bnd (f9_contentOf (M 9) p3) (fun (r2 : Int32) => bnd (f10_goodOf r2) (fun (r3 : Int32) => if p4 < 0 then bnd (f7_stop (M 7) 6) (fun (r5 : Int32 × Cm) => bnd (uW M 7 r5.2) (fun (M6 : Wm) => (r5.1, M6))) else if r3 = (-1) then bnd (f7_stop (M 7) 6) (fun (r21 : Int32 × Cm) => bnd (uW M 7 r21.2) (fun (M22 : Wm) => (r21.1, M22))) else bnd (f1_stockOf (M 1) p1 r3) (fun (r9 : Int32) => bnd ((mnI p4 r9)) (fun (v10 : Int32) => if p1 = p2 then (0, M) else if v10 = 0 then (0, M) else bnd (f1_isFull (M 1)) (fun (r13 : Bool) => if r13 = true then bnd (f7_stop (M 7) 2) (fun (r18 : Int32 × Cm) => bnd (uW M 7 r18.2) (fun (M19 : Wm) => (r18.1, M19))) else bnd (f1_move (M 1) p1 p2 r3 v10 (M 7 0 0 6)) (fun (r15 : Cm) => bnd (uW M 1 r15) (fun (M16 : Wm) => (v10, M16)))))))) else (0, M)
set_option maxHeartbeats 4000000 in
set_option maxRecDepth 100000 in
theorem mc_X7_carry (l : Launch) (D : va_G) (ta : wTa) (ad : wAd) (M : Wm) (p1 : Int32) (p2 : Int32) (p3 : Int32) (p4 : Int32) (hok : Ok7 M) (ho1 : vp_in (p1 + 1) 5) (ho2 : M 7 0 0 10 = 0 → vp_in (p2 + 1) 5) : MC l D ta ad yX7_carry cX7_carry 7 (some .int) 1 [.ref (ad 7 0 0), .int p1, .int p2, .int p3, .int p4] M (fi (f7_carry M p1 p2 p3 p4)) := by
  refine MC.of (fi) (f7_carry M p1 p2 p3 p4) rfl (by decide) (Nat.le_of_ble_eq_true rfl) (fun p e s m args below meth c cx hr => ?_)
  unfold f7_carry
  refine mw_sub (lv' := [(0, .ref (ad 7 0 0)), (1, .int p1), (2, .int p2), (3, .int p3), (4, .int p4)]) [0, 1, 2, 3, 4] rfl ?_
  refine mw_aload_n cx (q := 1) 0 rfl rfl dX7_carry_0 rfl ?_
  refine mw_get cx (q := 4) (v := .int (M 7 0 0 10)) gf_X7_60 rfl rfl vi_7_0 dX7_carry_1 rfl ?_
  refine mw_if_eq cx (tgt := 9) (q := 7) dX7_carry_4 (by decide) rfl (fun h1 => ?_) (fun h1 => ?_)
  · refine mw_aload_n cx (q := 10) 0 rfl rfl dX7_carry_9 rfl ?_
    refine mw_get cx (q := 13) (v := .ref (ad 9 0 0)) gf_X7_18 rfl rfl vi_7_0 dX7_carry_10 rfl ?_
    refine mw_iload_n cx (q := 14) 3 rfl rfl dX7_carry_13 rfl ?_
    refine mw_bnd (fun r2 er2 => ?_)
    refine mw_callV cx (q := 17) (d := 0) (As := [.int p3]) (z := fip M r2) (st := []) (st1 := [.int r2]) (M' := M) (by rw [er2]; exact mc_X9_contentOf l D ta ad M p3) cv_X7_142 rfl rfl rfl vi_9_0 ⟨Nat.le_of_ble_eq_true rfl, Nat.le_of_ble_eq_true rfl⟩ ⟨Nat.le_refl _, Nat.le_refl _⟩ (by simp [Value.category]) rfl rfl rfl dX7_carry_14 rfl ?_
    refine mw_bnd (fun r3 er3 => ?_)
    refine mw_callS cx (q := 20) (d := 0) (As := [.int r2]) (z := fip M r3) (st := []) (st1 := [.int r3]) (M' := M) (by rw [er3]; exact mc_X10_goodOf l D ta ad M r2) cv_X7_156 ⟨Nat.le_of_ble_eq_true rfl, Nat.le_of_ble_eq_true rfl⟩ ⟨Nat.le_refl _, Nat.le_refl _⟩ (by simp [Value.category]) rfl rfl rfl dX7_carry_17 rfl ?_
    refine mw_istore cx (q := 22) (lv' := [(5, .int r3), (0, .ref (ad 7 0 0)), (1, .int p1), (2, .int p2), (3, .int p3), (4, .int p4)]) rfl (by decide) dX7_carry_20 rfl ?_
    refine mw_iload cx (q := 24) 5 rfl dX7_carry_22 rfl ?_
    refine mw_if_lt cx (tgt := 33) (q := 27) dX7_carry_24 (by decide) rfl (fun h4 => ?_) (fun h4 => ?_)
    · refine mw_aload_n cx (q := 34) 1 rfl rfl dX7_carry_33 rfl ?_
      refine mw_bipush cx (q := 36) (v := 6) dX7_carry_34 rfl rfl ?_
      refine mw_bnd (fun r5 er5 => ?_)
      refine mw_callV cx (q := 39) (d := 0) (As := [.int 6]) (z := fic M 7 r5) (st := []) (st1 := [.int r5.1]) (M' := uW M 7 r5.2) (by rw [er5]; exact mc_X7_stop l D ta ad M 6) cv_X7_136 rfl rfl rfl vi_7_0 ⟨Nat.le_of_ble_eq_true rfl, Nat.le_of_ble_eq_true rfl⟩ ⟨Nat.le_refl _, Nat.le_refl _⟩ (by simp [Value.category]) rfl rfl rfl dX7_carry_36 rfl ?_
      refine mw_bndM (fun M6 eM6 => ?_)
      have ok7 : Ok7 M6 := (by rw [eM6, er5]; exact ok7_f7_stop hok 6)
      exact mw_iret cx hr rfl dX7_carry_39
    · refine mw_iload cx (q := 29) 0 rfl dX7_carry_27 rfl ?_
      refine mw_iconst cx (q := 30) (v := (-1)) dX7_carry_29 rfl rfl ?_
      refine mw_icmp_ne cx (tgt := 40) (q := 33) dX7_carry_30 (by decide) rfl (fun h8 => ?_) (fun h8 => ?_)
      · refine mw_iload cx (q := 42) 5 rfl dX7_carry_40 rfl ?_
        refine mw_aload_n cx (q := 43) 1 rfl rfl dX7_carry_42 rfl ?_
        refine mw_get cx (q := 46) (v := .ref (ad 1 0 0)) gf_X7_30 rfl rfl vi_7_0 dX7_carry_43 rfl ?_
        refine mw_iload_n cx (q := 47) 2 rfl rfl dX7_carry_46 rfl ?_
        refine mw_iload cx (q := 49) 0 rfl dX7_carry_47 rfl ?_
        refine mw_bnd (fun r9 er9 => ?_)
        refine mw_callV cx (q := 52) (d := 0) (As := [.int p1, .int r3]) (z := fip M r9) (st := [.int p4]) (st1 := [.int r9, .int p4]) (M' := M) (by rw [er9]; exact mc_X1_stockOf l D ta ad M p1 r3 ho1 (by have hz := h8; rw [er3] at hz ⊢; exact goodOf_in hz)) cv_X7_161 rfl rfl rfl vi_1_0 ⟨Nat.le_of_ble_eq_true rfl, Nat.le_of_ble_eq_true rfl⟩ ⟨Nat.le_refl _, Nat.le_refl _⟩ (by simp [Value.category]) rfl rfl rfl dX7_carry_49 rfl ?_
        refine mw_min cx (q := 55) cm_X7_252 ⟨Nat.le_of_ble_eq_true rfl, Nat.le_of_ble_eq_true rfl⟩ ⟨Nat.le_refl _, Nat.le_refl _⟩ (by simp [Value.category]) dX7_carry_52 rfl ?_
        refine mw_bndT (fun v10 ev10 => ?_)
        refine mw_istore cx (q := 57) (lv' := [(6, .int v10), (5, .int r3), (0, .ref (ad 7 0 0)), (1, .int p1), (2, .int p2), (3, .int p3), (4, .int p4)]) rfl (by decide) dX7_carry_55 rfl ?_
        refine mw_iload_n cx (q := 58) 3 rfl rfl dX7_carry_57 rfl ?_
        refine mw_iload_n cx (q := 59) 4 rfl rfl dX7_carry_58 rfl ?_
        refine mw_icmp_eq cx (tgt := 67) (q := 62) dX7_carry_59 (by decide) rfl (fun h11 => ?_) (fun h11 => ?_)
        · refine mw_iconst cx (q := 68) (v := 0) dX7_carry_67 rfl rfl ?_
          exact mw_iret cx hr rfl dX7_carry_68
        · refine mw_iload cx (q := 64) 0 rfl dX7_carry_62 rfl ?_
          refine mw_if_ne cx (tgt := 69) (q := 67) dX7_carry_64 (by decide) rfl (fun h12 => ?_) (fun h12 => ?_)
          · refine mw_aload_n cx (q := 70) 2 rfl rfl dX7_carry_69 rfl ?_
            refine mw_get cx (q := 73) (v := .ref (ad 1 0 0)) gf_X7_30 rfl rfl vi_7_0 dX7_carry_70 rfl ?_
            refine mw_bnd (fun r13 er13 => ?_)
            refine mw_callV cx (q := 76) (d := 0) (As := []) (z := fzp M r13) (st := []) (st1 := [.int (b2i r13)]) (M' := M) (by rw [er13]; exact mc_X1_isFull l D ta ad M) cv_X7_302 rfl rfl rfl vi_1_0 ⟨Nat.le_of_ble_eq_true rfl, Nat.le_of_ble_eq_true rfl⟩ ⟨Nat.le_refl _, Nat.le_refl _⟩ (by simp [Value.category]) rfl rfl rfl dX7_carry_73 rfl ?_
            refine mw_ifb_eq cx (tgt := 85) (q := 79) dX7_carry_76 (by decide) rfl (fun h14 => ?_) (fun h14 => ?_)
            · refine mw_aload_n cx (q := 86) 2 rfl rfl dX7_carry_85 rfl ?_
              refine mw_get cx (q := 89) (v := .ref (ad 1 0 0)) gf_X7_30 rfl rfl vi_7_0 dX7_carry_86 rfl ?_
              refine mw_iload_n cx (q := 90) 3 rfl rfl dX7_carry_89 rfl ?_
              refine mw_iload_n cx (q := 91) 4 rfl rfl dX7_carry_90 rfl ?_
              refine mw_iload cx (q := 93) 1 rfl dX7_carry_91 rfl ?_
              refine mw_iload cx (q := 95) 0 rfl dX7_carry_93 rfl ?_
              refine mw_aload_n cx (q := 96) 2 rfl rfl dX7_carry_95 rfl ?_
              refine mw_get cx (q := 99) (v := .int (M 7 0 0 6)) gf_X7_44 rfl rfl vi_7_0 dX7_carry_96 rfl ?_
              refine mw_bnd (fun r15 er15 => ?_)
              refine mw_callV cx (q := 102) (d := 0) (As := [.int p1, .int p2, .int r3, .int v10, .int (M 7 0 0 6)]) (z := fvc M 1 r15) (st := []) (st1 := []) (M' := uW M 1 r15) (by rw [er15]; exact mc_X1_move l D ta ad M p1 p2 r3 v10 (M 7 0 0 6) hok.2.2.2.2.2.2.2.1 hok.2.2.2.2.2.2.2.2.1 ho1 (ho2 h1) (by have hz := h8; rw [er3] at hz ⊢; exact goodOf_in hz)) cv_X7_306 rfl rfl rfl vi_1_0 ⟨Nat.le_of_ble_eq_true rfl, Nat.le_of_ble_eq_true rfl⟩ ⟨Nat.le_refl _, Nat.le_refl _⟩ (by simp [Value.category]) rfl rfl rfl dX7_carry_99 rfl ?_
              refine mw_bndM (fun M16 eM16 => ?_)
              have ok17 : Ok7 M16 := (by rw [eM16, er15]; exact ok7_f1_move hok p1 p2 r3 v10 (M 7 0 0 6) hok.2.2.2.2.2.2.2.1 hok.2.2.2.2.2.2.2.2.1 ho1 (ho2 h1) (by have hz := h8; rw [er3] at hz ⊢; exact goodOf_in hz))
              refine mw_iload cx (q := 104) 0 rfl dX7_carry_102 rfl ?_
              exact mw_iret cx hr rfl dX7_carry_104
            · refine mw_aload_n cx (q := 80) 2 rfl rfl dX7_carry_79 rfl ?_
              refine mw_iconst cx (q := 81) (v := 2) dX7_carry_80 rfl rfl ?_
              refine mw_bnd (fun r18 er18 => ?_)
              refine mw_callV cx (q := 84) (d := 0) (As := [.int 2]) (z := fic M 7 r18) (st := []) (st1 := [.int r18.1]) (M' := uW M 7 r18.2) (by rw [er18]; exact mc_X7_stop l D ta ad M 2) cv_X7_136 rfl rfl rfl vi_7_0 ⟨Nat.le_of_ble_eq_true rfl, Nat.le_of_ble_eq_true rfl⟩ ⟨Nat.le_refl _, Nat.le_refl _⟩ (by simp [Value.category]) rfl rfl rfl dX7_carry_81 rfl ?_
              refine mw_bndM (fun M19 eM19 => ?_)
              have ok20 : Ok7 M19 := (by rw [eM19, er18]; exact ok7_f7_stop hok 2)
              exact mw_iret cx hr rfl dX7_carry_84
          · refine mw_iconst cx (q := 68) (v := 0) dX7_carry_67 rfl rfl ?_
            exact mw_iret cx hr rfl dX7_carry_68
      · refine mw_aload_n cx (q := 34) 1 rfl rfl dX7_carry_33 rfl ?_
        refine mw_bipush cx (q := 36) (v := 6) dX7_carry_34 rfl rfl ?_
        refine mw_bnd (fun r21 er21 => ?_)
        refine mw_callV cx (q := 39) (d := 0) (As := [.int 6]) (z := fic M 7 r21) (st := []) (st1 := [.int r21.1]) (M' := uW M 7 r21.2) (by rw [er21]; exact mc_X7_stop l D ta ad M 6) cv_X7_136 rfl rfl rfl vi_7_0 ⟨Nat.le_of_ble_eq_true rfl, Nat.le_of_ble_eq_true rfl⟩ ⟨Nat.le_refl _, Nat.le_refl _⟩ (by simp [Value.category]) rfl rfl rfl dX7_carry_36 rfl ?_
        refine mw_bndM (fun M22 eM22 => ?_)
        have ok23 : Ok7 M22 := (by rw [eM22, er21]; exact ok7_f7_stop hok 6)
        exact mw_iret cx hr rfl dX7_carry_39
  · refine mw_iconst cx (q := 8) (v := 0) dX7_carry_7 rfl rfl ?_
    exact mw_iret cx hr rfl dX7_carry_8
def f7_define (M : Wm) (p1 : Int32) : (Int32 × Wm) := bnd (f9_partOf (M 9) p1 1) (fun (r1 : Int32) => bnd (f9_contentOf (M 9) r1) (fun (r2 : Int32) => bnd (f10_of r2) (fun (r3 : Int32) => if r3 < 0 then bnd (f10_goodOf r2) (fun (r5 : Int32) => if r5 = (-1) then bnd (f9_partOf (M 9) p1 2) (fun (r10 : Int32) => bnd (f7_areInnerNames M r10) (fun (r11 : Bool) => if r11 = true then bnd (f2_defines (M 2) r2 p1) (fun (r13 : Bool × Cm) => bnd (uW M 2 r13.2) (fun (M14 : Wm) => if r13.1 = true then (0, M14) else bnd (f7_stop (M14 7) 2) (fun (r17 : Int32 × Cm) => bnd (uW M14 7 r17.2) (fun (M18 : Wm) => (r17.1, M18))))) else bnd (f7_stop (M 7) 4) (fun (r20 : Int32 × Cm) => bnd (uW M 7 r20.2) (fun (M21 : Wm) => (r20.1, M21))))) else bnd (f7_stop (M 7) 4) (fun (r7 : Int32 × Cm) => bnd (uW M 7 r7.2) (fun (M8 : Wm) => (r7.1, M8)))) else bnd (f7_stop (M 7) 4) (fun (r23 : Int32 × Cm) => bnd (uW M 7 r23.2) (fun (M24 : Wm) => (r23.1, M24))))))
set_option maxHeartbeats 4000000 in
set_option maxRecDepth 100000 in
theorem mc_X7_define (l : Launch) (D : va_G) (ta : wTa) (ad : wAd) (M : Wm) (p1 : Int32) (hok : Ok7 M) : MC l D ta ad yX7_define cX7_define 3 (some .int) 2 [.ref (ad 7 0 0), .int p1] M (fi (f7_define M p1)) := by
  refine MC.of (fi) (f7_define M p1) rfl (by decide) (Nat.le_of_ble_eq_true rfl) (fun p e s m args below meth c cx hr => ?_)
  unfold f7_define
  refine mw_sub (lv' := [(0, .ref (ad 7 0 0)), (1, .int p1)]) [0, 1] rfl ?_
  refine mw_aload_n cx (q := 1) 0 rfl rfl dX7_define_0 rfl ?_
  refine mw_get cx (q := 4) (v := .ref (ad 9 0 0)) gf_X7_18 rfl rfl vi_7_0 dX7_define_1 rfl ?_
  refine mw_aload_n cx (q := 5) 0 rfl rfl dX7_define_4 rfl ?_
  refine mw_get cx (q := 8) (v := .ref (ad 9 0 0)) gf_X7_18 rfl rfl vi_7_0 dX7_define_5 rfl ?_
  refine mw_iload_n cx (q := 9) 1 rfl rfl dX7_define_8 rfl ?_
  refine mw_iconst cx (q := 10) (v := 1) dX7_define_9 rfl rfl ?_
  refine mw_bnd (fun r1 er1 => ?_)
  refine mw_callV cx (q := 13) (d := 0) (As := [.int p1, .int 1]) (z := fip M r1) (st := [.ref (ad 9 0 0)]) (st1 := [.int r1, .ref (ad 9 0 0)]) (M' := M) (by rw [er1]; exact mc_X9_partOf l D ta ad M p1 1) cv_X7_86 rfl rfl rfl vi_9_0 ⟨Nat.le_of_ble_eq_true rfl, Nat.le_of_ble_eq_true rfl⟩ ⟨Nat.le_refl _, Nat.le_refl _⟩ (by simp [Value.category]) rfl rfl rfl dX7_define_10 rfl ?_
  refine mw_bnd (fun r2 er2 => ?_)
  refine mw_callV cx (q := 16) (d := 0) (As := [.int r1]) (z := fip M r2) (st := []) (st1 := [.int r2]) (M' := M) (by rw [er2]; exact mc_X9_contentOf l D ta ad M r1) cv_X7_142 rfl rfl rfl vi_9_0 ⟨Nat.le_of_ble_eq_true rfl, Nat.le_of_ble_eq_true rfl⟩ ⟨Nat.le_refl _, Nat.le_refl _⟩ (by simp [Value.category]) rfl rfl rfl dX7_define_13 rfl ?_
  refine mw_istore_n cx (q := 17) (lv' := [(2, .int r2), (0, .ref (ad 7 0 0)), (1, .int p1)]) rfl rfl (by decide) dX7_define_16 rfl ?_
  refine mw_iload_n cx (q := 18) 0 rfl rfl dX7_define_17 rfl ?_
  refine mw_bnd (fun r3 er3 => ?_)
  refine mw_split (fun h4 => ?_) (fun h4 => ?_)
  · refine mw_callS cx (q := 21) (d := 0) (As := [.int r2]) (z := frw ad M r3) (st := []) (st1 := [.null]) (M' := M) (by rw [er3]; exact mc_X10_of l D ta ad M r2) cv_X7_164 ⟨Nat.le_of_ble_eq_true rfl, Nat.le_of_ble_eq_true rfl⟩ ⟨Nat.le_refl _, Nat.le_refl _⟩ (by simp [Value.category]) rfl (by show (wref ad r3 :: _) = _; rw [wref, if_pos h4]; rfl) rfl dX7_define_18 rfl ?_
    refine mw_ifnonnullN cx (q := 24) dX7_define_21 rfl ?_
    refine mw_iload_n cx (q := 25) 0 rfl rfl dX7_define_24 rfl ?_
    refine mw_bnd (fun r5 er5 => ?_)
    refine mw_callS cx (q := 28) (d := 0) (As := [.int r2]) (z := fip M r5) (st := []) (st1 := [.int r5]) (M' := M) (by rw [er5]; exact mc_X10_goodOf l D ta ad M r2) cv_X7_156 ⟨Nat.le_of_ble_eq_true rfl, Nat.le_of_ble_eq_true rfl⟩ ⟨Nat.le_refl _, Nat.le_refl _⟩ (by simp [Value.category]) rfl rfl rfl dX7_define_25 rfl ?_
    refine mw_iconst cx (q := 29) (v := (-1)) dX7_define_28 rfl rfl ?_
    refine mw_icmp_ne cx (tgt := 48) (q := 32) dX7_define_29 (by decide) rfl (fun h6 => ?_) (fun h6 => ?_)
    · refine mw_aload_n cx (q := 49) 1 rfl rfl dX7_define_48 rfl ?_
      refine mw_iconst cx (q := 50) (v := 4) dX7_define_49 rfl rfl ?_
      refine mw_bnd (fun r7 er7 => ?_)
      refine mw_callV cx (q := 53) (d := 0) (As := [.int 4]) (z := fic M 7 r7) (st := []) (st1 := [.int r7.1]) (M' := uW M 7 r7.2) (by rw [er7]; exact mc_X7_stop l D ta ad M 4) cv_X7_136 rfl rfl rfl vi_7_0 ⟨Nat.le_of_ble_eq_true rfl, Nat.le_of_ble_eq_true rfl⟩ ⟨Nat.le_refl _, Nat.le_refl _⟩ (by simp [Value.category]) rfl rfl rfl dX7_define_50 rfl ?_
      refine mw_bndM (fun M8 eM8 => ?_)
      have ok9 : Ok7 M8 := (by rw [eM8, er7]; exact ok7_f7_stop hok 4)
      exact mw_iret cx hr rfl dX7_define_53
    · refine mw_aload_n cx (q := 33) 1 rfl rfl dX7_define_32 rfl ?_
      refine mw_aload_n cx (q := 34) 1 rfl rfl dX7_define_33 rfl ?_
      refine mw_get cx (q := 37) (v := .ref (ad 9 0 0)) gf_X7_18 rfl rfl vi_7_0 dX7_define_34 rfl ?_
      refine mw_iload_n cx (q := 38) 2 rfl rfl dX7_define_37 rfl ?_
      refine mw_iconst cx (q := 39) (v := 2) dX7_define_38 rfl rfl ?_
      refine mw_bnd (fun r10 er10 => ?_)
      refine mw_callV cx (q := 42) (d := 0) (As := [.int p1, .int 2]) (z := fip M r10) (st := [.ref (ad 7 0 0)]) (st1 := [.int r10, .ref (ad 7 0 0)]) (M' := M) (by rw [er10]; exact mc_X9_partOf l D ta ad M p1 2) cv_X7_86 rfl rfl rfl vi_9_0 ⟨Nat.le_of_ble_eq_true rfl, Nat.le_of_ble_eq_true rfl⟩ ⟨Nat.le_refl _, Nat.le_refl _⟩ (by simp [Value.category]) rfl rfl rfl dX7_define_39 rfl ?_
      refine mw_bnd (fun r11 er11 => ?_)
      refine mw_callV cx (q := 45) (d := 1) (As := [.int r10]) (z := fzp M r11) (st := []) (st1 := [.int (b2i r11)]) (M' := M) (by rw [er11]; exact mc_X7_areInnerNames l D ta ad M r10) cv_X7_278 rfl rfl rfl vi_7_0 ⟨Nat.le_of_ble_eq_true rfl, Nat.le_of_ble_eq_true rfl⟩ ⟨Nat.le_refl _, Nat.le_refl _⟩ (by simp [Value.category]) rfl rfl rfl dX7_define_42 rfl ?_
      refine mw_ifb_ne cx (tgt := 54) (q := 48) dX7_define_45 (by decide) rfl (fun h12 => ?_) (fun h12 => ?_)
      · refine mw_aload_n cx (q := 55) 1 rfl rfl dX7_define_54 rfl ?_
        refine mw_get cx (q := 58) (v := .ref (ad 2 0 0)) gf_X7_12 rfl rfl vi_7_0 dX7_define_55 rfl ?_
        refine mw_iload_n cx (q := 59) 0 rfl rfl dX7_define_58 rfl ?_
        refine mw_iload_n cx (q := 60) 2 rfl rfl dX7_define_59 rfl ?_
        refine mw_bnd (fun r13 er13 => ?_)
        refine mw_callV cx (q := 63) (d := 1) (As := [.int r2, .int p1]) (z := fzc M 2 r13) (st := []) (st1 := [.int (b2i r13.1)]) (M' := uW M 2 r13.2) (by rw [er13]; exact mc_X2_defines l D ta ad M r2 p1 hok.2.2.2.2.2.1 hok.2.2.2.2.2.2.1) cv_X7_281 rfl rfl rfl vi_2_0 ⟨Nat.le_of_ble_eq_true rfl, Nat.le_of_ble_eq_true rfl⟩ ⟨Nat.le_refl _, Nat.le_refl _⟩ (by simp [Value.category]) rfl rfl rfl dX7_define_60 rfl ?_
        refine mw_bndM (fun M14 eM14 => ?_)
        have ok15 : Ok7 M14 := (by rw [eM14, er13]; exact ok7_f2_defines hok r2 p1)
        refine mw_ifb_eq cx (tgt := 70) (q := 66) dX7_define_63 (by decide) rfl (fun h16 => ?_) (fun h16 => ?_)
        · refine mw_aload_n cx (q := 71) 1 rfl rfl dX7_define_70 rfl ?_
          refine mw_iconst cx (q := 72) (v := 2) dX7_define_71 rfl rfl ?_
          refine mw_bnd (fun r17 er17 => ?_)
          refine mw_callV cx (q := 75) (d := 0) (As := [.int 2]) (z := fic M14 7 r17) (st := []) (st1 := [.int r17.1]) (M' := uW M14 7 r17.2) (by rw [er17]; exact mc_X7_stop l D ta ad M14 2) cv_X7_136 rfl rfl rfl vi_7_0 ⟨Nat.le_of_ble_eq_true rfl, Nat.le_of_ble_eq_true rfl⟩ ⟨Nat.le_refl _, Nat.le_refl _⟩ (by simp [Value.category]) rfl rfl rfl dX7_define_72 rfl ?_
          refine mw_bndM (fun M18 eM18 => ?_)
          have ok19 : Ok7 M18 := (by rw [eM18, er17]; exact ok7_f7_stop ok15 2)
          exact mw_iret cx hr rfl dX7_define_75
        · refine mw_iconst cx (q := 67) (v := 0) dX7_define_66 rfl rfl ?_
          refine mw_goto cx (tgt := 75) dX7_define_67 (by decide) ?_
          exact mw_iret cx hr rfl dX7_define_75
      · refine mw_aload_n cx (q := 49) 1 rfl rfl dX7_define_48 rfl ?_
        refine mw_iconst cx (q := 50) (v := 4) dX7_define_49 rfl rfl ?_
        refine mw_bnd (fun r20 er20 => ?_)
        refine mw_callV cx (q := 53) (d := 0) (As := [.int 4]) (z := fic M 7 r20) (st := []) (st1 := [.int r20.1]) (M' := uW M 7 r20.2) (by rw [er20]; exact mc_X7_stop l D ta ad M 4) cv_X7_136 rfl rfl rfl vi_7_0 ⟨Nat.le_of_ble_eq_true rfl, Nat.le_of_ble_eq_true rfl⟩ ⟨Nat.le_refl _, Nat.le_refl _⟩ (by simp [Value.category]) rfl rfl rfl dX7_define_50 rfl ?_
        refine mw_bndM (fun M21 eM21 => ?_)
        have ok22 : Ok7 M21 := (by rw [eM21, er20]; exact ok7_f7_stop hok 4)
        exact mw_iret cx hr rfl dX7_define_53
  · have wr3 : vp_in r3 26 := (by rw [er3] at h4 ⊢; exact f10_of_in h4)
    refine mw_callS cx (q := 21) (d := 0) (As := [.int r2]) (z := frw ad M r3) (st := []) (st1 := [.ref (ad 10 0 r3)]) (M' := M) (by rw [er3]; exact mc_X10_of l D ta ad M r2) cv_X7_164 ⟨Nat.le_of_ble_eq_true rfl, Nat.le_of_ble_eq_true rfl⟩ ⟨Nat.le_refl _, Nat.le_refl _⟩ (by simp [Value.category]) rfl (by show (wref ad r3 :: _) = _; rw [wref, if_neg h4]; rfl) rfl dX7_define_18 rfl ?_
    refine mw_ifnonnull cx (tgt := 48) dX7_define_21 (by decide) ?_
    refine mw_aload_n cx (q := 49) 1 rfl rfl dX7_define_48 rfl ?_
    refine mw_iconst cx (q := 50) (v := 4) dX7_define_49 rfl rfl ?_
    refine mw_bnd (fun r23 er23 => ?_)
    refine mw_callV cx (q := 53) (d := 0) (As := [.int 4]) (z := fic M 7 r23) (st := []) (st1 := [.int r23.1]) (M' := uW M 7 r23.2) (by rw [er23]; exact mc_X7_stop l D ta ad M 4) cv_X7_136 rfl rfl rfl vi_7_0 ⟨Nat.le_of_ble_eq_true rfl, Nat.le_of_ble_eq_true rfl⟩ ⟨Nat.le_refl _, Nat.le_refl _⟩ (by simp [Value.category]) rfl rfl rfl dX7_define_50 rfl ?_
    refine mw_bndM (fun M24 eM24 => ?_)
    have ok25 : Ok7 M24 := (by rw [eM24, er23]; exact ok7_f7_stop hok 4)
    exact mw_iret cx hr rfl dX7_define_53
def f7_buyWith (M : Wm) (p1 : Int32) : (Int32 × Wm) := if (M 7 0 0 10) = 0 then if 0 ≤ p1 then bnd (f5_rationsOf (M 5) (M 7 0 0 7)) (fun (r3 : Int32) => bnd (f5_buyFuel (M 5) (M 7 0 0 7) (mnI p1 r3)) (fun (r4 : Int32 × Cm) => bnd (uW M 5 r4.2) (fun (M5 : Wm) => (r4.1, M5)))) else bnd (f7_stop (M 7) 6) (fun (r7 : Int32 × Cm) => bnd (uW M 7 r7.2) (fun (M8 : Wm) => (r7.1, M8))) else (0, M)
set_option maxHeartbeats 4000000 in
set_option maxRecDepth 100000 in
theorem mc_X7_buyWith (l : Launch) (D : va_G) (ta : wTa) (ad : wAd) (M : Wm) (p1 : Int32) (hok : Ok7 M) : MC l D ta ad yX7_buyWith cX7_buyWith 2 (some .int) 2 [.ref (ad 7 0 0), .int p1] M (fi (f7_buyWith M p1)) := by
  refine MC.of (fi) (f7_buyWith M p1) rfl (by decide) (Nat.le_of_ble_eq_true rfl) (fun p e s m args below meth c cx hr => ?_)
  unfold f7_buyWith
  refine mw_sub (lv' := [(0, .ref (ad 7 0 0)), (1, .int p1)]) [0, 1] rfl ?_
  refine mw_aload_n cx (q := 1) 0 rfl rfl dX7_buyWith_0 rfl ?_
  refine mw_get cx (q := 4) (v := .int (M 7 0 0 10)) gf_X7_60 rfl rfl vi_7_0 dX7_buyWith_1 rfl ?_
  refine mw_if_eq cx (tgt := 9) (q := 7) dX7_buyWith_4 (by decide) rfl (fun h1 => ?_) (fun h1 => ?_)
  · refine mw_iload_n cx (q := 10) 1 rfl rfl dX7_buyWith_9 rfl ?_
    refine mw_if_ge cx (tgt := 20) (q := 13) dX7_buyWith_10 (by decide) rfl (fun h2 => ?_) (fun h2 => ?_)
    · refine mw_aload_n cx (q := 21) 0 rfl rfl dX7_buyWith_20 rfl ?_
      refine mw_get cx (q := 24) (v := .ref (ad 5 0 0)) gf_X7_26 rfl rfl vi_7_0 dX7_buyWith_21 rfl ?_
      refine mw_aload_n cx (q := 25) 0 rfl rfl dX7_buyWith_24 rfl ?_
      refine mw_get cx (q := 28) (v := .int (M 7 0 0 7)) gf_X7_53 rfl rfl vi_7_0 dX7_buyWith_25 rfl ?_
      refine mw_iload_n cx (q := 29) 1 rfl rfl dX7_buyWith_28 rfl ?_
      refine mw_aload_n cx (q := 30) 0 rfl rfl dX7_buyWith_29 rfl ?_
      refine mw_get cx (q := 33) (v := .ref (ad 5 0 0)) gf_X7_26 rfl rfl vi_7_0 dX7_buyWith_30 rfl ?_
      refine mw_aload_n cx (q := 34) 0 rfl rfl dX7_buyWith_33 rfl ?_
      refine mw_get cx (q := 37) (v := .int (M 7 0 0 7)) gf_X7_53 rfl rfl vi_7_0 dX7_buyWith_34 rfl ?_
      refine mw_bnd (fun r3 er3 => ?_)
      refine mw_callV cx (q := 40) (d := 0) (As := [.int (M 7 0 0 7)]) (z := fip M r3) (st := [.int p1, .int (M 7 0 0 7), .ref (ad 5 0 0)]) (st1 := [.int r3, .int p1, .int (M 7 0 0 7), .ref (ad 5 0 0)]) (M' := M) (by rw [er3]; exact mc_X5_rationsOf l D ta ad M (M 7 0 0 7) hok.1) cv_X7_313 rfl rfl rfl vi_5_0 ⟨Nat.le_of_ble_eq_true rfl, Nat.le_of_ble_eq_true rfl⟩ ⟨Nat.le_refl _, Nat.le_refl _⟩ (by simp [Value.category]) rfl rfl rfl dX7_buyWith_37 rfl ?_
      refine mw_min cx (q := 43) cm_X7_252 ⟨Nat.le_of_ble_eq_true rfl, Nat.le_of_ble_eq_true rfl⟩ ⟨Nat.le_refl _, Nat.le_refl _⟩ (by simp [Value.category]) dX7_buyWith_40 rfl ?_
      refine mw_bnd (fun r4 er4 => ?_)
      refine mw_callV cx (q := 46) (d := 1) (As := [.int (M 7 0 0 7), .int (mnI p1 r3)]) (z := fic M 5 r4) (st := []) (st1 := [.int r4.1]) (M' := uW M 5 r4.2) (by rw [er4]; exact mc_X5_buyFuel l D ta ad M (M 7 0 0 7) (mnI p1 r3) hok.1) cv_X7_316 rfl rfl rfl vi_5_0 ⟨Nat.le_of_ble_eq_true rfl, Nat.le_of_ble_eq_true rfl⟩ ⟨Nat.le_refl _, Nat.le_refl _⟩ (by simp [Value.category]) rfl rfl rfl dX7_buyWith_43 rfl ?_
      refine mw_bndM (fun M5 eM5 => ?_)
      have ok6 : Ok7 M5 := (by rw [eM5, er4]; exact ok7_f5_buyFuel hok (M 7 0 0 7) (mnI p1 r3))
      exact mw_iret cx hr rfl dX7_buyWith_46
    · refine mw_aload_n cx (q := 14) 0 rfl rfl dX7_buyWith_13 rfl ?_
      refine mw_bipush cx (q := 16) (v := 6) dX7_buyWith_14 rfl rfl ?_
      refine mw_bnd (fun r7 er7 => ?_)
      refine mw_callV cx (q := 19) (d := 0) (As := [.int 6]) (z := fic M 7 r7) (st := []) (st1 := [.int r7.1]) (M' := uW M 7 r7.2) (by rw [er7]; exact mc_X7_stop l D ta ad M 6) cv_X7_136 rfl rfl rfl vi_7_0 ⟨Nat.le_of_ble_eq_true rfl, Nat.le_of_ble_eq_true rfl⟩ ⟨Nat.le_refl _, Nat.le_refl _⟩ (by simp [Value.category]) rfl rfl rfl dX7_buyWith_16 rfl ?_
      refine mw_bndM (fun M8 eM8 => ?_)
      have ok9 : Ok7 M8 := (by rw [eM8, er7]; exact ok7_f7_stop hok 6)
      exact mw_iret cx hr rfl dX7_buyWith_19
  · refine mw_iconst cx (q := 8) (v := 0) dX7_buyWith_7 rfl rfl ?_
    exact mw_iret cx hr rfl dX7_buyWith_8
theorem f7_stop_ok {M : Wm} (h : Ok7 M) (a : Int32) : Ok7 (uW M 7 (f7_stop (M 7) a).2) := ok7_f7_stop h a
theorem ok7_f7_combine {M : Wm} (h : Ok7 M) (a b c : Int32) : Ok7 (f7_combine M a b c).2 := by
  unfold f7_combine; simp only [bnd, jn]
  repeat' split
  all_goals first | with_reducible exact h | with_reducible exact ok7_f7_stop h _
theorem ok7_f7_valueOfName {M : Wm} (h : Ok7 M) (a : Int32) : Ok7 (f7_valueOfName M a).2 := by
  unfold f7_valueOfName; simp only [bnd, jn]
  repeat' split
  all_goals first | with_reducible exact h | with_reducible exact ok7_f7_stop h _
theorem ok7_f7_bindInner {M : Wm} (h : Ok7 M) (a b c : Int32) : Ok7 (f7_bindInner M a b c) := by
  unfold f7_bindInner; simp only [bnd, jn]
  repeat' split
  all_goals first | exact h | exact ok7_f2_bind h _ _
theorem ok7_f7_buyWith {M : Wm} (h : Ok7 M) (a : Int32) : Ok7 (f7_buyWith M a).2 := by
  unfold f7_buyWith; simp only [bnd, jn]
  repeat' split
  all_goals first | with_reducible exact h | with_reducible exact ok7_f7_stop h _ | exact ok7_f5_buyFuel h _ _
theorem ok7_f7_define {M : Wm} (h : Ok7 M) (a : Int32) : Ok7 (f7_define M a).2 := by
  unfold f7_define; simp only [bnd, jn]
  repeat' split
  all_goals first | with_reducible exact h | with_reducible exact ok7_f7_stop h _ | exact ok7_f2_defines h _ _ | exact ok7_f7_stop (ok7_f2_defines h _ _) _
theorem ok7_f7_carry {M : Wm} (h : Ok7 M) (p1 p2 p3 p4 : Int32) (h1 : vp_in (p1 + 1) 5) (h2 : M 7 0 0 10 = 0 → vp_in (p2 + 1) 5) : Ok7 (f7_carry M p1 p2 p3 p4).2 := by
  unfold f7_carry; simp only [bnd, jn]
  repeat' split
  all_goals first | with_reducible exact h | with_reducible exact ok7_f7_stop h _ | skip
  all_goals (refine ok7_f1_move h _ _ _ _ _ h.b.1 h.b.2.1 h1 (h2 (by assumption)) (goodOf_in (by assumption)))
def HVA (l : Launch) (D : va_G) (ta : wTa) (ad : wAd) (d : Nat) (VA : Wm → Int32 → Int32 → Int32 × Wm) (P : Int32 → Prop) : Prop := ∀ (M : Wm) (a dep : Int32), P dep → Ok7 M → MC l D ta ad yX7_valueAt cX7_valueAt 3 (some .int) d [.ref (ad 7 0 0), .int a, .int dep] M (fi (VA M a dep))
abbrev HOk (VA : Wm → Int32 → Int32 → Int32 × Wm) : Prop := ∀ {M : Wm}, Ok7 M → ∀ a dep : Int32, Ok7 (VA M a dep).2
def f7_valueOfPart (VA : Wm → Int32 → Int32 → Int32 × Wm) (M : Wm) (p1 : Int32) (p2 : Int32) (p3 : Int32) : (Int32 × Wm) := bnd (f9_partOf (M 9) p1 p2) (fun (r1 : Int32) => bnd (VA M r1 (p3 + 1)) (fun (r2 : Int32 × Wm) => (r2.1, r2.2)))
set_option maxHeartbeats 4000000 in
set_option maxRecDepth 100000 in
theorem mc_X7_valueOfPart (l : Launch) (D : va_G) (ta : wTa) (ad : wAd) (d : Nat) (VA : Wm → Int32 → Int32 → Int32 × Wm) (P : Int32 → Prop) (hVA : HVA l D ta ad d VA P) (hOk : HOk VA) (M : Wm) (p1 : Int32) (p2 : Int32) (p3 : Int32) (hok : Ok7 M) (hP : P (p3 + 1)) : MC l D ta ad yX7_valueOfPart cX7_valueOfPart 4 (some .int) (d + 1) [.ref (ad 7 0 0), .int p1, .int p2, .int p3] M (fi (f7_valueOfPart VA M p1 p2 p3)) := by
  refine MC.of (fi) (f7_valueOfPart VA M p1 p2 p3) rfl (by decide) (Nat.le_of_ble_eq_true rfl) (fun p e s m args below meth c cx hr => ?_)
  unfold f7_valueOfPart
  refine mw_sub (lv' := [(0, .ref (ad 7 0 0)), (1, .int p1), (2, .int p2), (3, .int p3)]) [0, 1, 2, 3] rfl ?_
  refine mw_aload_n cx (q := 1) 0 rfl rfl dX7_valueOfPart_0 rfl ?_
  refine mw_aload_n cx (q := 2) 0 rfl rfl dX7_valueOfPart_1 rfl ?_
  refine mw_get cx (q := 5) (v := .ref (ad 9 0 0)) gf_X7_18 rfl rfl vi_7_0 dX7_valueOfPart_2 rfl ?_
  refine mw_iload_n cx (q := 6) 1 rfl rfl dX7_valueOfPart_5 rfl ?_
  refine mw_iload_n cx (q := 7) 2 rfl rfl dX7_valueOfPart_6 rfl ?_
  refine mw_bnd (fun r1 er1 => ?_)
  refine mw_callV cx (q := 10) (d := 0) (As := [.int p1, .int p2]) (z := fip M r1) (st := [.ref (ad 7 0 0)]) (st1 := [.int r1, .ref (ad 7 0 0)]) (M' := M) (by rw [er1]; exact mc_X9_partOf l D ta ad M p1 p2) cv_X7_86 rfl rfl rfl vi_9_0 ⟨by show _ ≤ d + 1; omega, by show _ ≤ 40 * (d + 1); omega⟩ ⟨Nat.le_refl _, Nat.le_refl _⟩ (by simp [Value.category]) rfl rfl rfl dX7_valueOfPart_7 rfl ?_
  refine mw_iload_n cx (q := 11) 3 rfl rfl dX7_valueOfPart_10 rfl ?_
  refine mw_iconst cx (q := 12) (v := 1) dX7_valueOfPart_11 rfl rfl ?_
  refine mw_iadd cx (q := 13) dX7_valueOfPart_12 rfl ?_
  refine mw_bnd (fun r2 er2 => ?_)
  refine mw_callV cx (q := 16) (d := d) (As := [.int r1, .int (p3 + 1)]) (z := fi r2) (st := []) (st1 := [.int r2.1]) (M' := r2.2) (by rw [er2]; exact hVA M r1 (p3 + 1) hP hok) cv_X7_117 rfl rfl rfl vi_7_0 ⟨by show _ ≤ d + 1; omega, by show _ ≤ 40 * (d + 1); omega⟩ ⟨Nat.le_refl _, Nat.le_refl _⟩ (by simp [Value.category]) rfl rfl rfl dX7_valueOfPart_13 rfl ?_
  have ok3 : Ok7 r2.2 := (by rw [er2]; exact hOk hok r1 (p3 + 1))
  exact mw_iret cx hr rfl dX7_valueOfPart_16
theorem ok7_f7_valueOfPart (VA : Wm → Int32 → Int32 → Int32 × Wm) (hOk : HOk VA) {M : Wm} (h : Ok7 M) (p1 p2 p3 : Int32) : Ok7 (f7_valueOfPart VA M p1 p2 p3).2 := by
  unfold f7_valueOfPart; simp only [bnd, jn]
  with_reducible exact hOk h _ _
def f7_valueOfRow_lp17 (VA : Wm → Int32 → Int32 → Int32 × Wm) (p1 : Int32) (p3 : Int32) : Nat → (Int32 × Int32 × Int32 × Wm) → (Int32 × Wm)
  | 0, x2 => (0, x2.2.2.2)
  | n3 + 1, x2 => bnd (f9_partsOf (x2.2.2.2 9) p1) (fun (r4 : Int32) => if r4 ≤ x2.1 then (x2.2.2.1, x2.2.2.2) else if (x2.2.2.2 7 0 0 10) = 0 then bnd (VA x2.2.2.2 x2.2.1 (p3 + 1)) (fun (r7 : Int32 × Wm) => bnd (f9_nextOf (r7.2 9) x2.2.1) (fun (r9 : Int32) => bnd (x2.1 + 1) (fun (v10 : Int32) => f7_valueOfRow_lp17 VA p1 p3 n3 (v10, r9, r7.1, r7.2)))) else (x2.2.2.1, x2.2.2.2))
theorem f7_valueOfRow_lp17_s (VA : Wm → Int32 → Int32 → Int32 × Wm) (p1 : Int32) (p3 : Int32) (n3 : Nat) (x2 : Int32 × Int32 × Int32 × Wm) : f7_valueOfRow_lp17 VA p1 p3 (n3 + 1) x2 = bnd (f9_partsOf (x2.2.2.2 9) p1) (fun (r4 : Int32) => if r4 ≤ x2.1 then (x2.2.2.1, x2.2.2.2) else if (x2.2.2.2 7 0 0 10) = 0 then bnd (VA x2.2.2.2 x2.2.1 (p3 + 1)) (fun (r7 : Int32 × Wm) => bnd (f9_nextOf (r7.2 9) x2.2.1) (fun (r9 : Int32) => bnd (x2.1 + 1) (fun (v10 : Int32) => f7_valueOfRow_lp17 VA p1 p3 n3 (v10, r9, r7.1, r7.2)))) else (x2.2.2.1, x2.2.2.2)) := rfl
def f7_valueOfRow (VA : Wm → Int32 → Int32 → Int32 × Wm) (M : Wm) (p1 : Int32) (p2 : Int32) (p3 : Int32) : (Int32 × Wm) := bnd (f9_partOf (M 9) p1 p2) (fun (r1 : Int32) => f7_valueOfRow_lp17 VA p1 p3 (2147483648 + 0 * (p1).toInt.toNat) (p2, r1, 0, M))
set_option maxHeartbeats 4000000 in
set_option maxRecDepth 100000 in
theorem mc_X7_valueOfRow (l : Launch) (D : va_G) (ta : wTa) (ad : wAd) (d : Nat) (VA : Wm → Int32 → Int32 → Int32 × Wm) (P : Int32 → Prop) (hVA : HVA l D ta ad d VA P) (hOk : HOk VA) (M : Wm) (p1 : Int32) (p2 : Int32) (p3 : Int32) (hok : Ok7 M) (hP : P (p3 + 1)) (h0 : 0 ≤ p2.toInt) : MC l D ta ad yX7_valueOfRow cX7_valueOfRow 7 (some .int) (d + 1) [.ref (ad 7 0 0), .int p1, .int p2, .int p3] M (fi (f7_valueOfRow VA M p1 p2 p3)) := by
  refine MC.of (fi) (f7_valueOfRow VA M p1 p2 p3) rfl (by decide) (Nat.le_of_ble_eq_true rfl) (fun p e s m args below meth c cx hr => ?_)
  unfold f7_valueOfRow
  refine mw_sub (lv' := [(0, .ref (ad 7 0 0)), (1, .int p1), (2, .int p2), (3, .int p3)]) [0, 1, 2, 3] rfl ?_
  refine mw_iconst cx (q := 1) (v := 0) dX7_valueOfRow_0 rfl rfl ?_
  refine mw_istore cx (q := 3) (lv' := [(4, .int 0), (0, .ref (ad 7 0 0)), (1, .int p1), (2, .int p2), (3, .int p3)]) rfl (by decide) dX7_valueOfRow_1 rfl ?_
  refine mw_aload_n cx (q := 4) 1 rfl rfl dX7_valueOfRow_3 rfl ?_
  refine mw_get cx (q := 7) (v := .ref (ad 9 0 0)) gf_X7_18 rfl rfl vi_7_0 dX7_valueOfRow_4 rfl ?_
  refine mw_iload_n cx (q := 8) 2 rfl rfl dX7_valueOfRow_7 rfl ?_
  refine mw_iload_n cx (q := 9) 3 rfl rfl dX7_valueOfRow_8 rfl ?_
  refine mw_bnd (fun r1 er1 => ?_)
  refine mw_callV cx (q := 12) (d := 0) (As := [.int p1, .int p2]) (z := fip M r1) (st := []) (st1 := [.int r1]) (M' := M) (by rw [er1]; exact mc_X9_partOf l D ta ad M p1 p2) cv_X7_86 rfl rfl rfl vi_9_0 ⟨by show _ ≤ d + 1; omega, by show _ ≤ 40 * (d + 1); omega⟩ ⟨Nat.le_refl _, Nat.le_refl _⟩ (by simp [Value.category]) rfl rfl rfl dX7_valueOfRow_9 rfl ?_
  refine mw_istore cx (q := 14) (lv' := [(5, .int r1), (4, .int 0), (0, .ref (ad 7 0 0)), (1, .int p1), (2, .int p2), (3, .int p3)]) rfl (by decide) dX7_valueOfRow_12 rfl ?_
  refine mw_iload_n cx (q := 15) 4 rfl rfl dX7_valueOfRow_14 rfl ?_
  refine mw_istore cx (q := 17) (lv' := [(6, .int p2), (5, .int r1), (4, .int 0), (0, .ref (ad 7 0 0)), (1, .int p1), (2, .int p2), (3, .int p3)]) rfl (by decide) dX7_valueOfRow_15 rfl ?_
  refine mw_sub [0, 1, 2, 3, 4, 6] rfl ?_
  refine mw_loop (F := f7_valueOfRow_lp17 VA p1 p3) (I := fun (x2 : Int32 × Int32 × Int32 × Wm) => (0 ≤ (x2.1).toInt) ∧ (Ok7 x2.2.2.2)) (μ := fun (x2 : Int32 × Int32 × Int32 × Wm) => (2147483647 - (x2.1).toInt).toNat) (Mx := fun (x2 : Int32 × Int32 × Int32 × Wm) => x2.2.2.2) (px := 17) (lx := fun (x2 : Int32 × Int32 × Int32 × Wm) => [(6, .int x2.1), (5, .int x2.2.1), (4, .int x2.2.2.1), (0, .ref (ad 7 0 0)), (1, .int p1), (3, .int p3)]) (fun n3 x2 ivx2 ih => ?_) (2147483648 + 0 * (p1).toInt.toNat) (p2, r1, 0, M) ⟨(by simp only [vp_in_iff, i32lt, i32le, i32eq, i32add, i32sub, i32mul, i32neg, t32_0] at h0 ⊢; omega), hok⟩ (by simp only [vp_in_iff, i32lt, i32le, i32eq, i32add, i32sub, i32mul, i32neg, t32_0] at h0 ⊢; omega)
  obtain ⟨ivx2_0, ivx2_1⟩ := ivx2
  refine mw_eqS (f7_valueOfRow_lp17_s VA p1 p3 n3 x2) ?_
  refine mw_iload cx (q := 19) 0 rfl dX7_valueOfRow_17 rfl ?_
  refine mw_aload_n cx (q := 20) 3 rfl rfl dX7_valueOfRow_19 rfl ?_
  refine mw_get cx (q := 23) (v := .ref (ad 9 0 0)) gf_X7_18 rfl rfl vi_7_0 dX7_valueOfRow_20 rfl ?_
  refine mw_iload_n cx (q := 24) 4 rfl rfl dX7_valueOfRow_23 rfl ?_
  refine mw_bnd (fun r4 er4 => ?_)
  refine mw_callV cx (q := 27) (d := 0) (As := [.int p1]) (z := fip x2.2.2.2 r4) (st := [.int x2.1]) (st1 := [.int r4, .int x2.1]) (M' := x2.2.2.2) (by rw [er4]; exact mc_X9_partsOf l D ta ad x2.2.2.2 p1) cv_X7_90 rfl rfl rfl vi_9_0 ⟨by show _ ≤ d + 1; omega, by show _ ≤ 40 * (d + 1); omega⟩ ⟨Nat.le_refl _, Nat.le_refl _⟩ (by simp [Value.category]) rfl rfl rfl dX7_valueOfRow_24 rfl ?_
  refine mw_icmp_ge cx (tgt := 65) (q := 30) dX7_valueOfRow_27 (by decide) rfl (fun h5 => ?_) (fun h5 => ?_)
  · refine mw_iload cx (q := 67) 2 rfl dX7_valueOfRow_65 rfl ?_
    exact mw_iret cx hr rfl dX7_valueOfRow_67
  · refine mw_aload_n cx (q := 31) 3 rfl rfl dX7_valueOfRow_30 rfl ?_
    refine mw_get cx (q := 34) (v := .int (x2.2.2.2 7 0 0 10)) gf_X7_60 rfl rfl vi_7_0 dX7_valueOfRow_31 rfl ?_
    refine mw_if_ne cx (tgt := 65) (q := 37) dX7_valueOfRow_34 (by decide) rfl (fun h6 => ?_) (fun h6 => ?_)
    · refine mw_iload cx (q := 67) 2 rfl dX7_valueOfRow_65 rfl ?_
      exact mw_iret cx hr rfl dX7_valueOfRow_67
    · refine mw_aload_n cx (q := 38) 3 rfl rfl dX7_valueOfRow_37 rfl ?_
      refine mw_iload cx (q := 40) 1 rfl dX7_valueOfRow_38 rfl ?_
      refine mw_iload_n cx (q := 41) 5 rfl rfl dX7_valueOfRow_40 rfl ?_
      refine mw_iconst cx (q := 42) (v := 1) dX7_valueOfRow_41 rfl rfl ?_
      refine mw_iadd cx (q := 43) dX7_valueOfRow_42 rfl ?_
      refine mw_bnd (fun r7 er7 => ?_)
      refine mw_callV cx (q := 46) (d := d) (As := [.int x2.2.1, .int (p3 + 1)]) (z := fi r7) (st := []) (st1 := [.int r7.1]) (M' := r7.2) (by rw [er7]; exact hVA x2.2.2.2 x2.2.1 (p3 + 1) hP ivx2_1) cv_X7_117 rfl rfl rfl vi_7_0 ⟨by show _ ≤ d + 1; omega, by show _ ≤ 40 * (d + 1); omega⟩ ⟨Nat.le_refl _, Nat.le_refl _⟩ (by simp [Value.category]) rfl rfl rfl dX7_valueOfRow_43 rfl ?_
      have ok8 : Ok7 r7.2 := (by rw [er7]; exact hOk ivx2_1 x2.2.1 (p3 + 1))
      refine mw_istore cx (q := 48) (lv' := [(4, .int r7.1), (6, .int x2.1), (5, .int x2.2.1), (0, .ref (ad 7 0 0)), (1, .int p1), (3, .int p3)]) rfl (by decide) dX7_valueOfRow_46 rfl ?_
      refine mw_aload_n cx (q := 49) 3 rfl rfl dX7_valueOfRow_48 rfl ?_
      refine mw_get cx (q := 52) (v := .ref (ad 9 0 0)) gf_X7_18 rfl rfl vi_7_0 dX7_valueOfRow_49 rfl ?_
      refine mw_iload cx (q := 54) 2 rfl dX7_valueOfRow_52 rfl ?_
      refine mw_bnd (fun r9 er9 => ?_)
      refine mw_callV cx (q := 57) (d := 0) (As := [.int x2.2.1]) (z := fip r7.2 r9) (st := []) (st1 := [.int r9]) (M' := r7.2) (by rw [er9]; exact mc_X9_nextOf l D ta ad r7.2 x2.2.1) cv_X7_97 rfl rfl rfl vi_9_0 ⟨by show _ ≤ d + 1; omega, by show _ ≤ 40 * (d + 1); omega⟩ ⟨Nat.le_refl _, Nat.le_refl _⟩ (by simp [Value.category]) rfl rfl rfl dX7_valueOfRow_54 rfl ?_
      refine mw_istore cx (q := 59) (lv' := [(5, .int r9), (4, .int r7.1), (6, .int x2.1), (0, .ref (ad 7 0 0)), (1, .int p1), (3, .int p3)]) rfl (by decide) dX7_valueOfRow_57 rfl ?_
      refine mw_bnd (fun v10 ev10 => ?_)
      refine mw_iinc cx (q := 62) (v := v10) (lv' := [(6, .int v10), (5, .int r9), (4, .int r7.1), (0, .ref (ad 7 0 0)), (1, .int p1), (3, .int p3)]) 2 rfl (by rw [ev10]; rfl) rfl (by decide) dX7_valueOfRow_59 rfl ?_
      refine mw_goto cx (tgt := 17) dX7_valueOfRow_62 (by decide) ?_
      exact ih (v10, r9, r7.1, r7.2) ⟨(by have hz := h5; have hb := i32rng (r4); have hi := ivx2_0; simp only [i32le] at hz; rw [ev10, i32addn (by rw [t32_1]; omega) (by rw [t32_1]; omega), t32_1]; omega), ok8⟩ (by have hz := h5; have hb := i32rng (r4); have hi := ivx2_0; simp only [i32le] at hz; rw [ev10, i32addn (by rw [t32_1]; omega) (by rw [t32_1]; omega), t32_1]; omega)
theorem ok7_f7_valueOfRow (VA : Wm → Int32 → Int32 → Int32 × Wm) (hOk : HOk VA) {M : Wm} (h : Ok7 M) (p1 p2 p3 : Int32) : Ok7 (f7_valueOfRow VA M p1 p2 p3).2 := by
  have key : ∀ (k : Nat) (x : Int32 × Int32 × Int32 × Wm), Ok7 x.2.2.2 → Ok7 (f7_valueOfRow_lp17 VA p1 p3 k x).2 := by
    intro k
    induction k with
    | zero => intro x hx; exact hx
    | succ k ih =>
      intro x hx
      unfold f7_valueOfRow_lp17; simp only [bnd, jn]
      repeat' split
      all_goals first | with_reducible exact hx | with_reducible exact ih _ (hOk hx _ _)
  unfold f7_valueOfRow; simp only [bnd, jn]
  exact key _ _ h
def f7_valueOfChoice (VA : Wm → Int32 → Int32 → Int32 × Wm) (M : Wm) (p1 : Int32) (p2 : Int32) (p3 : Int32) : (Int32 × Wm) := bnd (f7_valueOfPart VA M p2 1 p3) (fun (r1 : Int32 × Wm) => if p1 = 12 then jn (fun (v17 : Int32) => bnd (f7_valueOfPart VA r1.2 p2 v17 p3) (fun (r20 : Int32 × Wm) => (r20.1, r20.2))) (fun K18 => if r1.1 = 0 then K18 3 else K18 2) else if p1 = 10 then jn (fun (v11 : Bool) => if v11 = true then (r1.1, r1.2) else bnd (f7_valueOfPart VA r1.2 p2 2 p3) (fun (r15 : Int32 × Wm) => (r15.1, r15.2))) (fun K12 => if r1.1 = 0 then K12 true else K12 false) else jn (fun (v5 : Bool) => if v5 = true then (r1.1, r1.2) else bnd (f7_valueOfPart VA r1.2 p2 2 p3) (fun (r9 : Int32 × Wm) => (r9.1, r9.2))) (fun K6 => if r1.1 = 0 then K6 false else K6 true))
set_option maxHeartbeats 4000000 in
set_option maxRecDepth 100000 in
theorem mc_X7_valueOfChoice (l : Launch) (D : va_G) (ta : wTa) (ad : wAd) (d : Nat) (VA : Wm → Int32 → Int32 → Int32 × Wm) (P : Int32 → Prop) (hVA : HVA l D ta ad d VA P) (hOk : HOk VA) (M : Wm) (p1 : Int32) (p2 : Int32) (p3 : Int32) (hok : Ok7 M) (hp1 : vp_in p1 26) (hP : P (p3 + 1)) : MC l D ta ad yX7_valueOfChoice cX7_valueOfChoice 6 (some .int) (d + 2) [.ref (ad 7 0 0), .ref (ad 10 0 p1), .int p2, .int p3] M (fi (f7_valueOfChoice VA M p1 p2 p3)) := by
  refine MC.of (fi) (f7_valueOfChoice VA M p1 p2 p3) rfl (by decide) (Nat.le_of_ble_eq_true rfl) (fun p e s m args below meth c cx hr => ?_)
  unfold f7_valueOfChoice
  refine mw_sub (lv' := [(0, .ref (ad 7 0 0)), (1, .ref (ad 10 0 p1)), (2, .int p2), (3, .int p3)]) [0, 1, 2, 3] rfl ?_
  refine mw_aload_n cx (q := 1) 0 rfl rfl dX7_valueOfChoice_0 rfl ?_
  refine mw_iload_n cx (q := 2) 2 rfl rfl dX7_valueOfChoice_1 rfl ?_
  refine mw_iconst cx (q := 3) (v := 1) dX7_valueOfChoice_2 rfl rfl ?_
  refine mw_iload_n cx (q := 4) 3 rfl rfl dX7_valueOfChoice_3 rfl ?_
  refine mw_bnd (fun r1 er1 => ?_)
  refine mw_callV cx (q := 7) (d := d + 1) (As := [.int p2, .int 1, .int p3]) (z := fi r1) (st := []) (st1 := [.int r1.1]) (M' := r1.2) (by rw [er1]; exact mc_X7_valueOfPart l D ta ad d VA P hVA hOk M p2 1 p3 hok hP) cv_X7_185 rfl rfl rfl vi_7_0 ⟨by show _ ≤ d + 2; omega, by show _ ≤ 40 * (d + 2); omega⟩ ⟨Nat.le_refl _, Nat.le_refl _⟩ (by simp [Value.category]) rfl rfl rfl dX7_valueOfChoice_4 rfl ?_
  have ok2 : Ok7 r1.2 := (by rw [er1]; exact ok7_f7_valueOfPart VA hOk hok p2 1 p3)
  refine mw_istore cx (q := 9) (lv' := [(4, .int r1.1), (0, .ref (ad 7 0 0)), (1, .ref (ad 10 0 p1)), (2, .int p2), (3, .int p3)]) rfl (by decide) dX7_valueOfChoice_7 rfl ?_
  refine mw_aload_n cx (q := 10) 2 rfl rfl dX7_valueOfChoice_9 rfl ?_
  refine mw_gets cx (q := 13) (v := .ref (ad 10 0 12)) (cx_st cx).1.2.2.1 fk_X7_260 dX7_valueOfChoice_10 rfl ?_
  refine mw_acmp_ne cx (tgt := 33) (q := 16) hp1 (vin_lit (by decide)) dX7_valueOfChoice_13 (by decide) rfl (fun h3 => ?_) (fun h3 => ?_)
  · refine mw_aload_n cx (q := 34) 2 rfl rfl dX7_valueOfChoice_33 rfl ?_
    refine mw_gets cx (q := 37) (v := .ref (ad 10 0 10)) (cx_st cx).1.2.2.2.1 fk_X7_264 dX7_valueOfChoice_34 rfl ?_
    refine mw_acmp_ne cx (tgt := 53) (q := 40) hp1 (vin_lit (by decide)) dX7_valueOfChoice_37 (by decide) rfl (fun h4 => ?_) (fun h4 => ?_)
    · refine mw_iload cx (q := 55) 0 rfl dX7_valueOfChoice_53 rfl ?_
      refine mw_jn (Mj := fun (v5 : Bool) => r1.2) (pj := 63) (lj := fun (v5 : Bool) => [(0, .ref (ad 7 0 0)), (2, .int p2), (3, .int p3), (4, .int r1.1)]) (sj := fun (v5 : Bool) => [.int (b2i v5)]) (fun v5 => ?_) (fun K6 hK6 => ?_)
      · refine mw_istore cx (q := 65) (lv' := [(5, .int (b2i v5)), (0, .ref (ad 7 0 0)), (2, .int p2), (3, .int p3), (4, .int r1.1)]) rfl (by decide) dX7_valueOfChoice_63 rfl ?_
        refine mw_iload cx (q := 67) 0 rfl dX7_valueOfChoice_65 rfl ?_
        refine mw_ifb_eq cx (tgt := 75) (q := 70) dX7_valueOfChoice_67 (by decide) rfl (fun h8 => ?_) (fun h8 => ?_)
        · refine mw_aload_n cx (q := 76) 1 rfl rfl dX7_valueOfChoice_75 rfl ?_
          refine mw_iload_n cx (q := 77) 2 rfl rfl dX7_valueOfChoice_76 rfl ?_
          refine mw_iconst cx (q := 78) (v := 2) dX7_valueOfChoice_77 rfl rfl ?_
          refine mw_iload_n cx (q := 79) 3 rfl rfl dX7_valueOfChoice_78 rfl ?_
          refine mw_bnd (fun r9 er9 => ?_)
          refine mw_callV cx (q := 82) (d := d + 1) (As := [.int p2, .int 2, .int p3]) (z := fi r9) (st := []) (st1 := [.int r9.1]) (M' := r9.2) (by rw [er9]; exact mc_X7_valueOfPart l D ta ad d VA P hVA hOk r1.2 p2 2 p3 ok2 hP) cv_X7_185 rfl rfl rfl vi_7_0 ⟨by show _ ≤ d + 2; omega, by show _ ≤ 40 * (d + 2); omega⟩ ⟨Nat.le_refl _, Nat.le_refl _⟩ (by simp [Value.category]) rfl rfl rfl dX7_valueOfChoice_79 rfl ?_
          have ok10 : Ok7 r9.2 := (by rw [er9]; exact ok7_f7_valueOfPart VA hOk ok2 p2 2 p3)
          exact mw_iret cx hr rfl dX7_valueOfChoice_82
        · refine mw_iload cx (q := 72) 4 rfl dX7_valueOfChoice_70 rfl ?_
          refine mw_goto cx (tgt := 82) dX7_valueOfChoice_72 (by decide) ?_
          exact mw_iret cx hr rfl dX7_valueOfChoice_82
      · refine mw_if_eq cx (tgt := 62) (q := 58) dX7_valueOfChoice_55 (by decide) rfl (fun h7 => ?_) (fun h7 => ?_)
        · refine mw_iconst cx (q := 63) (v := 0) dX7_valueOfChoice_62 rfl rfl ?_
          refine mw_sub [1, 3, 4, 0] rfl ?_
          exact hK6 false
        · refine mw_iconst cx (q := 59) (v := 1) dX7_valueOfChoice_58 rfl rfl ?_
          refine mw_goto cx (tgt := 63) dX7_valueOfChoice_59 (by decide) ?_
          refine mw_sub [1, 3, 4, 0] rfl ?_
          exact hK6 true
    · refine mw_iload cx (q := 42) 0 rfl dX7_valueOfChoice_40 rfl ?_
      refine mw_jn (Mj := fun (v11 : Bool) => r1.2) (pj := 63) (lj := fun (v11 : Bool) => [(0, .ref (ad 7 0 0)), (2, .int p2), (3, .int p3), (4, .int r1.1)]) (sj := fun (v11 : Bool) => [.int (b2i v11)]) (fun v11 => ?_) (fun K12 hK12 => ?_)
      · refine mw_istore cx (q := 65) (lv' := [(5, .int (b2i v11)), (0, .ref (ad 7 0 0)), (2, .int p2), (3, .int p3), (4, .int r1.1)]) rfl (by decide) dX7_valueOfChoice_63 rfl ?_
        refine mw_iload cx (q := 67) 0 rfl dX7_valueOfChoice_65 rfl ?_
        refine mw_ifb_eq cx (tgt := 75) (q := 70) dX7_valueOfChoice_67 (by decide) rfl (fun h14 => ?_) (fun h14 => ?_)
        · refine mw_aload_n cx (q := 76) 1 rfl rfl dX7_valueOfChoice_75 rfl ?_
          refine mw_iload_n cx (q := 77) 2 rfl rfl dX7_valueOfChoice_76 rfl ?_
          refine mw_iconst cx (q := 78) (v := 2) dX7_valueOfChoice_77 rfl rfl ?_
          refine mw_iload_n cx (q := 79) 3 rfl rfl dX7_valueOfChoice_78 rfl ?_
          refine mw_bnd (fun r15 er15 => ?_)
          refine mw_callV cx (q := 82) (d := d + 1) (As := [.int p2, .int 2, .int p3]) (z := fi r15) (st := []) (st1 := [.int r15.1]) (M' := r15.2) (by rw [er15]; exact mc_X7_valueOfPart l D ta ad d VA P hVA hOk r1.2 p2 2 p3 ok2 hP) cv_X7_185 rfl rfl rfl vi_7_0 ⟨by show _ ≤ d + 2; omega, by show _ ≤ 40 * (d + 2); omega⟩ ⟨Nat.le_refl _, Nat.le_refl _⟩ (by simp [Value.category]) rfl rfl rfl dX7_valueOfChoice_79 rfl ?_
          have ok16 : Ok7 r15.2 := (by rw [er15]; exact ok7_f7_valueOfPart VA hOk ok2 p2 2 p3)
          exact mw_iret cx hr rfl dX7_valueOfChoice_82
        · refine mw_iload cx (q := 72) 4 rfl dX7_valueOfChoice_70 rfl ?_
          refine mw_goto cx (tgt := 82) dX7_valueOfChoice_72 (by decide) ?_
          exact mw_iret cx hr rfl dX7_valueOfChoice_82
      · refine mw_if_ne cx (tgt := 49) (q := 45) dX7_valueOfChoice_42 (by decide) rfl (fun h13 => ?_) (fun h13 => ?_)
        · refine mw_iconst cx (q := 50) (v := 0) dX7_valueOfChoice_49 rfl rfl ?_
          refine mw_goto cx (tgt := 63) dX7_valueOfChoice_50 (by decide) ?_
          refine mw_sub [1, 3, 4, 0] rfl ?_
          exact hK12 false
        · refine mw_iconst cx (q := 46) (v := 1) dX7_valueOfChoice_45 rfl rfl ?_
          refine mw_goto cx (tgt := 63) dX7_valueOfChoice_46 (by decide) ?_
          refine mw_sub [1, 3, 4, 0] rfl ?_
          exact hK12 true
  · refine mw_aload_n cx (q := 17) 1 rfl rfl dX7_valueOfChoice_16 rfl ?_
    refine mw_iload_n cx (q := 18) 3 rfl rfl dX7_valueOfChoice_17 rfl ?_
    refine mw_iload cx (q := 20) 0 rfl dX7_valueOfChoice_18 rfl ?_
    refine mw_jn (Mj := fun (v17 : Int32) => r1.2) (pj := 28) (lj := fun (v17 : Int32) => [(3, .int p3)]) (sj := fun (v17 : Int32) => [.int v17, .int p2, .ref (ad 7 0 0)]) (fun v17 => ?_) (fun K18 hK18 => ?_)
    · refine mw_iload_n cx (q := 29) 0 rfl rfl dX7_valueOfChoice_28 rfl ?_
      refine mw_bnd (fun r20 er20 => ?_)
      refine mw_callV cx (q := 32) (d := d + 1) (As := [.int p2, .int v17, .int p3]) (z := fi r20) (st := []) (st1 := [.int r20.1]) (M' := r20.2) (by rw [er20]; exact mc_X7_valueOfPart l D ta ad d VA P hVA hOk r1.2 p2 v17 p3 ok2 hP) cv_X7_185 rfl rfl rfl vi_7_0 ⟨by show _ ≤ d + 2; omega, by show _ ≤ 40 * (d + 2); omega⟩ ⟨Nat.le_refl _, Nat.le_refl _⟩ (by simp [Value.category]) rfl rfl rfl dX7_valueOfChoice_29 rfl ?_
      have ok21 : Ok7 r20.2 := (by rw [er20]; exact ok7_f7_valueOfPart VA hOk ok2 p2 v17 p3)
      exact mw_iret cx hr rfl dX7_valueOfChoice_32
    · refine mw_if_eq cx (tgt := 27) (q := 23) dX7_valueOfChoice_20 (by decide) rfl (fun h19 => ?_) (fun h19 => ?_)
      · refine mw_iconst cx (q := 28) (v := 3) dX7_valueOfChoice_27 rfl rfl ?_
        refine mw_sub [4] rfl ?_
        exact hK18 3
      · refine mw_iconst cx (q := 24) (v := 2) dX7_valueOfChoice_23 rfl rfl ?_
        refine mw_goto cx (tgt := 28) dX7_valueOfChoice_24 (by decide) ?_
        refine mw_sub [4] rfl ?_
        exact hK18 2
theorem ok7_f7_valueOfChoice (VA : Wm → Int32 → Int32 → Int32 × Wm) (hOk : HOk VA) {M : Wm} (h : Ok7 M) (p1 p2 p3 : Int32) : Ok7 (f7_valueOfChoice VA M p1 p2 p3).2 := by
  unfold f7_valueOfChoice; simp only [bnd, jn]
  repeat' split
  all_goals first | with_reducible exact ok7_f7_valueOfPart VA hOk (ok7_f7_valueOfPart VA hOk h _ _ _) _ _ _ | with_reducible exact ok7_f7_valueOfPart VA hOk h _ _ _
def f7_valueOfWhile_lp2 (VA : Wm → Int32 → Int32 → Int32 × Wm) (p1 : Int32) (p2 : Int32) : Nat → (Int32 × Wm) → (Int32 × Wm)
  | 0, x1 => (0, x1.2)
  | n2 + 1, x1 => if 1000000 ≤ x1.1 then (x1.1, x1.2) else bnd (f7_valueOfPart VA x1.2 p1 1 p2) (fun (r4 : Int32 × Wm) => if r4.1 = 0 then (x1.1, r4.2) else bnd (f7_valueOfRow VA r4.2 p1 2 p2) (fun (r7 : Int32 × Wm) => bnd (x1.1 + 1) (fun (v9 : Int32) => f7_valueOfWhile_lp2 VA p1 p2 n2 (v9, r7.2))))
theorem f7_valueOfWhile_lp2_s (VA : Wm → Int32 → Int32 → Int32 × Wm) (p1 : Int32) (p2 : Int32) (n2 : Nat) (x1 : Int32 × Wm) : f7_valueOfWhile_lp2 VA p1 p2 (n2 + 1) x1 = if 1000000 ≤ x1.1 then (x1.1, x1.2) else bnd (f7_valueOfPart VA x1.2 p1 1 p2) (fun (r4 : Int32 × Wm) => if r4.1 = 0 then (x1.1, r4.2) else bnd (f7_valueOfRow VA r4.2 p1 2 p2) (fun (r7 : Int32 × Wm) => bnd (x1.1 + 1) (fun (v9 : Int32) => f7_valueOfWhile_lp2 VA p1 p2 n2 (v9, r7.2)))) := rfl
def f7_valueOfWhile (VA : Wm → Int32 → Int32 → Int32 × Wm) (M : Wm) (p1 : Int32) (p2 : Int32) : (Int32 × Wm) := f7_valueOfWhile_lp2 VA p1 p2 (1000001 + 0 * (p1).toInt.toNat) (0, M)
set_option maxHeartbeats 4000000 in
set_option maxRecDepth 100000 in
theorem mc_X7_valueOfWhile (l : Launch) (D : va_G) (ta : wTa) (ad : wAd) (d : Nat) (VA : Wm → Int32 → Int32 → Int32 × Wm) (P : Int32 → Prop) (hVA : HVA l D ta ad d VA P) (hOk : HOk VA) (M : Wm) (p1 : Int32) (p2 : Int32) (hok : Ok7 M) (hP : P (p2 + 1)) : MC l D ta ad yX7_valueOfWhile cX7_valueOfWhile 4 (some .int) (d + 2) [.ref (ad 7 0 0), .int p1, .int p2] M (fi (f7_valueOfWhile VA M p1 p2)) := by
  refine MC.of (fi) (f7_valueOfWhile VA M p1 p2) rfl (by decide) (Nat.le_of_ble_eq_true rfl) (fun p e s m args below meth c cx hr => ?_)
  unfold f7_valueOfWhile
  refine mw_sub (lv' := [(0, .ref (ad 7 0 0)), (1, .int p1), (2, .int p2)]) [0, 1, 2] rfl ?_
  refine mw_iconst cx (q := 1) (v := 0) dX7_valueOfWhile_0 rfl rfl ?_
  refine mw_istore_n cx (q := 2) (lv' := [(3, .int 0), (0, .ref (ad 7 0 0)), (1, .int p1), (2, .int p2)]) rfl rfl (by decide) dX7_valueOfWhile_1 rfl ?_
  refine mw_loop (F := f7_valueOfWhile_lp2 VA p1 p2) (I := fun (x1 : Int32 × Wm) => (0 ≤ (x1.1).toInt) ∧ (Ok7 x1.2)) (μ := fun (x1 : Int32 × Wm) => (1000000 - (x1.1).toInt).toNat) (Mx := fun (x1 : Int32 × Wm) => x1.2) (px := 2) (lx := fun (x1 : Int32 × Wm) => [(3, .int x1.1), (0, .ref (ad 7 0 0)), (1, .int p1), (2, .int p2)]) (fun n2 x1 ivx1 ih => ?_) (1000001 + 0 * (p1).toInt.toNat) (0, M) ⟨(by simp only [vp_in_iff, i32lt, i32le, i32eq, i32add, i32sub, i32mul, i32neg, t32_0]; omega), hok⟩ (by simp only [vp_in_iff, i32lt, i32le, i32eq, i32add, i32sub, i32mul, i32neg, t32_0, t32_1000000]; omega)
  obtain ⟨ivx1_0, ivx1_1⟩ := ivx1
  refine mw_eqS (f7_valueOfWhile_lp2_s VA p1 p2 n2 x1) ?_
  refine mw_iload_n cx (q := 3) 0 rfl rfl dX7_valueOfWhile_2 rfl ?_
  refine mw_ldcw cx (q := 6) (v := 1000000) dX7_valueOfWhile_3 rfl ld_X7_267 ?_
  refine mw_icmp_ge cx (tgt := 33) (q := 9) dX7_valueOfWhile_6 (by decide) rfl (fun h3 => ?_) (fun h3 => ?_)
  · refine mw_iload_n cx (q := 34) 0 rfl rfl dX7_valueOfWhile_33 rfl ?_
    exact mw_iret cx hr rfl dX7_valueOfWhile_34
  · refine mw_aload_n cx (q := 10) 1 rfl rfl dX7_valueOfWhile_9 rfl ?_
    refine mw_iload_n cx (q := 11) 2 rfl rfl dX7_valueOfWhile_10 rfl ?_
    refine mw_iconst cx (q := 12) (v := 1) dX7_valueOfWhile_11 rfl rfl ?_
    refine mw_iload_n cx (q := 13) 3 rfl rfl dX7_valueOfWhile_12 rfl ?_
    refine mw_bnd (fun r4 er4 => ?_)
    refine mw_callV cx (q := 16) (d := d + 1) (As := [.int p1, .int 1, .int p2]) (z := fi r4) (st := []) (st1 := [.int r4.1]) (M' := r4.2) (by rw [er4]; exact mc_X7_valueOfPart l D ta ad d VA P hVA hOk x1.2 p1 1 p2 ivx1_1 hP) cv_X7_185 rfl rfl rfl vi_7_0 ⟨by show _ ≤ d + 2; omega, by show _ ≤ 40 * (d + 2); omega⟩ ⟨Nat.le_refl _, Nat.le_refl _⟩ (by simp [Value.category]) rfl rfl rfl dX7_valueOfWhile_13 rfl ?_
    have ok5 : Ok7 r4.2 := (by rw [er4]; exact ok7_f7_valueOfPart VA hOk ivx1_1 p1 1 p2)
    refine mw_if_eq cx (tgt := 33) (q := 19) dX7_valueOfWhile_16 (by decide) rfl (fun h6 => ?_) (fun h6 => ?_)
    · refine mw_iload_n cx (q := 34) 0 rfl rfl dX7_valueOfWhile_33 rfl ?_
      exact mw_iret cx hr rfl dX7_valueOfWhile_34
    · refine mw_aload_n cx (q := 20) 1 rfl rfl dX7_valueOfWhile_19 rfl ?_
      refine mw_iload_n cx (q := 21) 2 rfl rfl dX7_valueOfWhile_20 rfl ?_
      refine mw_iconst cx (q := 22) (v := 2) dX7_valueOfWhile_21 rfl rfl ?_
      refine mw_iload_n cx (q := 23) 3 rfl rfl dX7_valueOfWhile_22 rfl ?_
      refine mw_bnd (fun r7 er7 => ?_)
      refine mw_callV cx (q := 26) (d := d + 1) (As := [.int p1, .int 2, .int p2]) (z := fi r7) (st := []) (st1 := [.int r7.1]) (M' := r7.2) (by rw [er7]; exact mc_X7_valueOfRow l D ta ad d VA P hVA hOk r4.2 p1 2 p2 ok5 hP (by decide)) cv_X7_195 rfl rfl rfl vi_7_0 ⟨by show _ ≤ d + 2; omega, by show _ ≤ 40 * (d + 2); omega⟩ ⟨Nat.le_refl _, Nat.le_refl _⟩ (by simp [Value.category]) rfl rfl rfl dX7_valueOfWhile_23 rfl ?_
      have ok8 : Ok7 r7.2 := (by rw [er7]; exact ok7_f7_valueOfRow VA hOk ok5 p1 2 p2)
      refine mw_pop cx (q := 27) dX7_valueOfWhile_26 rfl rfl ?_
      refine mw_bnd (fun v9 ev9 => ?_)
      refine mw_iinc cx (q := 30) (v := v9) (lv' := [(3, .int v9), (0, .ref (ad 7 0 0)), (1, .int p1), (2, .int p2)]) 0 rfl (by rw [ev9]; rfl) rfl (by decide) dX7_valueOfWhile_27 rfl ?_
      refine mw_goto cx (tgt := 2) dX7_valueOfWhile_30 (by decide) ?_
      exact ih (v9, r7.2) ⟨(by have hz := h3; have hi := ivx1_0; simp only [i32le, t32_1000000] at hz; rw [ev9, i32addn (by rw [t32_1]; omega) (by rw [t32_1]; omega), t32_1]; omega), ok8⟩ (by have hz := h3; have hi := ivx1_0; simp only [i32le, t32_1000000] at hz; rw [ev9, i32addn (by rw [t32_1]; omega) (by rw [t32_1]; omega), t32_1]; omega)
theorem ok7_f7_valueOfWhile (VA : Wm → Int32 → Int32 → Int32 × Wm) (hOk : HOk VA) {M : Wm} (h : Ok7 M) (p1 p2 : Int32) : Ok7 (f7_valueOfWhile VA M p1 p2).2 := by
  have key : ∀ (k : Nat) (x : Int32 × Wm), Ok7 x.2 → Ok7 (f7_valueOfWhile_lp2 VA p1 p2 k x).2 := by
    intro k
    induction k with
    | zero => intro x hx; exact hx
    | succ k ih =>
      intro x hx
      unfold f7_valueOfWhile_lp2; simp only [bnd, jn]
      repeat' split
      all_goals first | with_reducible exact hx | with_reducible exact ok7_f7_valueOfPart VA hOk hx _ _ _ | with_reducible exact ih _ (ok7_f7_valueOfRow VA hOk (ok7_f7_valueOfPart VA hOk hx _ _ _) _ _ _)
  unfold f7_valueOfWhile
  exact key _ _ h
def f7_valueOfLet (VA : Wm → Int32 → Int32 → Int32 × Wm) (M : Wm) (p1 : Int32) (p2 : Int32) : (Int32 × Wm) := bnd (f7_valueOfPart VA M p1 2 p2) (fun (r1 : Int32 × Wm) => bnd (f9_partOf (r1.2 9) p1 1) (fun (r3 : Int32) => bnd (f9_contentOf (r1.2 9) r3) (fun (r4 : Int32) => bnd (f2_bind (r1.2 2) r4 r1.1) (fun (r5 : Cm) => bnd (uW r1.2 2 r5) (fun (M6 : Wm) => bnd (f7_valueOfRow VA M6 p1 3 p2) (fun (r8 : Int32 × Wm) => bnd (f2_unbindLatest (r8.2 2)) (fun (r10 : Cm) => bnd (uW r8.2 2 r10) (fun (M11 : Wm) => (r8.1, M11)))))))))
set_option maxHeartbeats 4000000 in
set_option maxRecDepth 100000 in
theorem mc_X7_valueOfLet (l : Launch) (D : va_G) (ta : wTa) (ad : wAd) (d : Nat) (VA : Wm → Int32 → Int32 → Int32 × Wm) (P : Int32 → Prop) (hVA : HVA l D ta ad d VA P) (hOk : HOk VA) (M : Wm) (p1 : Int32) (p2 : Int32) (hok : Ok7 M) (hP : P (p2 + 1)) : MC l D ta ad yX7_valueOfLet cX7_valueOfLet 5 (some .int) (d + 2) [.ref (ad 7 0 0), .int p1, .int p2] M (fi (f7_valueOfLet VA M p1 p2)) := by
  refine MC.of (fi) (f7_valueOfLet VA M p1 p2) rfl (by decide) (Nat.le_of_ble_eq_true rfl) (fun p e s m args below meth c cx hr => ?_)
  unfold f7_valueOfLet
  refine mw_sub (lv' := [(0, .ref (ad 7 0 0)), (1, .int p1), (2, .int p2)]) [0, 1, 2] rfl ?_
  refine mw_aload_n cx (q := 1) 0 rfl rfl dX7_valueOfLet_0 rfl ?_
  refine mw_iload_n cx (q := 2) 1 rfl rfl dX7_valueOfLet_1 rfl ?_
  refine mw_iconst cx (q := 3) (v := 2) dX7_valueOfLet_2 rfl rfl ?_
  refine mw_iload_n cx (q := 4) 2 rfl rfl dX7_valueOfLet_3 rfl ?_
  refine mw_bnd (fun r1 er1 => ?_)
  refine mw_callV cx (q := 7) (d := d + 1) (As := [.int p1, .int 2, .int p2]) (z := fi r1) (st := []) (st1 := [.int r1.1]) (M' := r1.2) (by rw [er1]; exact mc_X7_valueOfPart l D ta ad d VA P hVA hOk M p1 2 p2 hok hP) cv_X7_185 rfl rfl rfl vi_7_0 ⟨by show _ ≤ d + 2; omega, by show _ ≤ 40 * (d + 2); omega⟩ ⟨Nat.le_refl _, Nat.le_refl _⟩ (by simp [Value.category]) rfl rfl rfl dX7_valueOfLet_4 rfl ?_
  have ok2 : Ok7 r1.2 := (by rw [er1]; exact ok7_f7_valueOfPart VA hOk hok p1 2 p2)
  refine mw_istore_n cx (q := 8) (lv' := [(3, .int r1.1), (0, .ref (ad 7 0 0)), (1, .int p1), (2, .int p2)]) rfl rfl (by decide) dX7_valueOfLet_7 rfl ?_
  refine mw_aload_n cx (q := 9) 1 rfl rfl dX7_valueOfLet_8 rfl ?_
  refine mw_get cx (q := 12) (v := .ref (ad 2 0 0)) gf_X7_12 rfl rfl vi_7_0 dX7_valueOfLet_9 rfl ?_
  refine mw_aload_n cx (q := 13) 1 rfl rfl dX7_valueOfLet_12 rfl ?_
  refine mw_get cx (q := 16) (v := .ref (ad 9 0 0)) gf_X7_18 rfl rfl vi_7_0 dX7_valueOfLet_13 rfl ?_
  refine mw_aload_n cx (q := 17) 1 rfl rfl dX7_valueOfLet_16 rfl ?_
  refine mw_get cx (q := 20) (v := .ref (ad 9 0 0)) gf_X7_18 rfl rfl vi_7_0 dX7_valueOfLet_17 rfl ?_
  refine mw_iload_n cx (q := 21) 2 rfl rfl dX7_valueOfLet_20 rfl ?_
  refine mw_iconst cx (q := 22) (v := 1) dX7_valueOfLet_21 rfl rfl ?_
  refine mw_bnd (fun r3 er3 => ?_)
  refine mw_callV cx (q := 25) (d := 0) (As := [.int p1, .int 1]) (z := fip r1.2 r3) (st := [.ref (ad 9 0 0), .ref (ad 2 0 0)]) (st1 := [.int r3, .ref (ad 9 0 0), .ref (ad 2 0 0)]) (M' := r1.2) (by rw [er3]; exact mc_X9_partOf l D ta ad r1.2 p1 1) cv_X7_86 rfl rfl rfl vi_9_0 ⟨by show _ ≤ d + 2; omega, by show _ ≤ 40 * (d + 2); omega⟩ ⟨Nat.le_refl _, Nat.le_refl _⟩ (by simp [Value.category]) rfl rfl rfl dX7_valueOfLet_22 rfl ?_
  refine mw_bnd (fun r4 er4 => ?_)
  refine mw_callV cx (q := 28) (d := 0) (As := [.int r3]) (z := fip r1.2 r4) (st := [.ref (ad 2 0 0)]) (st1 := [.int r4, .ref (ad 2 0 0)]) (M' := r1.2) (by rw [er4]; exact mc_X9_contentOf l D ta ad r1.2 r3) cv_X7_142 rfl rfl rfl vi_9_0 ⟨by show _ ≤ d + 2; omega, by show _ ≤ 40 * (d + 2); omega⟩ ⟨Nat.le_refl _, Nat.le_refl _⟩ (by simp [Value.category]) rfl rfl rfl dX7_valueOfLet_25 rfl ?_
  refine mw_iload_n cx (q := 29) 0 rfl rfl dX7_valueOfLet_28 rfl ?_
  refine mw_bnd (fun r5 er5 => ?_)
  refine mw_callV cx (q := 32) (d := 0) (As := [.int r4, .int r1.1]) (z := fvc r1.2 2 r5) (st := []) (st1 := []) (M' := uW r1.2 2 r5) (by rw [er5]; exact mc_X2_bind l D ta ad r1.2 r4 r1.1 ok2.2.1) cv_X7_268 rfl rfl rfl vi_2_0 ⟨by show _ ≤ d + 2; omega, by show _ ≤ 40 * (d + 2); omega⟩ ⟨Nat.le_refl _, Nat.le_refl _⟩ (by simp [Value.category]) rfl rfl rfl dX7_valueOfLet_29 rfl ?_
  refine mw_bndM (fun M6 eM6 => ?_)
  have ok7 : Ok7 M6 := (by rw [eM6, er5]; exact ok7_f2_bind ok2 r4 r1.1)
  refine mw_aload_n cx (q := 33) 1 rfl rfl dX7_valueOfLet_32 rfl ?_
  refine mw_iload_n cx (q := 34) 2 rfl rfl dX7_valueOfLet_33 rfl ?_
  refine mw_iconst cx (q := 35) (v := 3) dX7_valueOfLet_34 rfl rfl ?_
  refine mw_iload_n cx (q := 36) 3 rfl rfl dX7_valueOfLet_35 rfl ?_
  refine mw_bnd (fun r8 er8 => ?_)
  refine mw_callV cx (q := 39) (d := d + 1) (As := [.int p1, .int 3, .int p2]) (z := fi r8) (st := []) (st1 := [.int r8.1]) (M' := r8.2) (by rw [er8]; exact mc_X7_valueOfRow l D ta ad d VA P hVA hOk M6 p1 3 p2 ok7 hP (by decide)) cv_X7_195 rfl rfl rfl vi_7_0 ⟨by show _ ≤ d + 2; omega, by show _ ≤ 40 * (d + 2); omega⟩ ⟨Nat.le_refl _, Nat.le_refl _⟩ (by simp [Value.category]) rfl rfl rfl dX7_valueOfLet_36 rfl ?_
  have ok9 : Ok7 r8.2 := (by rw [er8]; exact ok7_f7_valueOfRow VA hOk ok7 p1 3 p2)
  refine mw_istore cx (q := 41) (lv' := [(4, .int r8.1), (3, .int r1.1), (0, .ref (ad 7 0 0)), (1, .int p1), (2, .int p2)]) rfl (by decide) dX7_valueOfLet_39 rfl ?_
  refine mw_aload_n cx (q := 42) 2 rfl rfl dX7_valueOfLet_41 rfl ?_
  refine mw_get cx (q := 45) (v := .ref (ad 2 0 0)) gf_X7_12 rfl rfl vi_7_0 dX7_valueOfLet_42 rfl ?_
  refine mw_bnd (fun r10 er10 => ?_)
  refine mw_callV cx (q := 48) (d := 0) (As := []) (z := fvc r8.2 2 r10) (st := []) (st1 := []) (M' := uW r8.2 2 r10) (by rw [er10]; exact mc_X2_unbindLatest l D ta ad r8.2) cv_X7_272 rfl rfl rfl vi_2_0 ⟨by show _ ≤ d + 2; omega, by show _ ≤ 40 * (d + 2); omega⟩ ⟨Nat.le_refl _, Nat.le_refl _⟩ (by simp [Value.category]) rfl rfl rfl dX7_valueOfLet_45 rfl ?_
  refine mw_bndM (fun M11 eM11 => ?_)
  have ok12 : Ok7 M11 := (by rw [eM11, er10]; exact ok7_f2_unbindLatest ok9)
  refine mw_iload cx (q := 50) 0 rfl dX7_valueOfLet_48 rfl ?_
  exact mw_iret cx hr rfl dX7_valueOfLet_50
theorem ok7_f7_valueOfLet (VA : Wm → Int32 → Int32 → Int32 × Wm) (hOk : HOk VA) {M : Wm} (h : Ok7 M) (p1 p2 : Int32) : Ok7 (f7_valueOfLet VA M p1 p2).2 := by
  unfold f7_valueOfLet; simp only [bnd, jn]
  with_reducible exact ok7_f2_unbindLatest (ok7_f7_valueOfRow VA hOk (ok7_f2_bind (ok7_f7_valueOfPart VA hOk h _ _ _) _ _) _ _ _)
def f7_setBinding (VA : Wm → Int32 → Int32 → Int32 × Wm) (M : Wm) (p1 : Int32) (p2 : Int32) : (Int32 × Wm) := bnd (f7_valueOfPart VA M p1 2 p2) (fun (r1 : Int32 × Wm) => if (r1.2 7 0 0 10) = 0 then bnd (f9_partOf (r1.2 9) p1 1) (fun (r4 : Int32) => bnd (f9_contentOf (r1.2 9) r4) (fun (r5 : Int32) => bnd (f2_find (r1.2 2) r5) (fun (r6 : Int32) => if r6 = (-1) then bnd (f7_stop (r1.2 7) 3) (fun (r11 : Int32 × Cm) => bnd (uW r1.2 7 r11.2) (fun (M12 : Wm) => (r11.1, M12))) else bnd (f2_setAt (r1.2 2) r6 r1.1) (fun (r8 : Cm) => bnd (uW r1.2 2 r8) (fun (M9 : Wm) => (r1.1, M9)))))) else (0, r1.2))
set_option maxHeartbeats 4000000 in
set_option maxRecDepth 100000 in
theorem mc_X7_setBinding (l : Launch) (D : va_G) (ta : wTa) (ad : wAd) (d : Nat) (VA : Wm → Int32 → Int32 → Int32 × Wm) (P : Int32 → Prop) (hVA : HVA l D ta ad d VA P) (hOk : HOk VA) (M : Wm) (p1 : Int32) (p2 : Int32) (hok : Ok7 M) (hP : P (p2 + 1)) : MC l D ta ad yX7_setBinding cX7_setBinding 5 (some .int) (d + 2) [.ref (ad 7 0 0), .int p1, .int p2] M (fi (f7_setBinding VA M p1 p2)) := by
  refine MC.of (fi) (f7_setBinding VA M p1 p2) rfl (by decide) (Nat.le_of_ble_eq_true rfl) (fun p e s m args below meth c cx hr => ?_)
  unfold f7_setBinding
  refine mw_sub (lv' := [(0, .ref (ad 7 0 0)), (1, .int p1), (2, .int p2)]) [0, 1, 2] rfl ?_
  refine mw_aload_n cx (q := 1) 0 rfl rfl dX7_setBinding_0 rfl ?_
  refine mw_iload_n cx (q := 2) 1 rfl rfl dX7_setBinding_1 rfl ?_
  refine mw_iconst cx (q := 3) (v := 2) dX7_setBinding_2 rfl rfl ?_
  refine mw_iload_n cx (q := 4) 2 rfl rfl dX7_setBinding_3 rfl ?_
  refine mw_bnd (fun r1 er1 => ?_)
  refine mw_callV cx (q := 7) (d := d + 1) (As := [.int p1, .int 2, .int p2]) (z := fi r1) (st := []) (st1 := [.int r1.1]) (M' := r1.2) (by rw [er1]; exact mc_X7_valueOfPart l D ta ad d VA P hVA hOk M p1 2 p2 hok hP) cv_X7_185 rfl rfl rfl vi_7_0 ⟨by show _ ≤ d + 2; omega, by show _ ≤ 40 * (d + 2); omega⟩ ⟨Nat.le_refl _, Nat.le_refl _⟩ (by simp [Value.category]) rfl rfl rfl dX7_setBinding_4 rfl ?_
  have ok2 : Ok7 r1.2 := (by rw [er1]; exact ok7_f7_valueOfPart VA hOk hok p1 2 p2)
  refine mw_istore_n cx (q := 8) (lv' := [(3, .int r1.1), (0, .ref (ad 7 0 0)), (1, .int p1), (2, .int p2)]) rfl rfl (by decide) dX7_setBinding_7 rfl ?_
  refine mw_aload_n cx (q := 9) 1 rfl rfl dX7_setBinding_8 rfl ?_
  refine mw_get cx (q := 12) (v := .int (r1.2 7 0 0 10)) gf_X7_60 rfl rfl vi_7_0 dX7_setBinding_9 rfl ?_
  refine mw_if_eq cx (tgt := 17) (q := 15) dX7_setBinding_12 (by decide) rfl (fun h3 => ?_) (fun h3 => ?_)
  · refine mw_aload_n cx (q := 18) 1 rfl rfl dX7_setBinding_17 rfl ?_
    refine mw_get cx (q := 21) (v := .ref (ad 2 0 0)) gf_X7_12 rfl rfl vi_7_0 dX7_setBinding_18 rfl ?_
    refine mw_aload_n cx (q := 22) 1 rfl rfl dX7_setBinding_21 rfl ?_
    refine mw_get cx (q := 25) (v := .ref (ad 9 0 0)) gf_X7_18 rfl rfl vi_7_0 dX7_setBinding_22 rfl ?_
    refine mw_aload_n cx (q := 26) 1 rfl rfl dX7_setBinding_25 rfl ?_
    refine mw_get cx (q := 29) (v := .ref (ad 9 0 0)) gf_X7_18 rfl rfl vi_7_0 dX7_setBinding_26 rfl ?_
    refine mw_iload_n cx (q := 30) 2 rfl rfl dX7_setBinding_29 rfl ?_
    refine mw_iconst cx (q := 31) (v := 1) dX7_setBinding_30 rfl rfl ?_
    refine mw_bnd (fun r4 er4 => ?_)
    refine mw_callV cx (q := 34) (d := 0) (As := [.int p1, .int 1]) (z := fip r1.2 r4) (st := [.ref (ad 9 0 0), .ref (ad 2 0 0)]) (st1 := [.int r4, .ref (ad 9 0 0), .ref (ad 2 0 0)]) (M' := r1.2) (by rw [er4]; exact mc_X9_partOf l D ta ad r1.2 p1 1) cv_X7_86 rfl rfl rfl vi_9_0 ⟨by show _ ≤ d + 2; omega, by show _ ≤ 40 * (d + 2); omega⟩ ⟨Nat.le_refl _, Nat.le_refl _⟩ (by simp [Value.category]) rfl rfl rfl dX7_setBinding_31 rfl ?_
    refine mw_bnd (fun r5 er5 => ?_)
    refine mw_callV cx (q := 37) (d := 0) (As := [.int r4]) (z := fip r1.2 r5) (st := [.ref (ad 2 0 0)]) (st1 := [.int r5, .ref (ad 2 0 0)]) (M' := r1.2) (by rw [er5]; exact mc_X9_contentOf l D ta ad r1.2 r4) cv_X7_142 rfl rfl rfl vi_9_0 ⟨by show _ ≤ d + 2; omega, by show _ ≤ 40 * (d + 2); omega⟩ ⟨Nat.le_refl _, Nat.le_refl _⟩ (by simp [Value.category]) rfl rfl rfl dX7_setBinding_34 rfl ?_
    refine mw_bnd (fun r6 er6 => ?_)
    refine mw_callV cx (q := 40) (d := 0) (As := [.int r5]) (z := fip r1.2 r6) (st := []) (st1 := [.int r6]) (M' := r1.2) (by rw [er6]; exact mc_X2_find l D ta ad r1.2 r5 ok2.2.1 ok2.2.2.1) cv_X7_151 rfl rfl rfl vi_2_0 ⟨by show _ ≤ d + 2; omega, by show _ ≤ 40 * (d + 2); omega⟩ ⟨Nat.le_refl _, Nat.le_refl _⟩ (by simp [Value.category]) rfl rfl rfl dX7_setBinding_37 rfl ?_
    refine mw_istore cx (q := 42) (lv' := [(4, .int r6), (3, .int r1.1), (0, .ref (ad 7 0 0)), (1, .int p1), (2, .int p2)]) rfl (by decide) dX7_setBinding_40 rfl ?_
    refine mw_iload cx (q := 44) 0 rfl dX7_setBinding_42 rfl ?_
    refine mw_iconst cx (q := 45) (v := (-1)) dX7_setBinding_44 rfl rfl ?_
    refine mw_icmp_ne cx (tgt := 54) (q := 48) dX7_setBinding_45 (by decide) rfl (fun h7 => ?_) (fun h7 => ?_)
    · refine mw_aload_n cx (q := 55) 2 rfl rfl dX7_setBinding_54 rfl ?_
      refine mw_get cx (q := 58) (v := .ref (ad 2 0 0)) gf_X7_12 rfl rfl vi_7_0 dX7_setBinding_55 rfl ?_
      refine mw_iload cx (q := 60) 0 rfl dX7_setBinding_58 rfl ?_
      refine mw_iload_n cx (q := 61) 1 rfl rfl dX7_setBinding_60 rfl ?_
      refine mw_bnd (fun r8 er8 => ?_)
      refine mw_callV cx (q := 64) (d := 1) (As := [.int r6, .int r1.1]) (z := fvc r1.2 2 r8) (st := []) (st1 := []) (M' := uW r1.2 2 r8) (by rw [er8]; exact mc_X2_setAt l D ta ad r1.2 r6 r1.1 ok2.2.1 ok2.2.2.1) cv_X7_275 rfl rfl rfl vi_2_0 ⟨by show _ ≤ d + 2; omega, by show _ ≤ 40 * (d + 2); omega⟩ ⟨Nat.le_refl _, Nat.le_refl _⟩ (by simp [Value.category]) rfl rfl rfl dX7_setBinding_61 rfl ?_
      refine mw_bndM (fun M9 eM9 => ?_)
      have ok10 : Ok7 M9 := (by rw [eM9, er8]; exact ok7_f2_setAt ok2 r6 r1.1)
      refine mw_iload_n cx (q := 65) 1 rfl rfl dX7_setBinding_64 rfl ?_
      exact mw_iret cx hr rfl dX7_setBinding_65
    · refine mw_aload_n cx (q := 49) 2 rfl rfl dX7_setBinding_48 rfl ?_
      refine mw_iconst cx (q := 50) (v := 3) dX7_setBinding_49 rfl rfl ?_
      refine mw_bnd (fun r11 er11 => ?_)
      refine mw_callV cx (q := 53) (d := 0) (As := [.int 3]) (z := fic r1.2 7 r11) (st := []) (st1 := [.int r11.1]) (M' := uW r1.2 7 r11.2) (by rw [er11]; exact mc_X7_stop l D ta ad r1.2 3) cv_X7_136 rfl rfl rfl vi_7_0 ⟨by show _ ≤ d + 2; omega, by show _ ≤ 40 * (d + 2); omega⟩ ⟨Nat.le_refl _, Nat.le_refl _⟩ (by simp [Value.category]) rfl rfl rfl dX7_setBinding_50 rfl ?_
      refine mw_bndM (fun M12 eM12 => ?_)
      have ok13 : Ok7 M12 := (by rw [eM12, er11]; exact ok7_f7_stop ok2 3)
      exact mw_iret cx hr rfl dX7_setBinding_53
  · refine mw_iconst cx (q := 16) (v := 0) dX7_setBinding_15 rfl rfl ?_
    exact mw_iret cx hr rfl dX7_setBinding_16
theorem ok7_f7_setBinding (VA : Wm → Int32 → Int32 → Int32 × Wm) (hOk : HOk VA) {M : Wm} (h : Ok7 M) (p1 p2 : Int32) : Ok7 (f7_setBinding VA M p1 p2).2 := by
  unfold f7_setBinding; simp only [bnd, jn]
  have h1 := ok7_f7_valueOfPart VA hOk h p1 2 p2
  repeat' split
  all_goals first | with_reducible exact h1 | with_reducible exact ok7_f7_stop h1 _ | with_reducible exact ok7_f2_setAt h1 _ _
def f7_valueOfFunction (VA : Wm → Int32 → Int32 → Int32 × Wm) (M : Wm) (p1 : Int32) (p2 : Int32) (p3 : Int32) : (Int32 × Wm) := bnd (f2_definitionOf (M 2) p1) (fun (r1 : Int32) => if r1 = (-1) then bnd (f7_stop (M 7) 3) (fun (r39 : Int32 × Cm) => bnd (uW M 7 r39.2) (fun (M40 : Wm) => (r39.1, M40))) else bnd (f9_partOf (M 9) r1 2) (fun (r3 : Int32) => bnd (f9_partsOf (M 9) r3) (fun (r4 : Int32) => bnd (f9_partsOf (M 9) p2) (fun (r5 : Int32) => if (r5 - 1) = r4 then jn (fun (v7 : Int32 × Wm) => jn (fun (v12 : Int32 × Wm) => jn (fun (v17 : Int32 × Wm) => bnd (f2_enter (v17.2 2)) (fun (r22 : Int32 × Cm) => bnd (uW v17.2 2 r22.2) (fun (M23 : Wm) => bnd (f7_bindInner M23 r3 0 v7.1) (fun (r25 : Wm) => bnd (f7_bindInner r25 r3 1 v12.1) (fun (r27 : Wm) => bnd (f7_bindInner r27 r3 2 v17.1) (fun (r29 : Wm) => bnd (f7_valueOfPart VA r29 r1 3 p3) (fun (r31 : Int32 × Wm) => bnd (f2_leave (r31.2 2) r22.1) (fun (r33 : Cm) => bnd (uW r31.2 2 r33) (fun (M34 : Wm) => (r31.1, M34)))))))))) (fun K18 => if r4 ≤ 2 then K18 (0, v12.2) else bnd (f7_valueOfPart VA v12.2 p2 3 p3) (fun (r20 : Int32 × Wm) => K18 (r20.1, r20.2)))) (fun K13 => if r4 ≤ 1 then K13 (0, v7.2) else bnd (f7_valueOfPart VA v7.2 p2 2 p3) (fun (r15 : Int32 × Wm) => K13 (r15.1, r15.2)))) (fun K8 => if r4 ≤ 0 then K8 (0, M) else bnd (f7_valueOfPart VA M p2 1 p3) (fun (r10 : Int32 × Wm) => K8 (r10.1, r10.2))) else bnd (f7_stop (M 7) 4) (fun (r36 : Int32 × Cm) => bnd (uW M 7 r36.2) (fun (M37 : Wm) => (r36.1, M37)))))))
set_option maxHeartbeats 4000000 in
set_option maxRecDepth 100000 in
theorem mc_X7_valueOfFunction (l : Launch) (D : va_G) (ta : wTa) (ad : wAd) (d : Nat) (VA : Wm → Int32 → Int32 → Int32 × Wm) (P : Int32 → Prop) (hVA : HVA l D ta ad d VA P) (hOk : HOk VA) (M : Wm) (p1 : Int32) (p2 : Int32) (p3 : Int32) (hok : Ok7 M) (hP : P (p3 + 1)) : MC l D ta ad yX7_valueOfFunction cX7_valueOfFunction 12 (some .int) (d + 2) [.ref (ad 7 0 0), .int p1, .int p2, .int p3] M (fi (f7_valueOfFunction VA M p1 p2 p3)) := by
  refine MC.of (fi) (f7_valueOfFunction VA M p1 p2 p3) rfl (by decide) (Nat.le_of_ble_eq_true rfl) (fun p e s m args below meth c cx hr => ?_)
  unfold f7_valueOfFunction
  refine mw_sub (lv' := [(0, .ref (ad 7 0 0)), (1, .int p1), (2, .int p2), (3, .int p3)]) [0, 1, 2, 3] rfl ?_
  refine mw_aload_n cx (q := 1) 0 rfl rfl dX7_valueOfFunction_0 rfl ?_
  refine mw_get cx (q := 4) (v := .ref (ad 2 0 0)) gf_X7_12 rfl rfl vi_7_0 dX7_valueOfFunction_1 rfl ?_
  refine mw_iload_n cx (q := 5) 1 rfl rfl dX7_valueOfFunction_4 rfl ?_
  refine mw_bnd (fun r1 er1 => ?_)
  refine mw_callV cx (q := 8) (d := 0) (As := [.int p1]) (z := fip M r1) (st := []) (st1 := [.int r1]) (M' := M) (by rw [er1]; exact mc_X2_definitionOf l D ta ad M p1 hok.2.2.2.2.2.1 hok.2.2.2.2.2.2.1) cv_X7_285 rfl rfl rfl vi_2_0 ⟨by show _ ≤ d + 2; omega, by show _ ≤ 40 * (d + 2); omega⟩ ⟨Nat.le_refl _, Nat.le_refl _⟩ (by simp [Value.category]) rfl rfl rfl dX7_valueOfFunction_5 rfl ?_
  refine mw_istore cx (q := 10) (lv' := [(4, .int r1), (0, .ref (ad 7 0 0)), (1, .int p1), (2, .int p2), (3, .int p3)]) rfl (by decide) dX7_valueOfFunction_8 rfl ?_
  refine mw_iload cx (q := 12) 0 rfl dX7_valueOfFunction_10 rfl ?_
  refine mw_iconst cx (q := 13) (v := (-1)) dX7_valueOfFunction_12 rfl rfl ?_
  refine mw_icmp_ne cx (tgt := 22) (q := 16) dX7_valueOfFunction_13 (by decide) rfl (fun h2 => ?_) (fun h2 => ?_)
  · refine mw_aload_n cx (q := 23) 1 rfl rfl dX7_valueOfFunction_22 rfl ?_
    refine mw_get cx (q := 26) (v := .ref (ad 9 0 0)) gf_X7_18 rfl rfl vi_7_0 dX7_valueOfFunction_23 rfl ?_
    refine mw_iload cx (q := 28) 0 rfl dX7_valueOfFunction_26 rfl ?_
    refine mw_iconst cx (q := 29) (v := 2) dX7_valueOfFunction_28 rfl rfl ?_
    refine mw_bnd (fun r3 er3 => ?_)
    refine mw_callV cx (q := 32) (d := 0) (As := [.int r1, .int 2]) (z := fip M r3) (st := []) (st1 := [.int r3]) (M' := M) (by rw [er3]; exact mc_X9_partOf l D ta ad M r1 2) cv_X7_86 rfl rfl rfl vi_9_0 ⟨by show _ ≤ d + 2; omega, by show _ ≤ 40 * (d + 2); omega⟩ ⟨Nat.le_refl _, Nat.le_refl _⟩ (by simp [Value.category]) rfl rfl rfl dX7_valueOfFunction_29 rfl ?_
    refine mw_istore cx (q := 34) (lv' := [(5, .int r3), (4, .int r1), (0, .ref (ad 7 0 0)), (1, .int p1), (2, .int p2), (3, .int p3)]) rfl (by decide) dX7_valueOfFunction_32 rfl ?_
    refine mw_aload_n cx (q := 35) 2 rfl rfl dX7_valueOfFunction_34 rfl ?_
    refine mw_get cx (q := 38) (v := .ref (ad 9 0 0)) gf_X7_18 rfl rfl vi_7_0 dX7_valueOfFunction_35 rfl ?_
    refine mw_iload cx (q := 40) 0 rfl dX7_valueOfFunction_38 rfl ?_
    refine mw_bnd (fun r4 er4 => ?_)
    refine mw_callV cx (q := 43) (d := 0) (As := [.int r3]) (z := fip M r4) (st := []) (st1 := [.int r4]) (M' := M) (by rw [er4]; exact mc_X9_partsOf l D ta ad M r3) cv_X7_90 rfl rfl rfl vi_9_0 ⟨by show _ ≤ d + 2; omega, by show _ ≤ 40 * (d + 2); omega⟩ ⟨Nat.le_refl _, Nat.le_refl _⟩ (by simp [Value.category]) rfl rfl rfl dX7_valueOfFunction_40 rfl ?_
    refine mw_istore cx (q := 45) (lv' := [(6, .int r4), (5, .int r3), (4, .int r1), (0, .ref (ad 7 0 0)), (1, .int p1), (2, .int p2), (3, .int p3)]) rfl (by decide) dX7_valueOfFunction_43 rfl ?_
    refine mw_aload_n cx (q := 46) 3 rfl rfl dX7_valueOfFunction_45 rfl ?_
    refine mw_get cx (q := 49) (v := .ref (ad 9 0 0)) gf_X7_18 rfl rfl vi_7_0 dX7_valueOfFunction_46 rfl ?_
    refine mw_iload_n cx (q := 50) 5 rfl rfl dX7_valueOfFunction_49 rfl ?_
    refine mw_bnd (fun r5 er5 => ?_)
    refine mw_callV cx (q := 53) (d := 0) (As := [.int p2]) (z := fip M r5) (st := []) (st1 := [.int r5]) (M' := M) (by rw [er5]; exact mc_X9_partsOf l D ta ad M p2) cv_X7_90 rfl rfl rfl vi_9_0 ⟨by show _ ≤ d + 2; omega, by show _ ≤ 40 * (d + 2); omega⟩ ⟨Nat.le_refl _, Nat.le_refl _⟩ (by simp [Value.category]) rfl rfl rfl dX7_valueOfFunction_50 rfl ?_
    refine mw_iconst cx (q := 54) (v := 1) dX7_valueOfFunction_53 rfl rfl ?_
    refine mw_isub cx (q := 55) dX7_valueOfFunction_54 rfl ?_
    refine mw_iload cx (q := 57) 0 rfl dX7_valueOfFunction_55 rfl ?_
    refine mw_icmp_eq cx (tgt := 66) (q := 60) dX7_valueOfFunction_57 (by decide) rfl (fun h6 => ?_) (fun h6 => ?_)
    · refine mw_iload cx (q := 68) 0 rfl dX7_valueOfFunction_66 rfl ?_
      refine mw_jnP (P := fun (v7 : Int32 × Wm) => (Ok7 v7.2)) (Mj := fun (v7 : Int32 × Wm) => v7.2) (pj := 82) (lj := fun (v7 : Int32 × Wm) => [(0, .ref (ad 7 0 0)), (2, .int p2), (3, .int p3), (4, .int r1), (5, .int r3), (6, .int r4)]) (sj := fun (v7 : Int32 × Wm) => [.int v7.1]) (fun v7 jv7 => ?_) (fun K8 hK8 => ?_)
      · have jv7_0 := jv7
        refine mw_istore cx (q := 84) (lv' := [(7, .int v7.1), (0, .ref (ad 7 0 0)), (2, .int p2), (3, .int p3), (4, .int r1), (5, .int r3), (6, .int r4)]) rfl (by decide) dX7_valueOfFunction_82 rfl ?_
        refine mw_iload cx (q := 86) 6 rfl dX7_valueOfFunction_84 rfl ?_
        refine mw_iconst cx (q := 87) (v := 1) dX7_valueOfFunction_86 rfl rfl ?_
        refine mw_jnP (P := fun (v12 : Int32 × Wm) => (Ok7 v12.2)) (Mj := fun (v12 : Int32 × Wm) => v12.2) (pj := 101) (lj := fun (v12 : Int32 × Wm) => [(0, .ref (ad 7 0 0)), (2, .int p2), (3, .int p3), (4, .int r1), (5, .int r3), (6, .int r4), (7, .int v7.1)]) (sj := fun (v12 : Int32 × Wm) => [.int v12.1]) (fun v12 jv12 => ?_) (fun K13 hK13 => ?_)
        · have jv12_0 := jv12
          refine mw_istore cx (q := 103) (lv' := [(8, .int v12.1), (0, .ref (ad 7 0 0)), (2, .int p2), (3, .int p3), (4, .int r1), (5, .int r3), (6, .int r4), (7, .int v7.1)]) rfl (by decide) dX7_valueOfFunction_101 rfl ?_
          refine mw_iload cx (q := 105) 6 rfl dX7_valueOfFunction_103 rfl ?_
          refine mw_iconst cx (q := 106) (v := 2) dX7_valueOfFunction_105 rfl rfl ?_
          refine mw_jnP (P := fun (v17 : Int32 × Wm) => (Ok7 v17.2)) (Mj := fun (v17 : Int32 × Wm) => v17.2) (pj := 120) (lj := fun (v17 : Int32 × Wm) => [(0, .ref (ad 7 0 0)), (3, .int p3), (4, .int r1), (5, .int r3), (7, .int v7.1), (8, .int v12.1)]) (sj := fun (v17 : Int32 × Wm) => [.int v17.1]) (fun v17 jv17 => ?_) (fun K18 hK18 => ?_)
          · have jv17_0 := jv17
            refine mw_istore cx (q := 122) (lv' := [(9, .int v17.1), (0, .ref (ad 7 0 0)), (3, .int p3), (4, .int r1), (5, .int r3), (7, .int v7.1), (8, .int v12.1)]) rfl (by decide) dX7_valueOfFunction_120 rfl ?_
            refine mw_aload_n cx (q := 123) 1 rfl rfl dX7_valueOfFunction_122 rfl ?_
            refine mw_get cx (q := 126) (v := .ref (ad 2 0 0)) gf_X7_12 rfl rfl vi_7_0 dX7_valueOfFunction_123 rfl ?_
            refine mw_bnd (fun r22 er22 => ?_)
            refine mw_callV cx (q := 129) (d := 0) (As := []) (z := fic v17.2 2 r22) (st := []) (st1 := [.int r22.1]) (M' := uW v17.2 2 r22.2) (by rw [er22]; exact mc_X2_enter l D ta ad v17.2) cv_X7_288 rfl rfl rfl vi_2_0 ⟨by show _ ≤ d + 2; omega, by show _ ≤ 40 * (d + 2); omega⟩ ⟨Nat.le_refl _, Nat.le_refl _⟩ (by simp [Value.category]) rfl rfl rfl dX7_valueOfFunction_126 rfl ?_
            refine mw_bndM (fun M23 eM23 => ?_)
            have ok24 : Ok7 M23 := (by rw [eM23, er22]; exact ok7_f2_enter jv17_0)
            have hout : 0 ≤ (r22.1).toInt ∧ (r22.1).toInt ≤ 90 := (by rw [er22]; exact ⟨jv17_0.2.2.2.1, jv17_0.2.2.2.2.1⟩)
            refine mw_istore cx (q := 131) (lv' := [(10, .int r22.1), (9, .int v17.1), (0, .ref (ad 7 0 0)), (3, .int p3), (4, .int r1), (5, .int r3), (7, .int v7.1), (8, .int v12.1)]) rfl (by decide) dX7_valueOfFunction_129 rfl ?_
            refine mw_aload_n cx (q := 132) 2 rfl rfl dX7_valueOfFunction_131 rfl ?_
            refine mw_iload cx (q := 134) 5 rfl dX7_valueOfFunction_132 rfl ?_
            refine mw_iconst cx (q := 135) (v := 0) dX7_valueOfFunction_134 rfl rfl ?_
            refine mw_iload cx (q := 137) 6 rfl dX7_valueOfFunction_135 rfl ?_
            refine mw_bnd (fun r25 er25 => ?_)
            refine mw_callV cx (q := 140) (d := 1) (As := [.int r3, .int 0, .int v7.1]) (z := fv r25) (st := []) (st1 := []) (M' := r25) (by rw [er25]; exact mc_X7_bindInner l D ta ad M23 r3 0 v7.1 ok24) cv_X7_291 rfl rfl rfl vi_7_0 ⟨by show _ ≤ d + 2; omega, by show _ ≤ 40 * (d + 2); omega⟩ ⟨Nat.le_refl _, Nat.le_refl _⟩ (by simp [Value.category]) rfl rfl rfl dX7_valueOfFunction_137 rfl ?_
            have ok26 : Ok7 r25 := (by rw [er25]; exact ok7_f7_bindInner ok24 r3 0 v7.1)
            refine mw_aload_n cx (q := 141) 2 rfl rfl dX7_valueOfFunction_140 rfl ?_
            refine mw_iload cx (q := 143) 5 rfl dX7_valueOfFunction_141 rfl ?_
            refine mw_iconst cx (q := 144) (v := 1) dX7_valueOfFunction_143 rfl rfl ?_
            refine mw_iload cx (q := 146) 7 rfl dX7_valueOfFunction_144 rfl ?_
            refine mw_bnd (fun r27 er27 => ?_)
            refine mw_callV cx (q := 149) (d := 1) (As := [.int r3, .int 1, .int v12.1]) (z := fv r27) (st := []) (st1 := []) (M' := r27) (by rw [er27]; exact mc_X7_bindInner l D ta ad r25 r3 1 v12.1 ok26) cv_X7_291 rfl rfl rfl vi_7_0 ⟨by show _ ≤ d + 2; omega, by show _ ≤ 40 * (d + 2); omega⟩ ⟨Nat.le_refl _, Nat.le_refl _⟩ (by simp [Value.category]) rfl rfl rfl dX7_valueOfFunction_146 rfl ?_
            have ok28 : Ok7 r27 := (by rw [er27]; exact ok7_f7_bindInner ok26 r3 1 v12.1)
            refine mw_aload_n cx (q := 150) 2 rfl rfl dX7_valueOfFunction_149 rfl ?_
            refine mw_iload cx (q := 152) 5 rfl dX7_valueOfFunction_150 rfl ?_
            refine mw_iconst cx (q := 153) (v := 2) dX7_valueOfFunction_152 rfl rfl ?_
            refine mw_iload cx (q := 155) 1 rfl dX7_valueOfFunction_153 rfl ?_
            refine mw_bnd (fun r29 er29 => ?_)
            refine mw_callV cx (q := 158) (d := 1) (As := [.int r3, .int 2, .int v17.1]) (z := fv r29) (st := []) (st1 := []) (M' := r29) (by rw [er29]; exact mc_X7_bindInner l D ta ad r27 r3 2 v17.1 ok28) cv_X7_291 rfl rfl rfl vi_7_0 ⟨by show _ ≤ d + 2; omega, by show _ ≤ 40 * (d + 2); omega⟩ ⟨Nat.le_refl _, Nat.le_refl _⟩ (by simp [Value.category]) rfl rfl rfl dX7_valueOfFunction_155 rfl ?_
            have ok30 : Ok7 r29 := (by rw [er29]; exact ok7_f7_bindInner ok28 r3 2 v17.1)
            refine mw_aload_n cx (q := 159) 2 rfl rfl dX7_valueOfFunction_158 rfl ?_
            refine mw_iload cx (q := 161) 4 rfl dX7_valueOfFunction_159 rfl ?_
            refine mw_iconst cx (q := 162) (v := 3) dX7_valueOfFunction_161 rfl rfl ?_
            refine mw_iload_n cx (q := 163) 3 rfl rfl dX7_valueOfFunction_162 rfl ?_
            refine mw_bnd (fun r31 er31 => ?_)
            refine mw_callV cx (q := 166) (d := d + 1) (As := [.int r1, .int 3, .int p3]) (z := fi r31) (st := []) (st1 := [.int r31.1]) (M' := r31.2) (by rw [er31]; exact mc_X7_valueOfPart l D ta ad d VA P hVA hOk r29 r1 3 p3 ok30 hP) cv_X7_185 rfl rfl rfl vi_7_0 ⟨by show _ ≤ d + 2; omega, by show _ ≤ 40 * (d + 2); omega⟩ ⟨Nat.le_refl _, Nat.le_refl _⟩ (by simp [Value.category]) rfl rfl rfl dX7_valueOfFunction_163 rfl ?_
            have ok32 : Ok7 r31.2 := (by rw [er31]; exact ok7_f7_valueOfPart VA hOk ok30 r1 3 p3)
            refine mw_istore cx (q := 168) (lv' := [(11, .int r31.1), (10, .int r22.1), (9, .int v17.1), (0, .ref (ad 7 0 0)), (3, .int p3), (4, .int r1), (5, .int r3), (7, .int v7.1), (8, .int v12.1)]) rfl (by decide) dX7_valueOfFunction_166 rfl ?_
            refine mw_aload_n cx (q := 169) 3 rfl rfl dX7_valueOfFunction_168 rfl ?_
            refine mw_get cx (q := 172) (v := .ref (ad 2 0 0)) gf_X7_12 rfl rfl vi_7_0 dX7_valueOfFunction_169 rfl ?_
            refine mw_iload cx (q := 174) 1 rfl dX7_valueOfFunction_172 rfl ?_
            refine mw_bnd (fun r33 er33 => ?_)
            refine mw_callV cx (q := 177) (d := 0) (As := [.int r22.1]) (z := fvc r31.2 2 r33) (st := []) (st1 := []) (M' := uW r31.2 2 r33) (by rw [er33]; exact mc_X2_leave l D ta ad r31.2 r22.1) cv_X7_295 rfl rfl rfl vi_2_0 ⟨by show _ ≤ d + 2; omega, by show _ ≤ 40 * (d + 2); omega⟩ ⟨Nat.le_refl _, Nat.le_refl _⟩ (by simp [Value.category]) rfl rfl rfl dX7_valueOfFunction_174 rfl ?_
            refine mw_bndM (fun M34 eM34 => ?_)
            have ok35 : Ok7 M34 := (by rw [eM34, er33]; exact ok7_f2_leave ok32 r22.1 hout)
            refine mw_iload cx (q := 179) 0 rfl dX7_valueOfFunction_177 rfl ?_
            exact mw_iret cx hr rfl dX7_valueOfFunction_179
          · refine mw_icmp_le cx (tgt := 119) (q := 109) dX7_valueOfFunction_106 (by decide) rfl (fun h19 => ?_) (fun h19 => ?_)
            · refine mw_iconst cx (q := 120) (v := 0) dX7_valueOfFunction_119 rfl rfl ?_
              refine mw_sub [1, 3, 4, 5, 7, 0] rfl ?_
              exact hK18 (0, v12.2) jv12_0
            · refine mw_aload_n cx (q := 110) 1 rfl rfl dX7_valueOfFunction_109 rfl ?_
              refine mw_iload_n cx (q := 111) 2 rfl rfl dX7_valueOfFunction_110 rfl ?_
              refine mw_iconst cx (q := 112) (v := 3) dX7_valueOfFunction_111 rfl rfl ?_
              refine mw_iload_n cx (q := 113) 3 rfl rfl dX7_valueOfFunction_112 rfl ?_
              refine mw_bnd (fun r20 er20 => ?_)
              refine mw_callV cx (q := 116) (d := d + 1) (As := [.int p2, .int 3, .int p3]) (z := fi r20) (st := []) (st1 := [.int r20.1]) (M' := r20.2) (by rw [er20]; exact mc_X7_valueOfPart l D ta ad d VA P hVA hOk v12.2 p2 3 p3 jv12_0 hP) cv_X7_185 rfl rfl rfl vi_7_0 ⟨by show _ ≤ d + 2; omega, by show _ ≤ 40 * (d + 2); omega⟩ ⟨Nat.le_refl _, Nat.le_refl _⟩ (by simp [Value.category]) rfl rfl rfl dX7_valueOfFunction_113 rfl ?_
              have ok21 : Ok7 r20.2 := (by rw [er20]; exact ok7_f7_valueOfPart VA hOk jv12_0 p2 3 p3)
              refine mw_goto cx (tgt := 120) dX7_valueOfFunction_116 (by decide) ?_
              refine mw_sub [1, 3, 4, 5, 7, 0] rfl ?_
              exact hK18 (r20.1, r20.2) ok21
        · refine mw_icmp_le cx (tgt := 100) (q := 90) dX7_valueOfFunction_87 (by decide) rfl (fun h14 => ?_) (fun h14 => ?_)
          · refine mw_iconst cx (q := 101) (v := 0) dX7_valueOfFunction_100 rfl rfl ?_
            refine mw_sub [1, 2, 3, 4, 5, 6, 0] rfl ?_
            exact hK13 (0, v7.2) jv7_0
          · refine mw_aload_n cx (q := 91) 1 rfl rfl dX7_valueOfFunction_90 rfl ?_
            refine mw_iload_n cx (q := 92) 2 rfl rfl dX7_valueOfFunction_91 rfl ?_
            refine mw_iconst cx (q := 93) (v := 2) dX7_valueOfFunction_92 rfl rfl ?_
            refine mw_iload_n cx (q := 94) 3 rfl rfl dX7_valueOfFunction_93 rfl ?_
            refine mw_bnd (fun r15 er15 => ?_)
            refine mw_callV cx (q := 97) (d := d + 1) (As := [.int p2, .int 2, .int p3]) (z := fi r15) (st := []) (st1 := [.int r15.1]) (M' := r15.2) (by rw [er15]; exact mc_X7_valueOfPart l D ta ad d VA P hVA hOk v7.2 p2 2 p3 jv7_0 hP) cv_X7_185 rfl rfl rfl vi_7_0 ⟨by show _ ≤ d + 2; omega, by show _ ≤ 40 * (d + 2); omega⟩ ⟨Nat.le_refl _, Nat.le_refl _⟩ (by simp [Value.category]) rfl rfl rfl dX7_valueOfFunction_94 rfl ?_
            have ok16 : Ok7 r15.2 := (by rw [er15]; exact ok7_f7_valueOfPart VA hOk jv7_0 p2 2 p3)
            refine mw_goto cx (tgt := 101) dX7_valueOfFunction_97 (by decide) ?_
            refine mw_sub [1, 2, 3, 4, 5, 6, 0] rfl ?_
            exact hK13 (r15.1, r15.2) ok16
      · refine mw_if_le cx (tgt := 81) (q := 71) dX7_valueOfFunction_68 (by decide) rfl (fun h9 => ?_) (fun h9 => ?_)
        · refine mw_iconst cx (q := 82) (v := 0) dX7_valueOfFunction_81 rfl rfl ?_
          refine mw_sub [3, 5, 6, 2, 1, 0] rfl ?_
          exact hK8 (0, M) hok
        · refine mw_aload_n cx (q := 72) 3 rfl rfl dX7_valueOfFunction_71 rfl ?_
          refine mw_iload_n cx (q := 73) 5 rfl rfl dX7_valueOfFunction_72 rfl ?_
          refine mw_iconst cx (q := 74) (v := 1) dX7_valueOfFunction_73 rfl rfl ?_
          refine mw_iload_n cx (q := 75) 6 rfl rfl dX7_valueOfFunction_74 rfl ?_
          refine mw_bnd (fun r10 er10 => ?_)
          refine mw_callV cx (q := 78) (d := d + 1) (As := [.int p2, .int 1, .int p3]) (z := fi r10) (st := []) (st1 := [.int r10.1]) (M' := r10.2) (by rw [er10]; exact mc_X7_valueOfPart l D ta ad d VA P hVA hOk M p2 1 p3 hok hP) cv_X7_185 rfl rfl rfl vi_7_0 ⟨by show _ ≤ d + 2; omega, by show _ ≤ 40 * (d + 2); omega⟩ ⟨Nat.le_refl _, Nat.le_refl _⟩ (by simp [Value.category]) rfl rfl rfl dX7_valueOfFunction_75 rfl ?_
          have ok11 : Ok7 r10.2 := (by rw [er10]; exact ok7_f7_valueOfPart VA hOk hok p2 1 p3)
          refine mw_goto cx (tgt := 82) dX7_valueOfFunction_78 (by decide) ?_
          refine mw_sub [3, 5, 6, 2, 1, 0] rfl ?_
          exact hK8 (r10.1, r10.2) ok11
    · refine mw_aload_n cx (q := 61) 3 rfl rfl dX7_valueOfFunction_60 rfl ?_
      refine mw_iconst cx (q := 62) (v := 4) dX7_valueOfFunction_61 rfl rfl ?_
      refine mw_bnd (fun r36 er36 => ?_)
      refine mw_callV cx (q := 65) (d := 0) (As := [.int 4]) (z := fic M 7 r36) (st := []) (st1 := [.int r36.1]) (M' := uW M 7 r36.2) (by rw [er36]; exact mc_X7_stop l D ta ad M 4) cv_X7_136 rfl rfl rfl vi_7_0 ⟨by show _ ≤ d + 2; omega, by show _ ≤ 40 * (d + 2); omega⟩ ⟨Nat.le_refl _, Nat.le_refl _⟩ (by simp [Value.category]) rfl rfl rfl dX7_valueOfFunction_62 rfl ?_
      refine mw_bndM (fun M37 eM37 => ?_)
      have ok38 : Ok7 M37 := (by rw [eM37, er36]; exact ok7_f7_stop hok 4)
      exact mw_iret cx hr rfl dX7_valueOfFunction_65
  · refine mw_aload_n cx (q := 17) 1 rfl rfl dX7_valueOfFunction_16 rfl ?_
    refine mw_iconst cx (q := 18) (v := 3) dX7_valueOfFunction_17 rfl rfl ?_
    refine mw_bnd (fun r39 er39 => ?_)
    refine mw_callV cx (q := 21) (d := 0) (As := [.int 3]) (z := fic M 7 r39) (st := []) (st1 := [.int r39.1]) (M' := uW M 7 r39.2) (by rw [er39]; exact mc_X7_stop l D ta ad M 3) cv_X7_136 rfl rfl rfl vi_7_0 ⟨by show _ ≤ d + 2; omega, by show _ ≤ 40 * (d + 2); omega⟩ ⟨Nat.le_refl _, Nat.le_refl _⟩ (by simp [Value.category]) rfl rfl rfl dX7_valueOfFunction_18 rfl ?_
    refine mw_bndM (fun M40 eM40 => ?_)
    have ok41 : Ok7 M40 := (by rw [eM40, er39]; exact ok7_f7_stop hok 3)
    exact mw_iret cx hr rfl dX7_valueOfFunction_21
def f7_valueOfScript (VA : Wm → Int32 → Int32 → Int32 × Wm) (M : Wm) (p1 : Int32) (p2 : Int32) : (Int32 × Wm) := if (M 7 0 0 10) = 0 then bnd (f11_isIn p1 0 7) (fun (r2 : Bool) => if r2 = true then bnd (f8_faultOf (M 8) p1) (fun (r7 : Int32) => if r7 = (-1) then bnd (f2_enter (M 2)) (fun (r9 : Int32 × Cm) => bnd (uW M 2 r9.2) (fun (M10 : Wm) => bnd (f9_rowOf p1) (fun (r12 : Int32) => bnd (f7_valueOfRow VA M10 r12 0 p2) (fun (r13 : Int32 × Wm) => bnd (f2_leave (r13.2 2) r9.1) (fun (r15 : Cm) => bnd (uW r13.2 2 r15) (fun (M16 : Wm) => (r13.1, M16))))))) else bnd (f7_stop (M 7) 6) (fun (r18 : Int32 × Cm) => bnd (uW M 7 r18.2) (fun (M19 : Wm) => (r18.1, M19)))) else bnd (f7_stop (M 7) 6) (fun (r4 : Int32 × Cm) => bnd (uW M 7 r4.2) (fun (M5 : Wm) => (r4.1, M5)))) else (0, M)
set_option maxHeartbeats 4000000 in
set_option maxRecDepth 100000 in
theorem mc_X7_valueOfScript (l : Launch) (D : va_G) (ta : wTa) (ad : wAd) (d : Nat) (VA : Wm → Int32 → Int32 → Int32 × Wm) (P : Int32 → Prop) (hVA : HVA l D ta ad d VA P) (hOk : HOk VA) (M : Wm) (p1 : Int32) (p2 : Int32) (hok : Ok7 M) (hP : P (p2 + 1)) : MC l D ta ad yX7_valueOfScript cX7_valueOfScript 5 (some .int) (d + 2) [.ref (ad 7 0 0), .int p1, .int p2] M (fi (f7_valueOfScript VA M p1 p2)) := by
  refine MC.of (fi) (f7_valueOfScript VA M p1 p2) rfl (by decide) (Nat.le_of_ble_eq_true rfl) (fun p e s m args below meth c cx hr => ?_)
  unfold f7_valueOfScript
  refine mw_sub (lv' := [(0, .ref (ad 7 0 0)), (1, .int p1), (2, .int p2)]) [0, 1, 2] rfl ?_
  refine mw_aload_n cx (q := 1) 0 rfl rfl dX7_valueOfScript_0 rfl ?_
  refine mw_get cx (q := 4) (v := .int (M 7 0 0 10)) gf_X7_60 rfl rfl vi_7_0 dX7_valueOfScript_1 rfl ?_
  refine mw_if_eq cx (tgt := 9) (q := 7) dX7_valueOfScript_4 (by decide) rfl (fun h1 => ?_) (fun h1 => ?_)
  · refine mw_iload_n cx (q := 10) 1 rfl rfl dX7_valueOfScript_9 rfl ?_
    refine mw_iconst cx (q := 11) (v := 0) dX7_valueOfScript_10 rfl rfl ?_
    refine mw_bipush cx (q := 13) (v := 7) dX7_valueOfScript_11 rfl rfl ?_
    refine mw_bnd (fun r2 er2 => ?_)
    refine mw_callSN cx (q := 16) (d := 0) (As := [.int p1, .int 0, .int 7]) (z := fzp M r2) (st := []) (st1 := [.int (b2i r2)]) (M' := M) (by rw [er2]; exact mc_X11_isIn l D ta ad M p1 0 7) cv_X7_298 ⟨by show _ ≤ d + 2; omega, by show _ ≤ 40 * (d + 2); omega⟩ ⟨Nat.le_refl _, Nat.le_refl _⟩ (by simp [Value.category]) rfl rfl rfl dX7_valueOfScript_13 rfl ?_
    refine mw_ifb_eq cx (tgt := 31) (q := 19) dX7_valueOfScript_16 (by decide) rfl (fun h3 => ?_) (fun h3 => ?_)
    · refine mw_aload_n cx (q := 32) 0 rfl rfl dX7_valueOfScript_31 rfl ?_
      refine mw_bipush cx (q := 34) (v := 6) dX7_valueOfScript_32 rfl rfl ?_
      refine mw_bnd (fun r4 er4 => ?_)
      refine mw_callV cx (q := 37) (d := 0) (As := [.int 6]) (z := fic M 7 r4) (st := []) (st1 := [.int r4.1]) (M' := uW M 7 r4.2) (by rw [er4]; exact mc_X7_stop l D ta ad M 6) cv_X7_136 rfl rfl rfl vi_7_0 ⟨by show _ ≤ d + 2; omega, by show _ ≤ 40 * (d + 2); omega⟩ ⟨Nat.le_refl _, Nat.le_refl _⟩ (by simp [Value.category]) rfl rfl rfl dX7_valueOfScript_34 rfl ?_
      refine mw_bndM (fun M5 eM5 => ?_)
      have ok6 : Ok7 M5 := (by rw [eM5, er4]; exact ok7_f7_stop hok 6)
      exact mw_iret cx hr rfl dX7_valueOfScript_37
    · refine mw_aload_n cx (q := 20) 0 rfl rfl dX7_valueOfScript_19 rfl ?_
      refine mw_get cx (q := 23) (v := .ref (ad 8 0 0)) gf_X7_22 rfl rfl vi_7_0 dX7_valueOfScript_20 rfl ?_
      refine mw_iload_n cx (q := 24) 1 rfl rfl dX7_valueOfScript_23 rfl ?_
      refine mw_bnd (fun r7 er7 => ?_)
      refine mw_callV cx (q := 27) (d := 0) (As := [.int p1]) (z := fip M r7) (st := []) (st1 := [.int r7]) (M' := M) (by rw [er7]; exact mc_X8_faultOf l D ta ad M p1 (isIn_in (er2.symm.trans h3) (by decide))) cv_X7_74 rfl rfl rfl vi_8_0 ⟨by show _ ≤ d + 2; omega, by show _ ≤ 40 * (d + 2); omega⟩ ⟨Nat.le_refl _, Nat.le_refl _⟩ (by simp [Value.category]) rfl rfl rfl dX7_valueOfScript_24 rfl ?_
      refine mw_iconst cx (q := 28) (v := (-1)) dX7_valueOfScript_27 rfl rfl ?_
      refine mw_icmp_eq cx (tgt := 38) (q := 31) dX7_valueOfScript_28 (by decide) rfl (fun h8 => ?_) (fun h8 => ?_)
      · refine mw_aload_n cx (q := 39) 0 rfl rfl dX7_valueOfScript_38 rfl ?_
        refine mw_get cx (q := 42) (v := .ref (ad 2 0 0)) gf_X7_12 rfl rfl vi_7_0 dX7_valueOfScript_39 rfl ?_
        refine mw_bnd (fun r9 er9 => ?_)
        refine mw_callV cx (q := 45) (d := 0) (As := []) (z := fic M 2 r9) (st := []) (st1 := [.int r9.1]) (M' := uW M 2 r9.2) (by rw [er9]; exact mc_X2_enter l D ta ad M) cv_X7_288 rfl rfl rfl vi_2_0 ⟨by show _ ≤ d + 2; omega, by show _ ≤ 40 * (d + 2); omega⟩ ⟨Nat.le_refl _, Nat.le_refl _⟩ (by simp [Value.category]) rfl rfl rfl dX7_valueOfScript_42 rfl ?_
        refine mw_bndM (fun M10 eM10 => ?_)
        have ok11 : Ok7 M10 := (by rw [eM10, er9]; exact ok7_f2_enter hok)
        have hout : 0 ≤ (r9.1).toInt ∧ (r9.1).toInt ≤ 90 := (by rw [er9]; exact ⟨hok.2.2.2.1, hok.2.2.2.2.1⟩)
        refine mw_istore_n cx (q := 46) (lv' := [(3, .int r9.1), (0, .ref (ad 7 0 0)), (1, .int p1), (2, .int p2)]) rfl rfl (by decide) dX7_valueOfScript_45 rfl ?_
        refine mw_aload_n cx (q := 47) 1 rfl rfl dX7_valueOfScript_46 rfl ?_
        refine mw_iload_n cx (q := 48) 2 rfl rfl dX7_valueOfScript_47 rfl ?_
        refine mw_bnd (fun r12 er12 => ?_)
        refine mw_callS cx (q := 51) (d := 1) (As := [.int p1]) (z := fip M10 r12) (st := [.ref (ad 7 0 0)]) (st1 := [.int r12, .ref (ad 7 0 0)]) (M' := M10) (by rw [er12]; exact mc_X9_rowOf l D ta ad M10 p1) cv_X7_78 ⟨by show _ ≤ d + 2; omega, by show _ ≤ 40 * (d + 2); omega⟩ ⟨Nat.le_refl _, Nat.le_refl _⟩ (by simp [Value.category]) rfl rfl rfl dX7_valueOfScript_48 rfl ?_
        refine mw_iconst cx (q := 52) (v := 0) dX7_valueOfScript_51 rfl rfl ?_
        refine mw_iload_n cx (q := 53) 3 rfl rfl dX7_valueOfScript_52 rfl ?_
        refine mw_bnd (fun r13 er13 => ?_)
        refine mw_callV cx (q := 56) (d := d + 1) (As := [.int r12, .int 0, .int p2]) (z := fi r13) (st := []) (st1 := [.int r13.1]) (M' := r13.2) (by rw [er13]; exact mc_X7_valueOfRow l D ta ad d VA P hVA hOk M10 r12 0 p2 ok11 hP (by decide)) cv_X7_195 rfl rfl rfl vi_7_0 ⟨by show _ ≤ d + 2; omega, by show _ ≤ 40 * (d + 2); omega⟩ ⟨Nat.le_refl _, Nat.le_refl _⟩ (by simp [Value.category]) rfl rfl rfl dX7_valueOfScript_53 rfl ?_
        have ok14 : Ok7 r13.2 := (by rw [er13]; exact ok7_f7_valueOfRow VA hOk ok11 r12 0 p2)
        refine mw_istore cx (q := 58) (lv' := [(4, .int r13.1), (3, .int r9.1), (0, .ref (ad 7 0 0)), (1, .int p1), (2, .int p2)]) rfl (by decide) dX7_valueOfScript_56 rfl ?_
        refine mw_aload_n cx (q := 59) 2 rfl rfl dX7_valueOfScript_58 rfl ?_
        refine mw_get cx (q := 62) (v := .ref (ad 2 0 0)) gf_X7_12 rfl rfl vi_7_0 dX7_valueOfScript_59 rfl ?_
        refine mw_iload_n cx (q := 63) 1 rfl rfl dX7_valueOfScript_62 rfl ?_
        refine mw_bnd (fun r15 er15 => ?_)
        refine mw_callV cx (q := 66) (d := 0) (As := [.int r9.1]) (z := fvc r13.2 2 r15) (st := []) (st1 := []) (M' := uW r13.2 2 r15) (by rw [er15]; exact mc_X2_leave l D ta ad r13.2 r9.1) cv_X7_295 rfl rfl rfl vi_2_0 ⟨by show _ ≤ d + 2; omega, by show _ ≤ 40 * (d + 2); omega⟩ ⟨Nat.le_refl _, Nat.le_refl _⟩ (by simp [Value.category]) rfl rfl rfl dX7_valueOfScript_63 rfl ?_
        refine mw_bndM (fun M16 eM16 => ?_)
        have ok17 : Ok7 M16 := (by rw [eM16, er15]; exact ok7_f2_leave ok14 r9.1 hout)
        refine mw_iload cx (q := 68) 0 rfl dX7_valueOfScript_66 rfl ?_
        exact mw_iret cx hr rfl dX7_valueOfScript_68
      · refine mw_aload_n cx (q := 32) 0 rfl rfl dX7_valueOfScript_31 rfl ?_
        refine mw_bipush cx (q := 34) (v := 6) dX7_valueOfScript_32 rfl rfl ?_
        refine mw_bnd (fun r18 er18 => ?_)
        refine mw_callV cx (q := 37) (d := 0) (As := [.int 6]) (z := fic M 7 r18) (st := []) (st1 := [.int r18.1]) (M' := uW M 7 r18.2) (by rw [er18]; exact mc_X7_stop l D ta ad M 6) cv_X7_136 rfl rfl rfl vi_7_0 ⟨by show _ ≤ d + 2; omega, by show _ ≤ 40 * (d + 2); omega⟩ ⟨Nat.le_refl _, Nat.le_refl _⟩ (by simp [Value.category]) rfl rfl rfl dX7_valueOfScript_34 rfl ?_
        refine mw_bndM (fun M19 eM19 => ?_)
        have ok20 : Ok7 M19 := (by rw [eM19, er18]; exact ok7_f7_stop hok 6)
        exact mw_iret cx hr rfl dX7_valueOfScript_37
  · refine mw_iconst cx (q := 8) (v := 0) dX7_valueOfScript_7 rfl rfl ?_
    exact mw_iret cx hr rfl dX7_valueOfScript_8
def f7_give (VA : Wm → Int32 → Int32 → Int32 × Wm) (M : Wm) (p1 : Int32) (p2 : Int32) : (Int32 × Wm) := bnd (f7_valueOfPart VA M p1 1 p2) (fun (r1 : Int32 × Wm) => bnd (f7_valueOfPart VA r1.2 p1 3 p2) (fun (r3 : Int32 × Wm) => if (r3.2 7 0 0 10) = 0 then bnd (f11_isIn r1.1 0 3) (fun (r9 : Bool) => if r9 = true then bnd (f9_partOf (r3.2 9) p1 2) (fun (r11 : Int32) => bnd (f7_carry r3.2 (r3.2 7 0 0 7) r1.1 r11 r3.1) (fun (r12 : Int32 × Wm) => (r12.1, r12.2))) else bnd (f7_stop (r3.2 7) 6) (fun (r14 : Int32 × Cm) => bnd (uW r3.2 7 r14.2) (fun (M15 : Wm) => (r14.1, M15)))) else bnd (f9_partOf (r3.2 9) p1 2) (fun (r6 : Int32) => bnd (f7_carry r3.2 (r3.2 7 0 0 7) r1.1 r6 r3.1) (fun (r7 : Int32 × Wm) => (r7.1, r7.2)))))
set_option maxHeartbeats 4000000 in
set_option maxRecDepth 100000 in
theorem mc_X7_give (l : Launch) (D : va_G) (ta : wTa) (ad : wAd) (d : Nat) (VA : Wm → Int32 → Int32 → Int32 × Wm) (P : Int32 → Prop) (hVA : HVA l D ta ad d VA P) (hOk : HOk VA) (M : Wm) (p1 : Int32) (p2 : Int32) (hok : Ok7 M) (hP : P (p2 + 1)) : MC l D ta ad yX7_give cX7_give 5 (some .int) (d + 2) [.ref (ad 7 0 0), .int p1, .int p2] M (fi (f7_give VA M p1 p2)) := by
  refine MC.of (fi) (f7_give VA M p1 p2) rfl (by decide) (Nat.le_of_ble_eq_true rfl) (fun p e s m args below meth c cx hr => ?_)
  unfold f7_give
  refine mw_sub (lv' := [(0, .ref (ad 7 0 0)), (1, .int p1), (2, .int p2)]) [0, 1, 2] rfl ?_
  refine mw_aload_n cx (q := 1) 0 rfl rfl dX7_give_0 rfl ?_
  refine mw_iload_n cx (q := 2) 1 rfl rfl dX7_give_1 rfl ?_
  refine mw_iconst cx (q := 3) (v := 1) dX7_give_2 rfl rfl ?_
  refine mw_iload_n cx (q := 4) 2 rfl rfl dX7_give_3 rfl ?_
  refine mw_bnd (fun r1 er1 => ?_)
  refine mw_callV cx (q := 7) (d := d + 1) (As := [.int p1, .int 1, .int p2]) (z := fi r1) (st := []) (st1 := [.int r1.1]) (M' := r1.2) (by rw [er1]; exact mc_X7_valueOfPart l D ta ad d VA P hVA hOk M p1 1 p2 hok hP) cv_X7_185 rfl rfl rfl vi_7_0 ⟨by show _ ≤ d + 2; omega, by show _ ≤ 40 * (d + 2); omega⟩ ⟨Nat.le_refl _, Nat.le_refl _⟩ (by simp [Value.category]) rfl rfl rfl dX7_give_4 rfl ?_
  have ok2 : Ok7 r1.2 := (by rw [er1]; exact ok7_f7_valueOfPart VA hOk hok p1 1 p2)
  refine mw_istore_n cx (q := 8) (lv' := [(3, .int r1.1), (0, .ref (ad 7 0 0)), (1, .int p1), (2, .int p2)]) rfl rfl (by decide) dX7_give_7 rfl ?_
  refine mw_aload_n cx (q := 9) 1 rfl rfl dX7_give_8 rfl ?_
  refine mw_iload_n cx (q := 10) 2 rfl rfl dX7_give_9 rfl ?_
  refine mw_iconst cx (q := 11) (v := 3) dX7_give_10 rfl rfl ?_
  refine mw_iload_n cx (q := 12) 3 rfl rfl dX7_give_11 rfl ?_
  refine mw_bnd (fun r3 er3 => ?_)
  refine mw_callV cx (q := 15) (d := d + 1) (As := [.int p1, .int 3, .int p2]) (z := fi r3) (st := []) (st1 := [.int r3.1]) (M' := r3.2) (by rw [er3]; exact mc_X7_valueOfPart l D ta ad d VA P hVA hOk r1.2 p1 3 p2 ok2 hP) cv_X7_185 rfl rfl rfl vi_7_0 ⟨by show _ ≤ d + 2; omega, by show _ ≤ 40 * (d + 2); omega⟩ ⟨Nat.le_refl _, Nat.le_refl _⟩ (by simp [Value.category]) rfl rfl rfl dX7_give_12 rfl ?_
  have ok4 : Ok7 r3.2 := (by rw [er3]; exact ok7_f7_valueOfPart VA hOk ok2 p1 3 p2)
  refine mw_istore cx (q := 17) (lv' := [(4, .int r3.1), (3, .int r1.1), (0, .ref (ad 7 0 0)), (1, .int p1), (2, .int p2)]) rfl (by decide) dX7_give_15 rfl ?_
  refine mw_aload_n cx (q := 18) 2 rfl rfl dX7_give_17 rfl ?_
  refine mw_get cx (q := 21) (v := .int (r3.2 7 0 0 10)) gf_X7_60 rfl rfl vi_7_0 dX7_give_18 rfl ?_
  refine mw_if_ne cx (tgt := 40) (q := 24) dX7_give_21 (by decide) rfl (fun h5 => ?_) (fun h5 => ?_)
  · refine mw_aload_n cx (q := 41) 2 rfl rfl dX7_give_40 rfl ?_
    refine mw_aload_n cx (q := 42) 2 rfl rfl dX7_give_41 rfl ?_
    refine mw_get cx (q := 45) (v := .int (r3.2 7 0 0 7)) gf_X7_53 rfl rfl vi_7_0 dX7_give_42 rfl ?_
    refine mw_iload_n cx (q := 46) 1 rfl rfl dX7_give_45 rfl ?_
    refine mw_aload_n cx (q := 47) 2 rfl rfl dX7_give_46 rfl ?_
    refine mw_get cx (q := 50) (v := .ref (ad 9 0 0)) gf_X7_18 rfl rfl vi_7_0 dX7_give_47 rfl ?_
    refine mw_iload_n cx (q := 51) 3 rfl rfl dX7_give_50 rfl ?_
    refine mw_iconst cx (q := 52) (v := 2) dX7_give_51 rfl rfl ?_
    refine mw_bnd (fun r6 er6 => ?_)
    refine mw_callV cx (q := 55) (d := 0) (As := [.int p1, .int 2]) (z := fip r3.2 r6) (st := [.int r1.1, .int (r3.2 7 0 0 7), .ref (ad 7 0 0)]) (st1 := [.int r6, .int r1.1, .int (r3.2 7 0 0 7), .ref (ad 7 0 0)]) (M' := r3.2) (by rw [er6]; exact mc_X9_partOf l D ta ad r3.2 p1 2) cv_X7_86 rfl rfl rfl vi_9_0 ⟨by show _ ≤ d + 2; omega, by show _ ≤ 40 * (d + 2); omega⟩ ⟨Nat.le_refl _, Nat.le_refl _⟩ (by simp [Value.category]) rfl rfl rfl dX7_give_52 rfl ?_
    refine mw_iload cx (q := 57) 0 rfl dX7_give_55 rfl ?_
    refine mw_bnd (fun r7 er7 => ?_)
    refine mw_callV cx (q := 60) (d := 1) (As := [.int (r3.2 7 0 0 7), .int r1.1, .int r6, .int r3.1]) (z := fi r7) (st := []) (st1 := [.int r7.1]) (M' := r7.2) (by rw [er7]; exact mc_X7_carry l D ta ad r3.2 (r3.2 7 0 0 7) r1.1 r6 r3.1 ok4 (own_in ok4.1) (by intro h9; first | (exact absurd h9 (by assumption)) | exact hin (by assumption))) cv_X7_207 rfl rfl rfl vi_7_0 ⟨by show _ ≤ d + 2; omega, by show _ ≤ 40 * (d + 2); omega⟩ ⟨Nat.le_refl _, Nat.le_refl _⟩ (by simp [Value.category]) rfl rfl rfl dX7_give_57 rfl ?_
    have ok8 : Ok7 r7.2 := (by rw [er7]; exact ok7_f7_carry ok4 (r3.2 7 0 0 7) r1.1 r6 r3.1 (own_in ok4.1) (by intro h9; first | (exact absurd h9 (by assumption)) | exact hin (by assumption)))
    exact mw_iret cx hr rfl dX7_give_60
  · refine mw_iload_n cx (q := 25) 1 rfl rfl dX7_give_24 rfl ?_
    refine mw_iconst cx (q := 26) (v := 0) dX7_give_25 rfl rfl ?_
    refine mw_iconst cx (q := 27) (v := 3) dX7_give_26 rfl rfl ?_
    refine mw_bnd (fun r9 er9 => ?_)
    refine mw_callSN cx (q := 30) (d := 0) (As := [.int r1.1, .int 0, .int 3]) (z := fzp r3.2 r9) (st := []) (st1 := [.int (b2i r9)]) (M' := r3.2) (by rw [er9]; exact mc_X11_isIn l D ta ad r3.2 r1.1 0 3) cv_X7_298 ⟨by show _ ≤ d + 2; omega, by show _ ≤ 40 * (d + 2); omega⟩ ⟨Nat.le_refl _, Nat.le_refl _⟩ (by simp [Value.category]) rfl rfl rfl dX7_give_27 rfl ?_
    have hin : r9 = true → vp_in (r1.1 + 1) 5 := (fun hq => own_in (isIn_in (er9.symm.trans hq) (by decide)))
    refine mw_ifb_ne cx (tgt := 40) (q := 33) dX7_give_30 (by decide) rfl (fun h10 => ?_) (fun h10 => ?_)
    · refine mw_aload_n cx (q := 41) 2 rfl rfl dX7_give_40 rfl ?_
      refine mw_aload_n cx (q := 42) 2 rfl rfl dX7_give_41 rfl ?_
      refine mw_get cx (q := 45) (v := .int (r3.2 7 0 0 7)) gf_X7_53 rfl rfl vi_7_0 dX7_give_42 rfl ?_
      refine mw_iload_n cx (q := 46) 1 rfl rfl dX7_give_45 rfl ?_
      refine mw_aload_n cx (q := 47) 2 rfl rfl dX7_give_46 rfl ?_
      refine mw_get cx (q := 50) (v := .ref (ad 9 0 0)) gf_X7_18 rfl rfl vi_7_0 dX7_give_47 rfl ?_
      refine mw_iload_n cx (q := 51) 3 rfl rfl dX7_give_50 rfl ?_
      refine mw_iconst cx (q := 52) (v := 2) dX7_give_51 rfl rfl ?_
      refine mw_bnd (fun r11 er11 => ?_)
      refine mw_callV cx (q := 55) (d := 0) (As := [.int p1, .int 2]) (z := fip r3.2 r11) (st := [.int r1.1, .int (r3.2 7 0 0 7), .ref (ad 7 0 0)]) (st1 := [.int r11, .int r1.1, .int (r3.2 7 0 0 7), .ref (ad 7 0 0)]) (M' := r3.2) (by rw [er11]; exact mc_X9_partOf l D ta ad r3.2 p1 2) cv_X7_86 rfl rfl rfl vi_9_0 ⟨by show _ ≤ d + 2; omega, by show _ ≤ 40 * (d + 2); omega⟩ ⟨Nat.le_refl _, Nat.le_refl _⟩ (by simp [Value.category]) rfl rfl rfl dX7_give_52 rfl ?_
      refine mw_iload cx (q := 57) 0 rfl dX7_give_55 rfl ?_
      refine mw_bnd (fun r12 er12 => ?_)
      refine mw_callV cx (q := 60) (d := 1) (As := [.int (r3.2 7 0 0 7), .int r1.1, .int r11, .int r3.1]) (z := fi r12) (st := []) (st1 := [.int r12.1]) (M' := r12.2) (by rw [er12]; exact mc_X7_carry l D ta ad r3.2 (r3.2 7 0 0 7) r1.1 r11 r3.1 ok4 (own_in ok4.1) (by intro h9; first | (exact absurd h9 (by assumption)) | exact hin (by assumption))) cv_X7_207 rfl rfl rfl vi_7_0 ⟨by show _ ≤ d + 2; omega, by show _ ≤ 40 * (d + 2); omega⟩ ⟨Nat.le_refl _, Nat.le_refl _⟩ (by simp [Value.category]) rfl rfl rfl dX7_give_57 rfl ?_
      have ok13 : Ok7 r12.2 := (by rw [er12]; exact ok7_f7_carry ok4 (r3.2 7 0 0 7) r1.1 r11 r3.1 (own_in ok4.1) (by intro h9; first | (exact absurd h9 (by assumption)) | exact hin (by assumption)))
      exact mw_iret cx hr rfl dX7_give_60
    · refine mw_aload_n cx (q := 34) 2 rfl rfl dX7_give_33 rfl ?_
      refine mw_bipush cx (q := 36) (v := 6) dX7_give_34 rfl rfl ?_
      refine mw_bnd (fun r14 er14 => ?_)
      refine mw_callV cx (q := 39) (d := 0) (As := [.int 6]) (z := fic r3.2 7 r14) (st := []) (st1 := [.int r14.1]) (M' := uW r3.2 7 r14.2) (by rw [er14]; exact mc_X7_stop l D ta ad r3.2 6) cv_X7_136 rfl rfl rfl vi_7_0 ⟨by show _ ≤ d + 2; omega, by show _ ≤ 40 * (d + 2); omega⟩ ⟨Nat.le_refl _, Nat.le_refl _⟩ (by simp [Value.category]) rfl rfl rfl dX7_give_36 rfl ?_
      refine mw_bndM (fun M15 eM15 => ?_)
      have ok16 : Ok7 M15 := (by rw [eM15, er14]; exact ok7_f7_stop ok4 6)
      exact mw_iret cx hr rfl dX7_give_39
def f7_orderAhead (VA : Wm → Int32 → Int32 → Int32 × Wm) (M : Wm) (p1 : Int32) (p2 : Int32) : (Int32 × Wm) := bnd (f7_valueOfPart VA M p1 1 p2) (fun (r1 : Int32 × Wm) => bnd (f7_valueOfPart VA r1.2 p1 2 p2) (fun (r3 : Int32 × Wm) => bnd (f7_valueOfPart VA r3.2 p1 3 p2) (fun (r5 : Int32 × Wm) => if (r5.2 7 0 0 10) = 0 then bnd (f11_isIn r1.1 1 100) (fun (r8 : Bool) => if r8 = true then bnd (f11_isIn r3.1 0 7) (fun (r13 : Bool) => if r13 = true then bnd (f11_isIn r5.1 1 1000) (fun (r18 : Bool) => if r18 = true then bnd (f4_add (r5.2 4) (r5.2 7 0 0 7) r3.1 r1.1 r5.1) (fun (r20 : Int32 × Cm) => bnd (uW r5.2 4 r20.2) (fun (M21 : Wm) => (r20.1, M21))) else bnd (f7_stop (r5.2 7) 6) (fun (r23 : Int32 × Cm) => bnd (uW r5.2 7 r23.2) (fun (M24 : Wm) => (r23.1, M24)))) else bnd (f7_stop (r5.2 7) 6) (fun (r15 : Int32 × Cm) => bnd (uW r5.2 7 r15.2) (fun (M16 : Wm) => (r15.1, M16)))) else bnd (f7_stop (r5.2 7) 6) (fun (r10 : Int32 × Cm) => bnd (uW r5.2 7 r10.2) (fun (M11 : Wm) => (r10.1, M11)))) else (0, r5.2))))
set_option maxHeartbeats 4000000 in
set_option maxRecDepth 100000 in
theorem mc_X7_orderAhead (l : Launch) (D : va_G) (ta : wTa) (ad : wAd) (d : Nat) (VA : Wm → Int32 → Int32 → Int32 × Wm) (P : Int32 → Prop) (hVA : HVA l D ta ad d VA P) (hOk : HOk VA) (M : Wm) (p1 : Int32) (p2 : Int32) (hok : Ok7 M) (hP : P (p2 + 1)) : MC l D ta ad yX7_orderAhead cX7_orderAhead 6 (some .int) (d + 2) [.ref (ad 7 0 0), .int p1, .int p2] M (fi (f7_orderAhead VA M p1 p2)) := by
  refine MC.of (fi) (f7_orderAhead VA M p1 p2) rfl (by decide) (Nat.le_of_ble_eq_true rfl) (fun p e s m args below meth c cx hr => ?_)
  unfold f7_orderAhead
  refine mw_sub (lv' := [(0, .ref (ad 7 0 0)), (1, .int p1), (2, .int p2)]) [0, 1, 2] rfl ?_
  refine mw_aload_n cx (q := 1) 0 rfl rfl dX7_orderAhead_0 rfl ?_
  refine mw_iload_n cx (q := 2) 1 rfl rfl dX7_orderAhead_1 rfl ?_
  refine mw_iconst cx (q := 3) (v := 1) dX7_orderAhead_2 rfl rfl ?_
  refine mw_iload_n cx (q := 4) 2 rfl rfl dX7_orderAhead_3 rfl ?_
  refine mw_bnd (fun r1 er1 => ?_)
  refine mw_callV cx (q := 7) (d := d + 1) (As := [.int p1, .int 1, .int p2]) (z := fi r1) (st := []) (st1 := [.int r1.1]) (M' := r1.2) (by rw [er1]; exact mc_X7_valueOfPart l D ta ad d VA P hVA hOk M p1 1 p2 hok hP) cv_X7_185 rfl rfl rfl vi_7_0 ⟨by show _ ≤ d + 2; omega, by show _ ≤ 40 * (d + 2); omega⟩ ⟨Nat.le_refl _, Nat.le_refl _⟩ (by simp [Value.category]) rfl rfl rfl dX7_orderAhead_4 rfl ?_
  have ok2 : Ok7 r1.2 := (by rw [er1]; exact ok7_f7_valueOfPart VA hOk hok p1 1 p2)
  refine mw_istore_n cx (q := 8) (lv' := [(3, .int r1.1), (0, .ref (ad 7 0 0)), (1, .int p1), (2, .int p2)]) rfl rfl (by decide) dX7_orderAhead_7 rfl ?_
  refine mw_aload_n cx (q := 9) 1 rfl rfl dX7_orderAhead_8 rfl ?_
  refine mw_iload_n cx (q := 10) 2 rfl rfl dX7_orderAhead_9 rfl ?_
  refine mw_iconst cx (q := 11) (v := 2) dX7_orderAhead_10 rfl rfl ?_
  refine mw_iload_n cx (q := 12) 3 rfl rfl dX7_orderAhead_11 rfl ?_
  refine mw_bnd (fun r3 er3 => ?_)
  refine mw_callV cx (q := 15) (d := d + 1) (As := [.int p1, .int 2, .int p2]) (z := fi r3) (st := []) (st1 := [.int r3.1]) (M' := r3.2) (by rw [er3]; exact mc_X7_valueOfPart l D ta ad d VA P hVA hOk r1.2 p1 2 p2 ok2 hP) cv_X7_185 rfl rfl rfl vi_7_0 ⟨by show _ ≤ d + 2; omega, by show _ ≤ 40 * (d + 2); omega⟩ ⟨Nat.le_refl _, Nat.le_refl _⟩ (by simp [Value.category]) rfl rfl rfl dX7_orderAhead_12 rfl ?_
  have ok4 : Ok7 r3.2 := (by rw [er3]; exact ok7_f7_valueOfPart VA hOk ok2 p1 2 p2)
  refine mw_istore cx (q := 17) (lv' := [(4, .int r3.1), (3, .int r1.1), (0, .ref (ad 7 0 0)), (1, .int p1), (2, .int p2)]) rfl (by decide) dX7_orderAhead_15 rfl ?_
  refine mw_aload_n cx (q := 18) 2 rfl rfl dX7_orderAhead_17 rfl ?_
  refine mw_iload_n cx (q := 19) 3 rfl rfl dX7_orderAhead_18 rfl ?_
  refine mw_iconst cx (q := 20) (v := 3) dX7_orderAhead_19 rfl rfl ?_
  refine mw_iload_n cx (q := 21) 4 rfl rfl dX7_orderAhead_20 rfl ?_
  refine mw_bnd (fun r5 er5 => ?_)
  refine mw_callV cx (q := 24) (d := d + 1) (As := [.int p1, .int 3, .int p2]) (z := fi r5) (st := []) (st1 := [.int r5.1]) (M' := r5.2) (by rw [er5]; exact mc_X7_valueOfPart l D ta ad d VA P hVA hOk r3.2 p1 3 p2 ok4 hP) cv_X7_185 rfl rfl rfl vi_7_0 ⟨by show _ ≤ d + 2; omega, by show _ ≤ 40 * (d + 2); omega⟩ ⟨Nat.le_refl _, Nat.le_refl _⟩ (by simp [Value.category]) rfl rfl rfl dX7_orderAhead_21 rfl ?_
  have ok6 : Ok7 r5.2 := (by rw [er5]; exact ok7_f7_valueOfPart VA hOk ok4 p1 3 p2)
  refine mw_istore cx (q := 26) (lv' := [(5, .int r5.1), (4, .int r3.1), (3, .int r1.1), (0, .ref (ad 7 0 0)), (1, .int p1), (2, .int p2)]) rfl (by decide) dX7_orderAhead_24 rfl ?_
  refine mw_aload_n cx (q := 27) 3 rfl rfl dX7_orderAhead_26 rfl ?_
  refine mw_get cx (q := 30) (v := .int (r5.2 7 0 0 10)) gf_X7_60 rfl rfl vi_7_0 dX7_orderAhead_27 rfl ?_
  refine mw_if_eq cx (tgt := 35) (q := 33) dX7_orderAhead_30 (by decide) rfl (fun h7 => ?_) (fun h7 => ?_)
  · refine mw_iload_n cx (q := 36) 2 rfl rfl dX7_orderAhead_35 rfl ?_
    refine mw_iconst cx (q := 37) (v := 1) dX7_orderAhead_36 rfl rfl ?_
    refine mw_bipush cx (q := 39) (v := 100) dX7_orderAhead_37 rfl rfl ?_
    refine mw_bnd (fun r8 er8 => ?_)
    refine mw_callSN cx (q := 42) (d := 0) (As := [.int r1.1, .int 1, .int 100]) (z := fzp r5.2 r8) (st := []) (st1 := [.int (b2i r8)]) (M' := r5.2) (by rw [er8]; exact mc_X11_isIn l D ta ad r5.2 r1.1 1 100) cv_X7_298 ⟨by show _ ≤ d + 2; omega, by show _ ≤ 40 * (d + 2); omega⟩ ⟨Nat.le_refl _, Nat.le_refl _⟩ (by simp [Value.category]) rfl rfl rfl dX7_orderAhead_39 rfl ?_
    refine mw_ifb_eq cx (tgt := 68) (q := 45) dX7_orderAhead_42 (by decide) rfl (fun h9 => ?_) (fun h9 => ?_)
    · refine mw_aload_n cx (q := 69) 3 rfl rfl dX7_orderAhead_68 rfl ?_
      refine mw_bipush cx (q := 71) (v := 6) dX7_orderAhead_69 rfl rfl ?_
      refine mw_bnd (fun r10 er10 => ?_)
      refine mw_callV cx (q := 74) (d := 0) (As := [.int 6]) (z := fic r5.2 7 r10) (st := []) (st1 := [.int r10.1]) (M' := uW r5.2 7 r10.2) (by rw [er10]; exact mc_X7_stop l D ta ad r5.2 6) cv_X7_136 rfl rfl rfl vi_7_0 ⟨by show _ ≤ d + 2; omega, by show _ ≤ 40 * (d + 2); omega⟩ ⟨Nat.le_refl _, Nat.le_refl _⟩ (by simp [Value.category]) rfl rfl rfl dX7_orderAhead_71 rfl ?_
      refine mw_bndM (fun M11 eM11 => ?_)
      have ok12 : Ok7 M11 := (by rw [eM11, er10]; exact ok7_f7_stop ok6 6)
      exact mw_iret cx hr rfl dX7_orderAhead_74
    · refine mw_iload cx (q := 47) 1 rfl dX7_orderAhead_45 rfl ?_
      refine mw_iconst cx (q := 48) (v := 0) dX7_orderAhead_47 rfl rfl ?_
      refine mw_bipush cx (q := 50) (v := 7) dX7_orderAhead_48 rfl rfl ?_
      refine mw_bnd (fun r13 er13 => ?_)
      refine mw_callSN cx (q := 53) (d := 0) (As := [.int r3.1, .int 0, .int 7]) (z := fzp r5.2 r13) (st := []) (st1 := [.int (b2i r13)]) (M' := r5.2) (by rw [er13]; exact mc_X11_isIn l D ta ad r5.2 r3.1 0 7) cv_X7_298 ⟨by show _ ≤ d + 2; omega, by show _ ≤ 40 * (d + 2); omega⟩ ⟨Nat.le_refl _, Nat.le_refl _⟩ (by simp [Value.category]) rfl rfl rfl dX7_orderAhead_50 rfl ?_
      refine mw_ifb_eq cx (tgt := 68) (q := 56) dX7_orderAhead_53 (by decide) rfl (fun h14 => ?_) (fun h14 => ?_)
      · refine mw_aload_n cx (q := 69) 3 rfl rfl dX7_orderAhead_68 rfl ?_
        refine mw_bipush cx (q := 71) (v := 6) dX7_orderAhead_69 rfl rfl ?_
        refine mw_bnd (fun r15 er15 => ?_)
        refine mw_callV cx (q := 74) (d := 0) (As := [.int 6]) (z := fic r5.2 7 r15) (st := []) (st1 := [.int r15.1]) (M' := uW r5.2 7 r15.2) (by rw [er15]; exact mc_X7_stop l D ta ad r5.2 6) cv_X7_136 rfl rfl rfl vi_7_0 ⟨by show _ ≤ d + 2; omega, by show _ ≤ 40 * (d + 2); omega⟩ ⟨Nat.le_refl _, Nat.le_refl _⟩ (by simp [Value.category]) rfl rfl rfl dX7_orderAhead_71 rfl ?_
        refine mw_bndM (fun M16 eM16 => ?_)
        have ok17 : Ok7 M16 := (by rw [eM16, er15]; exact ok7_f7_stop ok6 6)
        exact mw_iret cx hr rfl dX7_orderAhead_74
      · refine mw_iload cx (q := 58) 0 rfl dX7_orderAhead_56 rfl ?_
        refine mw_iconst cx (q := 59) (v := 1) dX7_orderAhead_58 rfl rfl ?_
        refine mw_sipush cx (q := 62) (v := 1000) dX7_orderAhead_59 rfl rfl ?_
        refine mw_bnd (fun r18 er18 => ?_)
        refine mw_callSN cx (q := 65) (d := 0) (As := [.int r5.1, .int 1, .int 1000]) (z := fzp r5.2 r18) (st := []) (st1 := [.int (b2i r18)]) (M' := r5.2) (by rw [er18]; exact mc_X11_isIn l D ta ad r5.2 r5.1 1 1000) cv_X7_298 ⟨by show _ ≤ d + 2; omega, by show _ ≤ 40 * (d + 2); omega⟩ ⟨Nat.le_refl _, Nat.le_refl _⟩ (by simp [Value.category]) rfl rfl rfl dX7_orderAhead_62 rfl ?_
        refine mw_ifb_ne cx (tgt := 75) (q := 68) dX7_orderAhead_65 (by decide) rfl (fun h19 => ?_) (fun h19 => ?_)
        · refine mw_aload_n cx (q := 76) 3 rfl rfl dX7_orderAhead_75 rfl ?_
          refine mw_get cx (q := 79) (v := .ref (ad 4 0 0)) gf_X7_34 rfl rfl vi_7_0 dX7_orderAhead_76 rfl ?_
          refine mw_aload_n cx (q := 80) 3 rfl rfl dX7_orderAhead_79 rfl ?_
          refine mw_get cx (q := 83) (v := .int (r5.2 7 0 0 7)) gf_X7_53 rfl rfl vi_7_0 dX7_orderAhead_80 rfl ?_
          refine mw_iload cx (q := 85) 1 rfl dX7_orderAhead_83 rfl ?_
          refine mw_iload_n cx (q := 86) 2 rfl rfl dX7_orderAhead_85 rfl ?_
          refine mw_iload cx (q := 88) 0 rfl dX7_orderAhead_86 rfl ?_
          refine mw_bnd (fun r20 er20 => ?_)
          refine mw_callV cx (q := 91) (d := 1) (As := [.int (r5.2 7 0 0 7), .int r3.1, .int r1.1, .int r5.1]) (z := fic r5.2 4 r20) (st := []) (st1 := [.int r20.1]) (M' := uW r5.2 4 r20.2) (by rw [er20]; exact mc_X4_add l D ta ad r5.2 (r5.2 7 0 0 7) r3.1 r1.1 r5.1 ok6.2.2.2.2.2.2.2.2.2.2.1) cv_X7_310 rfl rfl rfl vi_4_0 ⟨by show _ ≤ d + 2; omega, by show _ ≤ 40 * (d + 2); omega⟩ ⟨Nat.le_refl _, Nat.le_refl _⟩ (by simp [Value.category]) rfl rfl rfl dX7_orderAhead_88 rfl ?_
          refine mw_bndM (fun M21 eM21 => ?_)
          have ok22 : Ok7 M21 := (by rw [eM21, er20]; exact ok7_f4_add ok6 (r5.2 7 0 0 7) r3.1 r1.1 r5.1)
          exact mw_iret cx hr rfl dX7_orderAhead_91
        · refine mw_aload_n cx (q := 69) 3 rfl rfl dX7_orderAhead_68 rfl ?_
          refine mw_bipush cx (q := 71) (v := 6) dX7_orderAhead_69 rfl rfl ?_
          refine mw_bnd (fun r23 er23 => ?_)
          refine mw_callV cx (q := 74) (d := 0) (As := [.int 6]) (z := fic r5.2 7 r23) (st := []) (st1 := [.int r23.1]) (M' := uW r5.2 7 r23.2) (by rw [er23]; exact mc_X7_stop l D ta ad r5.2 6) cv_X7_136 rfl rfl rfl vi_7_0 ⟨by show _ ≤ d + 2; omega, by show _ ≤ 40 * (d + 2); omega⟩ ⟨Nat.le_refl _, Nat.le_refl _⟩ (by simp [Value.category]) rfl rfl rfl dX7_orderAhead_71 rfl ?_
          refine mw_bndM (fun M24 eM24 => ?_)
          have ok25 : Ok7 M24 := (by rw [eM24, er23]; exact ok7_f7_stop ok6 6)
          exact mw_iret cx hr rfl dX7_orderAhead_74
  · refine mw_iconst cx (q := 34) (v := 0) dX7_orderAhead_33 rfl rfl ?_
    exact mw_iret cx hr rfl dX7_orderAhead_34
