theorem okT_f12_finish {m0 m : Cm} (h : OkT m0 m) (a : Int32) (hd : 1 ≤ (m 0 0 45).toInt) : OkT m0 (f12_finish m a) := by
  have h0 := h.1.d0; have h1 := h.1.d1
  unfold f12_finish
  refine bnd_I (P := OkT m0) (fun m1 e1 => bnd_I (P := OkT m0) (fun m2 e2 => ?_))
  rw [e2, e1]
  refine okT_s45 (okT_put0 h (by decide)) ?_
  rw [i32subn (by rw [t32_1]; omega) (by rw [t32_1]; omega), t32_1]; omega
theorem okT_f12_bind {m0 m : Cm} (h : OkT m0 m) (a b : Int32) (ht : (m 0 0 49).toInt < 100) : OkT m0 (f12_bind m a b) := by
  have h0 := h.1.t0
  unfold f12_bind
  refine bnd_I (P := OkT m0) (fun m1 e1 => bnd_I (P := OkT m0) (fun m2 e2 => bnd_I (P := OkT m0) (fun m3 e3 => ?_)))
  rw [e3, e2, e1]
  refine okT_s49 (okT_putA (okT_putA h (by decide)) (by decide)) ?_
  rw [inc_t h0 (by omega)]; omega
def f12_reckon (m : Cm) (p1 : Int32) : Cm := if (m 33 0 p1) = 0 then bnd (f12_valueNext m p1 (m 35 0 p1)) (fun (r21 : Cm) => r21) else if (m 33 0 p1) = 1 then bnd (u3 m 36 0 p1 (m 0 0 62)) (fun (m17 : Cm) => bnd (f12_following m17 (m 31 0 p1) (m 34 0 p1)) (fun (r19 : Int32) => bnd (f12_valueNext m17 p1 r19) (fun (r20 : Cm) => r20))) else if (m 32 0 p1) = 5 then if (m 0 0 62) = 0 then bnd (u3 m 0 0 63 5) (fun (m7 : Cm) => m7) else bnd (f12_joined (m 32 0 p1) (m 36 0 p1) (m 0 0 62)) (fun (r5 : Int32) => bnd (f12_finish m r5) (fun (r6 : Cm) => r6)) else if (m 32 0 p1) = 6 then if (m 0 0 62) = 0 then bnd (u3 m 0 0 63 5) (fun (m15 : Cm) => m15) else bnd (f12_joined (m 32 0 p1) (m 36 0 p1) (m 0 0 62)) (fun (r13 : Int32) => bnd (f12_finish m r13) (fun (r14 : Cm) => r14)) else bnd (f12_joined (m 32 0 p1) (m 36 0 p1) (m 0 0 62)) (fun (r10 : Int32) => bnd (f12_finish m r10) (fun (r11 : Cm) => r11))
set_option maxHeartbeats 4000000 in
set_option maxRecDepth 100000 in
theorem mc_X12_reckon (l : Launch) (D : va_G) (ta : wTa) (ad : wAd) (M : Wm) (p1 : Int32) (hok : Ok12 (M 12)) (hp1 : vp_in p1 32) (hT : Tx12 (M 12) ((M 12) 31 0 p1)) (hn : ((M 12) 33 0 p1) = 1 → Ix12 (M 12) ((M 12) 31 0 p1) ((M 12) 34 0 p1)) : MC l D ta ad yX12_reckon cX12_reckon 2 none 4 [.ref (ad 12 0 0), .int p1] M (fvc M 12 (f12_reckon (M 12) p1)) := by
  refine MC.of (fvc M 12) (f12_reckon (M 12) p1) rfl (by decide) (Nat.le_of_ble_eq_true rfl) (fun p e s m args below meth c cx hr => ?_)
  unfold f12_reckon
  refine mw_sub (lv' := [(0, .ref (ad 12 0 0)), (1, .int p1)]) [0, 1] rfl ?_
  refine mw_eqM (uW_self M 12) ?_
  have ok0 : OkT (M 12) (M 12) := ⟨hok, rfl, rfl⟩
  refine mw_aload_n cx (q := 1) 0 rfl rfl dX12_reckon_0 rfl ?_
  refine mw_get cx (q := 4) (v := .ref (ad 12 33 0)) gf_X12_104 rfl rfl vi_12_0 dX12_reckon_1 rfl ?_
  refine mw_iload_n cx (q := 5) 1 rfl rfl dX12_reckon_4 rfl ?_
  refine mw_iald cx (q := 6) (w := ((M 12) 33 0 p1)) rfl (fun _ => rfl) vi_12_33 hp1 dX12_reckon_5 rfl ?_
  refine mw_if_ne cx (tgt := 23) (q := 9) dX12_reckon_6 (by decide) rfl (fun h1 => ?_) (fun h1 => ?_)
  · refine mw_aload_n cx (q := 24) 0 rfl rfl dX12_reckon_23 rfl ?_
    refine mw_get cx (q := 27) (v := .ref (ad 12 33 0)) gf_X12_104 rfl rfl vi_12_0 dX12_reckon_24 rfl ?_
    refine mw_iload_n cx (q := 28) 1 rfl rfl dX12_reckon_27 rfl ?_
    refine mw_iald cx (q := 29) (w := ((M 12) 33 0 p1)) rfl (fun _ => rfl) vi_12_33 hp1 dX12_reckon_28 rfl ?_
    refine mw_iconst cx (q := 30) (v := 1) dX12_reckon_29 rfl rfl ?_
    refine mw_icmp_ne cx (tgt := 67) (q := 33) dX12_reckon_30 (by decide) rfl (fun h2 => ?_) (fun h2 => ?_)
    · refine mw_aload_n cx (q := 68) 0 rfl rfl dX12_reckon_67 rfl ?_
      refine mw_get cx (q := 71) (v := .ref (ad 12 32 0)) gf_X12_101 rfl rfl vi_12_0 dX12_reckon_68 rfl ?_
      refine mw_iload_n cx (q := 72) 1 rfl rfl dX12_reckon_71 rfl ?_
      refine mw_iald cx (q := 73) (w := ((M 12) 32 0 p1)) rfl (fun _ => rfl) vi_12_32 hp1 dX12_reckon_72 rfl ?_
      refine mw_iconst cx (q := 74) (v := 5) dX12_reckon_73 rfl rfl ?_
      refine mw_icmp_eq cx (tgt := 88) (q := 77) dX12_reckon_74 (by decide) rfl (fun h3 => ?_) (fun h3 => ?_)
      · refine mw_aload_n cx (q := 89) 0 rfl rfl dX12_reckon_88 rfl ?_
        refine mw_get cx (q := 92) (v := .int ((M 12) 0 0 62)) gf_X12_232 rfl rfl vi_12_0 dX12_reckon_89 rfl ?_
        refine mw_if_ne cx (tgt := 103) (q := 95) dX12_reckon_92 (by decide) rfl (fun h4 => ?_) (fun h4 => ?_)
        · refine mw_aload_n cx (q := 104) 0 rfl rfl dX12_reckon_103 rfl ?_
          refine mw_aload_n cx (q := 105) 0 rfl rfl dX12_reckon_104 rfl ?_
          refine mw_get cx (q := 108) (v := .ref (ad 12 32 0)) gf_X12_101 rfl rfl vi_12_0 dX12_reckon_105 rfl ?_
          refine mw_iload_n cx (q := 109) 1 rfl rfl dX12_reckon_108 rfl ?_
          refine mw_iald cx (q := 110) (w := ((M 12) 32 0 p1)) rfl (fun _ => rfl) vi_12_32 hp1 dX12_reckon_109 rfl ?_
          refine mw_aload_n cx (q := 111) 0 rfl rfl dX12_reckon_110 rfl ?_
          refine mw_get cx (q := 114) (v := .ref (ad 12 36 0)) gf_X12_113 rfl rfl vi_12_0 dX12_reckon_111 rfl ?_
          refine mw_iload_n cx (q := 115) 1 rfl rfl dX12_reckon_114 rfl ?_
          refine mw_iald cx (q := 116) (w := ((M 12) 36 0 p1)) rfl (fun _ => rfl) vi_12_36 hp1 dX12_reckon_115 rfl ?_
          refine mw_aload_n cx (q := 117) 0 rfl rfl dX12_reckon_116 rfl ?_
          refine mw_get cx (q := 120) (v := .int ((M 12) 0 0 62)) gf_X12_232 rfl rfl vi_12_0 dX12_reckon_117 rfl ?_
          refine mw_bnd (fun r5 er5 => ?_)
          refine mw_callS cx (q := 123) (d := 0) (As := [.int ((M 12) 32 0 p1), .int ((M 12) 36 0 p1), .int ((M 12) 0 0 62)]) (z := fip (uW M 12 (M 12)) r5) (st := [.ref (ad 12 0 0)]) (st1 := [.int r5, .ref (ad 12 0 0)]) (M' := (uW M 12 (M 12))) (by rw [er5]; exact mc_X12_joined l D ta ad (uW M 12 (M 12)) ((M 12) 32 0 p1) ((M 12) 36 0 p1) ((M 12) 0 0 62) (by intro hz; first | assumption | (rcases hz with hz | hz <;> (first | exact absurd hz (by assumption) | assumption)))) cv_X12_326 ⟨Nat.le_of_ble_eq_true rfl, Nat.le_of_ble_eq_true rfl⟩ ⟨Nat.le_refl _, Nat.le_refl _⟩ (by simp [Value.category]) rfl rfl rfl dX12_reckon_120 rfl ?_
          refine mw_bnd (fun r6 er6 => ?_)
          refine mw_callV cx (q := 126) (d := 0) (As := [.int r5]) (z := fvc (uW M 12 (M 12)) 12 r6) (st := []) (st1 := []) (M' := uW M 12 r6) (by rw [er6]; exact mc_X12_finish l D ta ad (uW M 12 (M 12)) r5) cv_X12_330 rfl rfl rfl vi_12_0 ⟨Nat.le_of_ble_eq_true rfl, Nat.le_of_ble_eq_true rfl⟩ ⟨Nat.le_refl _, Nat.le_refl _⟩ (by simp [Value.category]) rfl rfl (by exact uW_uW _ _ _ _) dX12_reckon_123 rfl ?_
          exact mw_vret cx hr rfl dX12_reckon_126
        · refine mw_aload_n cx (q := 96) 0 rfl rfl dX12_reckon_95 rfl ?_
          refine mw_iconst cx (q := 97) (v := 5) dX12_reckon_96 rfl rfl ?_
          refine mw_putC cx (q := 100) 63 gf_X12_257 pf_X12_63 (int_fit _) rfl (Nat.le_of_ble_eq_true rfl) rfl vi_12_0 (by decide) dX12_reckon_97 rfl (fun m7 em7 => ?_)
          have ok8 : OkT (M 12) m7 := (by rw [em7]; exact okT_put0 ok0 (by decide))
          refine mw_goto cx (tgt := 126) dX12_reckon_100 (by decide) ?_
          exact mw_vret cx hr rfl dX12_reckon_126
      · refine mw_aload_n cx (q := 78) 0 rfl rfl dX12_reckon_77 rfl ?_
        refine mw_get cx (q := 81) (v := .ref (ad 12 32 0)) gf_X12_101 rfl rfl vi_12_0 dX12_reckon_78 rfl ?_
        refine mw_iload_n cx (q := 82) 1 rfl rfl dX12_reckon_81 rfl ?_
        refine mw_iald cx (q := 83) (w := ((M 12) 32 0 p1)) rfl (fun _ => rfl) vi_12_32 hp1 dX12_reckon_82 rfl ?_
        refine mw_bipush cx (q := 85) (v := 6) dX12_reckon_83 rfl rfl ?_
        refine mw_icmp_ne cx (tgt := 103) (q := 88) dX12_reckon_85 (by decide) rfl (fun h9 => ?_) (fun h9 => ?_)
        · refine mw_aload_n cx (q := 104) 0 rfl rfl dX12_reckon_103 rfl ?_
          refine mw_aload_n cx (q := 105) 0 rfl rfl dX12_reckon_104 rfl ?_
          refine mw_get cx (q := 108) (v := .ref (ad 12 32 0)) gf_X12_101 rfl rfl vi_12_0 dX12_reckon_105 rfl ?_
          refine mw_iload_n cx (q := 109) 1 rfl rfl dX12_reckon_108 rfl ?_
          refine mw_iald cx (q := 110) (w := ((M 12) 32 0 p1)) rfl (fun _ => rfl) vi_12_32 hp1 dX12_reckon_109 rfl ?_
          refine mw_aload_n cx (q := 111) 0 rfl rfl dX12_reckon_110 rfl ?_
          refine mw_get cx (q := 114) (v := .ref (ad 12 36 0)) gf_X12_113 rfl rfl vi_12_0 dX12_reckon_111 rfl ?_
          refine mw_iload_n cx (q := 115) 1 rfl rfl dX12_reckon_114 rfl ?_
          refine mw_iald cx (q := 116) (w := ((M 12) 36 0 p1)) rfl (fun _ => rfl) vi_12_36 hp1 dX12_reckon_115 rfl ?_
          refine mw_aload_n cx (q := 117) 0 rfl rfl dX12_reckon_116 rfl ?_
          refine mw_get cx (q := 120) (v := .int ((M 12) 0 0 62)) gf_X12_232 rfl rfl vi_12_0 dX12_reckon_117 rfl ?_
          refine mw_bnd (fun r10 er10 => ?_)
          refine mw_callS cx (q := 123) (d := 0) (As := [.int ((M 12) 32 0 p1), .int ((M 12) 36 0 p1), .int ((M 12) 0 0 62)]) (z := fip (uW M 12 (M 12)) r10) (st := [.ref (ad 12 0 0)]) (st1 := [.int r10, .ref (ad 12 0 0)]) (M' := (uW M 12 (M 12))) (by rw [er10]; exact mc_X12_joined l D ta ad (uW M 12 (M 12)) ((M 12) 32 0 p1) ((M 12) 36 0 p1) ((M 12) 0 0 62) (by intro hz; first | assumption | (rcases hz with hz | hz <;> (first | exact absurd hz (by assumption) | assumption)))) cv_X12_326 ⟨Nat.le_of_ble_eq_true rfl, Nat.le_of_ble_eq_true rfl⟩ ⟨Nat.le_refl _, Nat.le_refl _⟩ (by simp [Value.category]) rfl rfl rfl dX12_reckon_120 rfl ?_
          refine mw_bnd (fun r11 er11 => ?_)
          refine mw_callV cx (q := 126) (d := 0) (As := [.int r10]) (z := fvc (uW M 12 (M 12)) 12 r11) (st := []) (st1 := []) (M' := uW M 12 r11) (by rw [er11]; exact mc_X12_finish l D ta ad (uW M 12 (M 12)) r10) cv_X12_330 rfl rfl rfl vi_12_0 ⟨Nat.le_of_ble_eq_true rfl, Nat.le_of_ble_eq_true rfl⟩ ⟨Nat.le_refl _, Nat.le_refl _⟩ (by simp [Value.category]) rfl rfl (by exact uW_uW _ _ _ _) dX12_reckon_123 rfl ?_
          exact mw_vret cx hr rfl dX12_reckon_126
        · refine mw_aload_n cx (q := 89) 0 rfl rfl dX12_reckon_88 rfl ?_
          refine mw_get cx (q := 92) (v := .int ((M 12) 0 0 62)) gf_X12_232 rfl rfl vi_12_0 dX12_reckon_89 rfl ?_
          refine mw_if_ne cx (tgt := 103) (q := 95) dX12_reckon_92 (by decide) rfl (fun h12 => ?_) (fun h12 => ?_)
          · refine mw_aload_n cx (q := 104) 0 rfl rfl dX12_reckon_103 rfl ?_
            refine mw_aload_n cx (q := 105) 0 rfl rfl dX12_reckon_104 rfl ?_
            refine mw_get cx (q := 108) (v := .ref (ad 12 32 0)) gf_X12_101 rfl rfl vi_12_0 dX12_reckon_105 rfl ?_
            refine mw_iload_n cx (q := 109) 1 rfl rfl dX12_reckon_108 rfl ?_
            refine mw_iald cx (q := 110) (w := ((M 12) 32 0 p1)) rfl (fun _ => rfl) vi_12_32 hp1 dX12_reckon_109 rfl ?_
            refine mw_aload_n cx (q := 111) 0 rfl rfl dX12_reckon_110 rfl ?_
            refine mw_get cx (q := 114) (v := .ref (ad 12 36 0)) gf_X12_113 rfl rfl vi_12_0 dX12_reckon_111 rfl ?_
            refine mw_iload_n cx (q := 115) 1 rfl rfl dX12_reckon_114 rfl ?_
            refine mw_iald cx (q := 116) (w := ((M 12) 36 0 p1)) rfl (fun _ => rfl) vi_12_36 hp1 dX12_reckon_115 rfl ?_
            refine mw_aload_n cx (q := 117) 0 rfl rfl dX12_reckon_116 rfl ?_
            refine mw_get cx (q := 120) (v := .int ((M 12) 0 0 62)) gf_X12_232 rfl rfl vi_12_0 dX12_reckon_117 rfl ?_
            refine mw_bnd (fun r13 er13 => ?_)
            refine mw_callS cx (q := 123) (d := 0) (As := [.int ((M 12) 32 0 p1), .int ((M 12) 36 0 p1), .int ((M 12) 0 0 62)]) (z := fip (uW M 12 (M 12)) r13) (st := [.ref (ad 12 0 0)]) (st1 := [.int r13, .ref (ad 12 0 0)]) (M' := (uW M 12 (M 12))) (by rw [er13]; exact mc_X12_joined l D ta ad (uW M 12 (M 12)) ((M 12) 32 0 p1) ((M 12) 36 0 p1) ((M 12) 0 0 62) (by intro hz; first | assumption | (rcases hz with hz | hz <;> (first | exact absurd hz (by assumption) | assumption)))) cv_X12_326 ⟨Nat.le_of_ble_eq_true rfl, Nat.le_of_ble_eq_true rfl⟩ ⟨Nat.le_refl _, Nat.le_refl _⟩ (by simp [Value.category]) rfl rfl rfl dX12_reckon_120 rfl ?_
            refine mw_bnd (fun r14 er14 => ?_)
            refine mw_callV cx (q := 126) (d := 0) (As := [.int r13]) (z := fvc (uW M 12 (M 12)) 12 r14) (st := []) (st1 := []) (M' := uW M 12 r14) (by rw [er14]; exact mc_X12_finish l D ta ad (uW M 12 (M 12)) r13) cv_X12_330 rfl rfl rfl vi_12_0 ⟨Nat.le_of_ble_eq_true rfl, Nat.le_of_ble_eq_true rfl⟩ ⟨Nat.le_refl _, Nat.le_refl _⟩ (by simp [Value.category]) rfl rfl (by exact uW_uW _ _ _ _) dX12_reckon_123 rfl ?_
            exact mw_vret cx hr rfl dX12_reckon_126
          · refine mw_aload_n cx (q := 96) 0 rfl rfl dX12_reckon_95 rfl ?_
            refine mw_iconst cx (q := 97) (v := 5) dX12_reckon_96 rfl rfl ?_
            refine mw_putC cx (q := 100) 63 gf_X12_257 pf_X12_63 (int_fit _) rfl (Nat.le_of_ble_eq_true rfl) rfl vi_12_0 (by decide) dX12_reckon_97 rfl (fun m15 em15 => ?_)
            have ok16 : OkT (M 12) m15 := (by rw [em15]; exact okT_put0 ok0 (by decide))
            refine mw_goto cx (tgt := 126) dX12_reckon_100 (by decide) ?_
            exact mw_vret cx hr rfl dX12_reckon_126
    · refine mw_aload_n cx (q := 34) 0 rfl rfl dX12_reckon_33 rfl ?_
      refine mw_get cx (q := 37) (v := .ref (ad 12 36 0)) gf_X12_113 rfl rfl vi_12_0 dX12_reckon_34 rfl ?_
      refine mw_iload_n cx (q := 38) 1 rfl rfl dX12_reckon_37 rfl ?_
      refine mw_aload_n cx (q := 39) 0 rfl rfl dX12_reckon_38 rfl ?_
      refine mw_get cx (q := 42) (v := .int ((M 12) 0 0 62)) gf_X12_232 rfl rfl vi_12_0 dX12_reckon_39 rfl ?_
      refine mw_iastC cx (q := 43) (fun _ => rfl) (by decide) vi_12_36 hp1 (by decide) dX12_reckon_42 rfl (fun m17 em17 => ?_)
      have ok18 : OkT (M 12) m17 := (by rw [em17]; exact okT_putA ok0 (by decide))
      refine mw_aload_n cx (q := 44) 0 rfl rfl dX12_reckon_43 rfl ?_
      refine mw_iload_n cx (q := 45) 1 rfl rfl dX12_reckon_44 rfl ?_
      refine mw_aload_n cx (q := 46) 0 rfl rfl dX12_reckon_45 rfl ?_
      refine mw_aload_n cx (q := 47) 0 rfl rfl dX12_reckon_46 rfl ?_
      refine mw_get cx (q := 50) (v := .ref (ad 12 31 0)) gf_X12_98 rfl rfl vi_12_0 dX12_reckon_47 rfl ?_
      refine mw_iload_n cx (q := 51) 1 rfl rfl dX12_reckon_50 rfl ?_
      refine mw_iald cx (q := 52) (w := ((M 12) 31 0 p1)) (by rw [em17]; rfl) (fun _ => rfl) vi_12_31 hp1 dX12_reckon_51 rfl ?_
      refine mw_aload_n cx (q := 53) 0 rfl rfl dX12_reckon_52 rfl ?_
      refine mw_get cx (q := 56) (v := .ref (ad 12 34 0)) gf_X12_107 rfl rfl vi_12_0 dX12_reckon_53 rfl ?_
      refine mw_iload_n cx (q := 57) 1 rfl rfl dX12_reckon_56 rfl ?_
      refine mw_iald cx (q := 58) (w := ((M 12) 34 0 p1)) (by rw [em17]; rfl) (fun _ => rfl) vi_12_34 hp1 dX12_reckon_57 rfl ?_
      refine mw_bnd (fun r19 er19 => ?_)
      refine mw_callV cx (q := 61) (d := 3) (As := [.int ((M 12) 31 0 p1), .int ((M 12) 34 0 p1)]) (z := fip (uW M 12 m17) r19) (st := [.int p1, .ref (ad 12 0 0)]) (st1 := [.int r19, .int p1, .ref (ad 12 0 0)]) (M' := (uW M 12 m17)) (by rw [er19]; exact mc_X12_following l D ta ad (uW M 12 m17) ((M 12) 31 0 p1) ((M 12) 34 0 p1) (ok18.1) (ok0.1.pS _ hp1) (Tx12.fr ok18.2 hT) (Ix12.fr ok18.2 (hn h2))) cv_X12_201 rfl rfl rfl vi_12_0 ⟨Nat.le_of_ble_eq_true rfl, Nat.le_of_ble_eq_true rfl⟩ ⟨Nat.le_refl _, Nat.le_refl _⟩ (by simp [Value.category]) rfl rfl rfl dX12_reckon_58 rfl ?_
      have qr190 : Nx12 m17 ((M 12) 31 0 p1) r19 := (by rw [er19]; exact following_n (ok18.1) (ok0.1.pS _ hp1) (Tx12.fr ok18.2 hT) (Ix12.fr ok18.2 (hn h2)))
      refine mw_bnd (fun r20 er20 => ?_)
      refine mw_callV cx (q := 64) (d := 0) (As := [.int p1, .int r19]) (z := fvc (uW M 12 m17) 12 r20) (st := []) (st1 := []) (M' := uW M 12 r20) (by rw [er20]; exact mc_X12_valueNext l D ta ad (uW M 12 m17) p1 r19 hp1) cv_X12_323 rfl rfl rfl vi_12_0 ⟨Nat.le_of_ble_eq_true rfl, Nat.le_of_ble_eq_true rfl⟩ ⟨Nat.le_refl _, Nat.le_refl _⟩ (by simp [Value.category]) rfl rfl (by exact uW_uW _ _ _ _) dX12_reckon_61 rfl ?_
      refine mw_goto cx (tgt := 126) dX12_reckon_64 (by decide) ?_
      exact mw_vret cx hr rfl dX12_reckon_126
  · refine mw_aload_n cx (q := 10) 0 rfl rfl dX12_reckon_9 rfl ?_
    refine mw_iload_n cx (q := 11) 1 rfl rfl dX12_reckon_10 rfl ?_
    refine mw_aload_n cx (q := 12) 0 rfl rfl dX12_reckon_11 rfl ?_
    refine mw_get cx (q := 15) (v := .ref (ad 12 35 0)) gf_X12_110 rfl rfl vi_12_0 dX12_reckon_12 rfl ?_
    refine mw_iload_n cx (q := 16) 1 rfl rfl dX12_reckon_15 rfl ?_
    refine mw_iald cx (q := 17) (w := ((M 12) 35 0 p1)) rfl (fun _ => rfl) vi_12_35 hp1 dX12_reckon_16 rfl ?_
    refine mw_bnd (fun r21 er21 => ?_)
    refine mw_callV cx (q := 20) (d := 0) (As := [.int p1, .int ((M 12) 35 0 p1)]) (z := fvc (uW M 12 (M 12)) 12 r21) (st := []) (st1 := []) (M' := uW M 12 r21) (by rw [er21]; exact mc_X12_valueNext l D ta ad (uW M 12 (M 12)) p1 ((M 12) 35 0 p1) hp1) cv_X12_323 rfl rfl rfl vi_12_0 ⟨Nat.le_of_ble_eq_true rfl, Nat.le_of_ble_eq_true rfl⟩ ⟨Nat.le_refl _, Nat.le_refl _⟩ (by simp [Value.category]) rfl rfl (by exact uW_uW _ _ _ _) dX12_reckon_17 rfl ?_
    refine mw_goto cx (tgt := 126) dX12_reckon_20 (by decide) ?_
    exact mw_vret cx hr rfl dX12_reckon_126
