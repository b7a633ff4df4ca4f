theorem okT_f12_finish {m0 m : Cm} (h : OkT m0 m) (a : Int32) (hd : 1 ≤ (m 0 0 45).toInt) : OkT m0 (f12_finish m a) := by
  have h0 := h.1.d0; have h1 := h.1.d1
  unfold f12_finish
  refine bnd_I (P := OkT m0) (fun m1 e1 => bnd_I (P := OkT m0) (fun m2 e2 => ?_))
  rw [e2, e1]
  refine okT_s45 (okT_put0 h (by decide)) ?_
  rw [i32subn (by rw [t32_1]; omega) (by rw [t32_1]; omega), t32_1]; omega
theorem okT_f12_bind {m0 m : Cm} (h : OkT m0 m) (a b : Int32) (ht : (m 0 0 49).toInt < 100) : OkT m0 (f12_bind m a b) := by
  have h0 := h.1.t0
  unfold f12_bind
  refine bnd_I (P := OkT m0) (fun m1 e1 => bnd_I (P := OkT m0) (fun m2 e2 => bnd_I (P := OkT m0) (fun m3 e3 => ?_)))
  rw [e3, e2, e1]
  refine okT_s49 (okT_putA (okT_putA h (by decide)) (by decide)) ?_
  rw [inc_t h0 (by omega)]; omega
def f12_reckon (m : Cm) (p1 : Int32) : Cm := if (m 33 0 p1) = 0 then bnd (f12_valueNext m p1 (m 35 0 p1)) (fun (r21 : Cm) => r21) else if (m 33 0 p1) = 1 then bnd (u3 m 36 0 p1 (m 0 0 62)) (fun (m17 : Cm) => bnd (f12_following m17 (m 31 0 p1) (m 34 0 p1)) (fun (r19 : Int32) => bnd (f12_valueNext m17 p1 r19) (fun (r20 : Cm) => r20))) else if (m 32 0 p1) = 5 then if (m 0 0 62) = 0 then bnd (u3 m 0 0 63 5) (fun (m7 : Cm) => m7) else bnd (f12_joined (m 32 0 p1) (m 36 0 p1) (m 0 0 62)) (fun (r5 : Int32) => bnd (f12_finish m r5) (fun (r6 : Cm) => r6)) else if (m 32 0 p1) = 6 then if (m 0 0 62) = 0 then bnd (u3 m 0 0 63 5) (fun (m15 : Cm) => m15) else bnd (f12_joined (m 32 0 p1) (m 36 0 p1) (m 0 0 62)) (fun (r13 : Int32) => bnd (f12_finish m r13) (fun (r14 : Cm) => r14)) else bnd (f12_joined (m 32 0 p1) (m 36 0 p1) (m 0 0 62)) (fun (r10 : Int32) => bnd (f12_finish m r10) (fun (r11 : Cm) => r11))
set_option maxHeartbeats 4000000 in
set_option maxRecDepth 100000 in
theorem mc_X12_reckon (l : Launch) (D : va_G) (ta : wTa) (ad : wAd) (M : Wm) (p1 : Int32) (hok : Ok12 (M 12)) (hp1 : vp_in p1 32) (hT : Tx12 (M 12) ((M 12) 31 0 p1)) (hn : ((M 12) 33 0 p1) = 1 → Ix12 (M 12) ((M 12) 31 0 p1) ((M 12) 34 0 p1)) : MC l D ta ad yX12_reckon cX12_reckon 2 none 4 [.ref (ad 12 0 0), .int p1] M (fvc M 12 (f12_reckon (M 12) p1)) := by
  refine MC.of (fvc M 12) (f12_reckon (M 12) p1) rfl (by decide) (Nat.le_of_ble_eq_true rfl) (fun p e s m args below meth c cx hr => ?_)
  unfold f12_reckon
  refine mw_sub (lv' := [(0, .ref (ad 12 0 0)), (1, .int p1)]) [0, 1] rfl ?_
  refine mw_eqM (uW_self M 12) ?_
  have ok0 : OkT (M 12) (M 12) := ⟨hok, rfl, rfl⟩
  refine mw_aload_n cx (q := 1) 0 rfl rfl dX12_reckon_0 rfl ?_
  refine mw_get cx (q := 4) (v := .ref (ad 12 33 0)) gf_X12_104 rfl rfl vi_12_0 dX12_reckon_1 rfl ?_
  refine mw_iload_n cx (q := 5) 1 rfl rfl dX12_reckon_4 rfl ?_
  refine mw_iald cx (q := 6) (w := ((M 12) 33 0 p1)) rfl (fun _ => rfl) vi_12_33 hp1 dX12_reckon_5 rfl ?_
  refine mw_if_ne cx (tgt := 23) (q := 9) dX12_reckon_6 (by decide) rfl (fun h1 => ?_) (fun h1 => ?_)
  · refine mw_aload_n cx (q := 24) 0 rfl rfl dX12_reckon_23 rfl ?_
    refine mw_get cx (q := 27) (v := .ref (ad 12 33 0)) gf_X12_104 rfl rfl vi_12_0 dX12_reckon_24 rfl ?_
    refine mw_iload_n cx (q := 28) 1 rfl rfl dX12_reckon_27 rfl ?_
    refine mw_iald cx (q := 29) (w := ((M 12) 33 0 p1)) rfl (fun _ => rfl) vi_12_33 hp1 dX12_reckon_28 rfl ?_
    refine mw_iconst cx (q := 30) (v := 1) dX12_reckon_29 rfl rfl ?_
    refine mw_icmp_ne cx (tgt := 67) (q := 33) dX12_reckon_30 (by decide) rfl (fun h2 => ?_) (fun h2 => ?_)
    · refine mw_aload_n cx (q := 68) 0 rfl rfl dX12_reckon_67 rfl ?_
      refine mw_get cx (q := 71) (v := .ref (ad 12 32 0)) gf_X12_101 rfl rfl vi_12_0 dX12_reckon_68 rfl ?_
      refine mw_iload_n cx (q := 72) 1 rfl rfl dX12_reckon_71 rfl ?_
      refine mw_iald cx (q := 73) (w := ((M 12) 32 0 p1)) rfl (fun _ => rfl) vi_12_32 hp1 dX12_reckon_72 rfl ?_
      refine mw_iconst cx (q := 74) (v := 5) dX12_reckon_73 rfl rfl ?_
      refine mw_icmp_eq cx (tgt := 88) (q := 77) dX12_reckon_74 (by decide) rfl (fun h3 => ?_) (fun h3 => ?_)
      · refine mw_aload_n cx (q := 89) 0 rfl rfl dX12_reckon_88 rfl ?_
        refine mw_get cx (q := 92) (v := .int ((M 12) 0 0 62)) gf_X12_232 rfl rfl vi_12_0 dX12_reckon_89 rfl ?_
        refine mw_if_ne cx (tgt := 103) (q := 95) dX12_reckon_92 (by decide) rfl (fun h4 => ?_) (fun h4 => ?_)
        · refine mw_aload_n cx (q := 104) 0 rfl rfl dX12_reckon_103 rfl ?_
          refine mw_aload_n cx (q := 105) 0 rfl rfl dX12_reckon_104 rfl ?_
          refine mw_get cx (q := 108) (v := .ref (ad 12 32 0)) gf_X12_101 rfl rfl vi_12_0 dX12_reckon_105 rfl ?_
          refine mw_iload_n cx (q := 109) 1 rfl rfl dX12_reckon_108 rfl ?_
          refine mw_iald cx (q := 110) (w := ((M 12) 32 0 p1)) rfl (fun _ => rfl) vi_12_32 hp1 dX12_reckon_109 rfl ?_
          refine mw_aload_n cx (q := 111) 0 rfl rfl dX12_reckon_110 rfl ?_
          refine mw_get cx (q := 114) (v := .ref (ad 12 36 0)) gf_X12_113 rfl rfl vi_12_0 dX12_reckon_111 rfl ?_
          refine mw_iload_n cx (q := 115) 1 rfl rfl dX12_reckon_114 rfl ?_
          refine mw_iald cx (q := 116) (w := ((M 12) 36 0 p1)) rfl (fun _ => rfl) vi_12_36 hp1 dX12_reckon_115 rfl ?_
          refine mw_aload_n cx (q := 117) 0 rfl rfl dX12_reckon_116 rfl ?_
          refine mw_get cx (q := 120) (v := .int ((M 12) 0 0 62)) gf_X12_232 rfl rfl vi_12_0 dX12_reckon_117 rfl ?_
          refine mw_bnd (fun r5 er5 => ?_)
          refine mw_callS cx (q := 123) (d := 0) (As := [.int ((M 12) 32 0 p1), .int ((M 12) 36 0 p1), .int ((M 12) 0 0 62)]) (z := fip (uW M 12 (M 12)) r5) (st := [.ref (ad 12 0 0)]) (st1 := [.int r5, .ref (ad 12 0 0)]) (M' := (uW M 12 (M 12))) (by rw [er5]; exact mc_X12_joined l D ta ad (uW M 12 (M 12)) ((M 12) 32 0 p1) ((M 12) 36 0 p1) ((M 12) 0 0 62) (by intro hz; first | assumption | (rcases hz with hz | hz <;> (first | exact absurd hz (by assumption) | assumption)))) cv_X12_326 ⟨Nat.le_of_ble_eq_true rfl, Nat.le_of_ble_eq_true rfl⟩ ⟨Nat.le_refl _, Nat.le_refl _⟩ (by simp [Value.category]) rfl rfl rfl dX12_reckon_120 rfl ?_
          refine mw_bnd (fun r6 er6 => ?_)
          refine mw_callV cx (q := 126) (d := 0) (As := [.int r5]) (z := fvc (uW M 12 (M 12)) 12 r6) (st := []) (st1 := []) (M' := uW M 12 r6) (by rw [er6]; exact mc_X12_finish l D ta ad (uW M 12 (M 12)) r5) cv_X12_330 rfl rfl rfl vi_12_0 ⟨Nat.le_of_ble_eq_true rfl, Nat.le_of_ble_eq_true rfl⟩ ⟨Nat.le_refl _, Nat.le_refl _⟩ (by simp [Value.category]) rfl rfl (by exact uW_uW _ _ _ _) dX12_reckon_123 rfl ?_
          exact mw_vret cx hr rfl dX12_reckon_126
        · refine mw_aload_n cx (q := 96) 0 rfl rfl dX12_reckon_95 rfl ?_
          refine mw_iconst cx (q := 97) (v := 5) dX12_reckon_96 rfl rfl ?_
          refine mw_putC cx (q := 100) 63 gf_X12_257 pf_X12_63 (int_fit _) rfl (Nat.le_of_ble_eq_true rfl) rfl vi_12_0 (by decide) dX12_reckon_97 rfl (fun m7 em7 => ?_)
          have ok8 : OkT (M 12) m7 := (by rw [em7]; exact okT_put0 ok0 (by decide))
          refine mw_goto cx (tgt := 126) dX12_reckon_100 (by decide) ?_
          exact mw_vret cx hr rfl dX12_reckon_126
      · refine mw_aload_n cx (q := 78) 0 rfl rfl dX12_reckon_77 rfl ?_
        refine mw_get cx (q := 81) (v := .ref (ad 12 32 0)) gf_X12_101 rfl rfl vi_12_0 dX12_reckon_78 rfl ?_
        refine mw_iload_n cx (q := 82) 1 rfl rfl dX12_reckon_81 rfl ?_
        refine mw_iald cx (q := 83) (w := ((M 12) 32 0 p1)) rfl (fun _ => rfl) vi_12_32 hp1 dX12_reckon_82 rfl ?_
        refine mw_bipush cx (q := 85) (v := 6) dX12_reckon_83 rfl rfl ?_
        refine mw_icmp_ne cx (tgt := 103) (q := 88) dX12_reckon_85 (by decide) rfl (fun h9 => ?_) (fun h9 => ?_)
        · refine mw_aload_n cx (q := 104) 0 rfl rfl dX12_reckon_103 rfl ?_
          refine mw_aload_n cx (q := 105) 0 rfl rfl dX12_reckon_104 rfl ?_
          refine mw_get cx (q := 108) (v := .ref (ad 12 32 0)) gf_X12_101 rfl rfl vi_12_0 dX12_reckon_105 rfl ?_
          refine mw_iload_n cx (q := 109) 1 rfl rfl dX12_reckon_108 rfl ?_
          refine mw_iald cx (q := 110) (w := ((M 12) 32 0 p1)) rfl (fun _ => rfl) vi_12_32 hp1 dX12_reckon_109 rfl ?_
          refine mw_aload_n cx (q := 111) 0 rfl rfl dX12_reckon_110 rfl ?_
          refine mw_get cx (q := 114) (v := .ref (ad 12 36 0)) gf_X12_113 rfl rfl vi_12_0 dX12_reckon_111 rfl ?_
          refine mw_iload_n cx (q := 115) 1 rfl rfl dX12_reckon_114 rfl ?_
          refine mw_iald cx (q := 116) (w := ((M 12) 36 0 p1)) rfl (fun _ => rfl) vi_12_36 hp1 dX12_reckon_115 rfl ?_
          refine mw_aload_n cx (q := 117) 0 rfl rfl dX12_reckon_116 rfl ?_
          refine mw_get cx (q := 120) (v := .int ((M 12) 0 0 62)) gf_X12_232 rfl rfl vi_12_0 dX12_reckon_117 rfl ?_
          refine mw_bnd (fun r10 er10 => ?_)
          refine mw_callS cx (q := 123) (d := 0) (As := [.int ((M 12) 32 0 p1), .int ((M 12) 36 0 p1), .int ((M 12) 0 0 62)]) (z := fip (uW M 12 (M 12)) r10) (st := [.ref (ad 12 0 0)]) (st1 := [.int r10, .ref (ad 12 0 0)]) (M' := (uW M 12 (M 12))) (by rw [er10]; exact mc_X12_joined l D ta ad (uW M 12 (M 12)) ((M 12) 32 0 p1) ((M 12) 36 0 p1) ((M 12) 0 0 62) (by intro hz; first | assumption | (rcases hz with hz | hz <;> (first | exact absurd hz (by assumption) | assumption)))) cv_X12_326 ⟨Nat.le_of_ble_eq_true rfl, Nat.le_of_ble_eq_true rfl⟩ ⟨Nat.le_refl _, Nat.le_refl _⟩ (by simp [Value.category]) rfl rfl rfl dX12_reckon_120 rfl ?_
          refine mw_bnd (fun r11 er11 => ?_)
          refine mw_callV cx (q := 126) (d := 0) (As := [.int r10]) (z := fvc (uW M 12 (M 12)) 12 r11) (st := []) (st1 := []) (M' := uW M 12 r11) (by rw [er11]; exact mc_X12_finish l D ta ad (uW M 12 (M 12)) r10) cv_X12_330 rfl rfl rfl vi_12_0 ⟨Nat.le_of_ble_eq_true rfl, Nat.le_of_ble_eq_true rfl⟩ ⟨Nat.le_refl _, Nat.le_refl _⟩ (by simp [Value.category]) rfl rfl (by exact uW_uW _ _ _ _) dX12_reckon_123 rfl ?_
          exact mw_vret cx hr rfl dX12_reckon_126
        · refine mw_aload_n cx (q := 89) 0 rfl rfl dX12_reckon_88 rfl ?_
          refine mw_get cx (q := 92) (v := .int ((M 12) 0 0 62)) gf_X12_232 rfl rfl vi_12_0 dX12_reckon_89 rfl ?_
          refine mw_if_ne cx (tgt := 103) (q := 95) dX12_reckon_92 (by decide) rfl (fun h12 => ?_) (fun h12 => ?_)
          · refine mw_aload_n cx (q := 104) 0 rfl rfl dX12_reckon_103 rfl ?_
            refine mw_aload_n cx (q := 105) 0 rfl rfl dX12_reckon_104 rfl ?_
            refine mw_get cx (q := 108) (v := .ref (ad 12 32 0)) gf_X12_101 rfl rfl vi_12_0 dX12_reckon_105 rfl ?_
            refine mw_iload_n cx (q := 109) 1 rfl rfl dX12_reckon_108 rfl ?_
            refine mw_iald cx (q := 110) (w := ((M 12) 32 0 p1)) rfl (fun _ => rfl) vi_12_32 hp1 dX12_reckon_109 rfl ?_
            refine mw_aload_n cx (q := 111) 0 rfl rfl dX12_reckon_110 rfl ?_
            refine mw_get cx (q := 114) (v := .ref (ad 12 36 0)) gf_X12_113 rfl rfl vi_12_0 dX12_reckon_111 rfl ?_
            refine mw_iload_n cx (q := 115) 1 rfl rfl dX12_reckon_114 rfl ?_
            refine mw_iald cx (q := 116) (w := ((M 12) 36 0 p1)) rfl (fun _ => rfl) vi_12_36 hp1 dX12_reckon_115 rfl ?_
            refine mw_aload_n cx (q := 117) 0 rfl rfl dX12_reckon_116 rfl ?_
            refine mw_get cx (q := 120) (v := .int ((M 12) 0 0 62)) gf_X12_232 rfl rfl vi_12_0 dX12_reckon_117 rfl ?_
            refine mw_bnd (fun r13 er13 => ?_)
            refine mw_callS cx (q := 123) (d := 0) (As := [.int ((M 12) 32 0 p1), .int ((M 12) 36 0 p1), .int ((M 12) 0 0 62)]) (z := fip (uW M 12 (M 12)) r13) (st := [.ref (ad 12 0 0)]) (st1 := [.int r13, .ref (ad 12 0 0)]) (M' := (uW M 12 (M 12))) (by rw [er13]; exact mc_X12_joined l D ta ad (uW M 12 (M 12)) ((M 12) 32 0 p1) ((M 12) 36 0 p1) ((M 12) 0 0 62) (by intro hz; first | assumption | (rcases hz with hz | hz <;> (first | exact absurd hz (by assumption) | assumption)))) cv_X12_326 ⟨Nat.le_of_ble_eq_true rfl, Nat.le_of_ble_eq_true rfl⟩ ⟨Nat.le_refl _, Nat.le_refl _⟩ (by simp [Value.category]) rfl rfl rfl dX12_reckon_120 rfl ?_
            refine mw_bnd (fun r14 er14 => ?_)
            refine mw_callV cx (q := 126) (d := 0) (As := [.int r13]) (z := fvc (uW M 12 (M 12)) 12 r14) (st := []) (st1 := []) (M' := uW M 12 r14) (by rw [er14]; exact mc_X12_finish l D ta ad (uW M 12 (M 12)) r13) cv_X12_330 rfl rfl rfl vi_12_0 ⟨Nat.le_of_ble_eq_true rfl, Nat.le_of_ble_eq_true rfl⟩ ⟨Nat.le_refl _, Nat.le_refl _⟩ (by simp [Value.category]) rfl rfl (by exact uW_uW _ _ _ _) dX12_reckon_123 rfl ?_
            exact mw_vret cx hr rfl dX12_reckon_126
          · refine mw_aload_n cx (q := 96) 0 rfl rfl dX12_reckon_95 rfl ?_
            refine mw_iconst cx (q := 97) (v := 5) dX12_reckon_96 rfl rfl ?_
            refine mw_putC cx (q := 100) 63 gf_X12_257 pf_X12_63 (int_fit _) rfl (Nat.le_of_ble_eq_true rfl) rfl vi_12_0 (by decide) dX12_reckon_97 rfl (fun m15 em15 => ?_)
            have ok16 : OkT (M 12) m15 := (by rw [em15]; exact okT_put0 ok0 (by decide))
            refine mw_goto cx (tgt := 126) dX12_reckon_100 (by decide) ?_
            exact mw_vret cx hr rfl dX12_reckon_126
    · refine mw_aload_n cx (q := 34) 0 rfl rfl dX12_reckon_33 rfl ?_
      refine mw_get cx (q := 37) (v := .ref (ad 12 36 0)) gf_X12_113 rfl rfl vi_12_0 dX12_reckon_34 rfl ?_
      refine mw_iload_n cx (q := 38) 1 rfl rfl dX12_reckon_37 rfl ?_
      refine mw_aload_n cx (q := 39) 0 rfl rfl dX12_reckon_38 rfl ?_
      refine mw_get cx (q := 42) (v := .int ((M 12) 0 0 62)) gf_X12_232 rfl rfl vi_12_0 dX12_reckon_39 rfl ?_
      refine mw_iastC cx (q := 43) (fun _ => rfl) (by decide) vi_12_36 hp1 (by decide) dX12_reckon_42 rfl (fun m17 em17 => ?_)
      have ok18 : OkT (M 12) m17 := (by rw [em17]; exact okT_putA ok0 (by decide))
      refine mw_aload_n cx (q := 44) 0 rfl rfl dX12_reckon_43 rfl ?_
      refine mw_iload_n cx (q := 45) 1 rfl rfl dX12_reckon_44 rfl ?_
      refine mw_aload_n cx (q := 46) 0 rfl rfl dX12_reckon_45 rfl ?_
      refine mw_aload_n cx (q := 47) 0 rfl rfl dX12_reckon_46 rfl ?_
      refine mw_get cx (q := 50) (v := .ref (ad 12 31 0)) gf_X12_98 rfl rfl vi_12_0 dX12_reckon_47 rfl ?_
      refine mw_iload_n cx (q := 51) 1 rfl rfl dX12_reckon_50 rfl ?_
      refine mw_iald cx (q := 52) (w := ((M 12) 31 0 p1)) (by rw [em17]; rfl) (fun _ => rfl) vi_12_31 hp1 dX12_reckon_51 rfl ?_
      refine mw_aload_n cx (q := 53) 0 rfl rfl dX12_reckon_52 rfl ?_
      refine mw_get cx (q := 56) (v := .ref (ad 12 34 0)) gf_X12_107 rfl rfl vi_12_0 dX12_reckon_53 rfl ?_
      refine mw_iload_n cx (q := 57) 1 rfl rfl dX12_reckon_56 rfl ?_
      refine mw_iald cx (q := 58) (w := ((M 12) 34 0 p1)) (by rw [em17]; rfl) (fun _ => rfl) vi_12_34 hp1 dX12_reckon_57 rfl ?_
      refine mw_bnd (fun r19 er19 => ?_)
      refine mw_callV cx (q := 61) (d := 3) (As := [.int ((M 12) 31 0 p1), .int ((M 12) 34 0 p1)]) (z := fip (uW M 12 m17) r19) (st := [.int p1, .ref (ad 12 0 0)]) (st1 := [.int r19, .int p1, .ref (ad 12 0 0)]) (M' := (uW M 12 m17)) (by rw [er19]; exact mc_X12_following l D ta ad (uW M 12 m17) ((M 12) 31 0 p1) ((M 12) 34 0 p1) (ok18.1) (ok0.1.pS _ hp1) (Tx12.fr ok18.2 hT) (Ix12.fr ok18.2 (hn h2))) cv_X12_201 rfl rfl rfl vi_12_0 ⟨Nat.le_of_ble_eq_true rfl, Nat.le_of_ble_eq_true rfl⟩ ⟨Nat.le_refl _, Nat.le_refl _⟩ (by simp [Value.category]) rfl rfl rfl dX12_reckon_58 rfl ?_
      have qr190 : Nx12 m17 ((M 12) 31 0 p1) r19 := (by rw [er19]; exact following_n (ok18.1) (ok0.1.pS _ hp1) (Tx12.fr ok18.2 hT) (Ix12.fr ok18.2 (hn h2)))
      refine mw_bnd (fun r20 er20 => ?_)
      refine mw_callV cx (q := 64) (d := 0) (As := [.int p1, .int r19]) (z := fvc (uW M 12 m17) 12 r20) (st := []) (st1 := []) (M' := uW M 12 r20) (by rw [er20]; exact mc_X12_valueNext l D ta ad (uW M 12 m17) p1 r19 hp1) cv_X12_323 rfl rfl rfl vi_12_0 ⟨Nat.le_of_ble_eq_true rfl, Nat.le_of_ble_eq_true rfl⟩ ⟨Nat.le_refl _, Nat.le_refl _⟩ (by simp [Value.category]) rfl rfl (by exact uW_uW _ _ _ _) dX12_reckon_61 rfl ?_
      refine mw_goto cx (tgt := 126) dX12_reckon_64 (by decide) ?_
      exact mw_vret cx hr rfl dX12_reckon_126
  · refine mw_aload_n cx (q := 10) 0 rfl rfl dX12_reckon_9 rfl ?_
    refine mw_iload_n cx (q := 11) 1 rfl rfl dX12_reckon_10 rfl ?_
    refine mw_aload_n cx (q := 12) 0 rfl rfl dX12_reckon_11 rfl ?_
    refine mw_get cx (q := 15) (v := .ref (ad 12 35 0)) gf_X12_110 rfl rfl vi_12_0 dX12_reckon_12 rfl ?_
    refine mw_iload_n cx (q := 16) 1 rfl rfl dX12_reckon_15 rfl ?_
    refine mw_iald cx (q := 17) (w := ((M 12) 35 0 p1)) rfl (fun _ => rfl) vi_12_35 hp1 dX12_reckon_16 rfl ?_
    refine mw_bnd (fun r21 er21 => ?_)
    refine mw_callV cx (q := 20) (d := 0) (As := [.int p1, .int ((M 12) 35 0 p1)]) (z := fvc (uW M 12 (M 12)) 12 r21) (st := []) (st1 := []) (M' := uW M 12 r21) (by rw [er21]; exact mc_X12_valueNext l D ta ad (uW M 12 (M 12)) p1 ((M 12) 35 0 p1) hp1) cv_X12_323 rfl rfl rfl vi_12_0 ⟨Nat.le_of_ble_eq_true rfl, Nat.le_of_ble_eq_true rfl⟩ ⟨Nat.le_refl _, Nat.le_refl _⟩ (by simp [Value.category]) rfl rfl (by exact uW_uW _ _ _ _) dX12_reckon_17 rfl ?_
    refine mw_goto cx (tgt := 126) dX12_reckon_20 (by decide) ?_
    exact mw_vret cx hr rfl dX12_reckon_126
def f12_choose (m : Cm) (p1 : Int32) : Cm := bnd ((m 32 0 p1)) (fun (v1 : Int32) => bnd (f12_following m (m 31 0 p1) (m 35 0 p1)) (fun (r2 : Int32) => if (m 33 0 p1) = 0 then bnd (f12_valueNext m p1 (m 35 0 p1)) (fun (r44 : Cm) => r44) else if v1 = 9 then jn (fun (v40 : Bool) => bnd (f12_finish m (b2i v40)) (fun (r43 : Cm) => r43)) (fun K41 => if (m 0 0 62) = 0 then K41 true else K41 false) else if (m 33 0 p1) = 2 then bnd (f12_finish m (m 0 0 62)) (fun (r6 : Cm) => r6) else if v1 = 10 then if (m 0 0 62) = 0 then bnd (f12_finish m (m 0 0 62)) (fun (r24 : Cm) => r24) else if v1 = 11 then if (m 0 0 62) = 0 then jn (fun (v33 : Int32) => bnd (f12_valueNext m p1 v33) (fun (r38 : Cm) => r38)) (fun K34 => if v1 = 12 then if (m 0 0 62) = 0 then bnd (f12_following m (m 31 0 p1) r2) (fun (r37 : Int32) => K34 r37) else K34 r2 else K34 r2) else bnd (f12_finish m (m 0 0 62)) (fun (r39 : Cm) => r39) else jn (fun (v26 : Int32) => bnd (f12_valueNext m p1 v26) (fun (r31 : Cm) => r31)) (fun K27 => if v1 = 12 then if (m 0 0 62) = 0 then bnd (f12_following m (m 31 0 p1) r2) (fun (r30 : Int32) => K27 r30) else K27 r2 else K27 r2) else if v1 = 11 then if (m 0 0 62) = 0 then jn (fun (v16 : Int32) => bnd (f12_valueNext m p1 v16) (fun (r21 : Cm) => r21)) (fun K17 => if v1 = 12 then if (m 0 0 62) = 0 then bnd (f12_following m (m 31 0 p1) r2) (fun (r20 : Int32) => K17 r20) else K17 r2 else K17 r2) else bnd (f12_finish m (m 0 0 62)) (fun (r22 : Cm) => r22) else jn (fun (v9 : Int32) => bnd (f12_valueNext m p1 v9) (fun (r14 : Cm) => r14)) (fun K10 => if v1 = 12 then if (m 0 0 62) = 0 then bnd (f12_following m (m 31 0 p1) r2) (fun (r13 : Int32) => K10 r13) else K10 r2 else K10 r2)))
set_option maxHeartbeats 4000000 in
set_option maxRecDepth 100000 in
theorem mc_X12_choose (l : Launch) (D : va_G) (ta : wTa) (ad : wAd) (M : Wm) (p1 : Int32) (hok : Ok12 (M 12)) (hp1 : vp_in p1 32) (hT : Tx12 (M 12) ((M 12) 31 0 p1)) (hF : Ix12 (M 12) ((M 12) 31 0 p1) ((M 12) 35 0 p1)) (hS : ((M 12) 32 0 p1) = 12 → ¬ f12_following (M 12) ((M 12) 31 0 p1) ((M 12) 35 0 p1) = (-1)) : MC l D ta ad yX12_choose cX12_choose 4 none 4 [.ref (ad 12 0 0), .int p1] M (fvc M 12 (f12_choose (M 12) p1)) := by
  refine MC.of (fvc M 12) (f12_choose (M 12) p1) rfl (by decide) (Nat.le_of_ble_eq_true rfl) (fun p e s m args below meth c cx hr => ?_)
  unfold f12_choose
  refine mw_sub (lv' := [(0, .ref (ad 12 0 0)), (1, .int p1)]) [0, 1] rfl ?_
  refine mw_eqM (uW_self M 12) ?_
  have ok0 : OkT (M 12) (M 12) := ⟨hok, rfl, rfl⟩
  refine mw_aload_n cx (q := 1) 0 rfl rfl dX12_choose_0 rfl ?_
  refine mw_get cx (q := 4) (v := .ref (ad 12 32 0)) gf_X12_101 rfl rfl vi_12_0 dX12_choose_1 rfl ?_
  refine mw_iload_n cx (q := 5) 1 rfl rfl dX12_choose_4 rfl ?_
  refine mw_iald cx (q := 6) (w := ((M 12) 32 0 p1)) rfl (fun _ => rfl) vi_12_32 hp1 dX12_choose_5 rfl ?_
  refine mw_bndT (fun v1 ev1 => ?_)
  refine mw_istore_n cx (q := 7) (lv' := [(2, .int v1), (0, .ref (ad 12 0 0)), (1, .int p1)]) rfl rfl (by decide) dX12_choose_6 rfl ?_
  refine mw_aload_n cx (q := 8) 1 rfl rfl dX12_choose_7 rfl ?_
  refine mw_aload_n cx (q := 9) 1 rfl rfl dX12_choose_8 rfl ?_
  refine mw_get cx (q := 12) (v := .ref (ad 12 31 0)) gf_X12_98 rfl rfl vi_12_0 dX12_choose_9 rfl ?_
  refine mw_iload_n cx (q := 13) 2 rfl rfl dX12_choose_12 rfl ?_
  refine mw_iald cx (q := 14) (w := ((M 12) 31 0 p1)) rfl (fun _ => rfl) vi_12_31 hp1 dX12_choose_13 rfl ?_
  refine mw_aload_n cx (q := 15) 1 rfl rfl dX12_choose_14 rfl ?_
  refine mw_get cx (q := 18) (v := .ref (ad 12 35 0)) gf_X12_110 rfl rfl vi_12_0 dX12_choose_15 rfl ?_
  refine mw_iload_n cx (q := 19) 2 rfl rfl dX12_choose_18 rfl ?_
  refine mw_iald cx (q := 20) (w := ((M 12) 35 0 p1)) rfl (fun _ => rfl) vi_12_35 hp1 dX12_choose_19 rfl ?_
  refine mw_bnd (fun r2 er2 => ?_)
  refine mw_callV cx (q := 23) (d := 3) (As := [.int ((M 12) 31 0 p1), .int ((M 12) 35 0 p1)]) (z := fip (uW M 12 (M 12)) r2) (st := []) (st1 := [.int r2]) (M' := (uW M 12 (M 12))) (by rw [er2]; exact mc_X12_following l D ta ad (uW M 12 (M 12)) ((M 12) 31 0 p1) ((M 12) 35 0 p1) (ok0.1) (ok0.1.pS _ hp1) hT hF) cv_X12_201 rfl rfl rfl vi_12_0 ⟨Nat.le_of_ble_eq_true rfl, Nat.le_of_ble_eq_true rfl⟩ ⟨Nat.le_refl _, Nat.le_refl _⟩ (by simp [Value.category]) rfl rfl rfl dX12_choose_20 rfl ?_
  have qr20 : Nx12 (M 12) ((M 12) 31 0 p1) r2 := (by rw [er2]; exact following_n (ok0.1) (ok0.1.pS _ hp1) hT hF)
  refine mw_istore_n cx (q := 24) (lv' := [(3, .int r2), (2, .int v1), (0, .ref (ad 12 0 0)), (1, .int p1)]) rfl rfl (by decide) dX12_choose_23 rfl ?_
  refine mw_aload_n cx (q := 25) 2 rfl rfl dX12_choose_24 rfl ?_
  refine mw_get cx (q := 28) (v := .ref (ad 12 33 0)) gf_X12_104 rfl rfl vi_12_0 dX12_choose_25 rfl ?_
  refine mw_iload_n cx (q := 29) 3 rfl rfl dX12_choose_28 rfl ?_
  refine mw_iald cx (q := 30) (w := ((M 12) 33 0 p1)) rfl (fun _ => rfl) vi_12_33 hp1 dX12_choose_29 rfl ?_
  refine mw_if_ne cx (tgt := 47) (q := 33) dX12_choose_30 (by decide) rfl (fun h3 => ?_) (fun h3 => ?_)
  · refine mw_iload_n cx (q := 48) 1 rfl rfl dX12_choose_47 rfl ?_
    refine mw_bipush cx (q := 50) (v := 9) dX12_choose_48 rfl rfl ?_
    refine mw_icmp_ne cx (tgt := 72) (q := 53) dX12_choose_50 (by decide) rfl (fun h4 => ?_) (fun h4 => ?_)
    · refine mw_aload_n cx (q := 73) 2 rfl rfl dX12_choose_72 rfl ?_
      refine mw_get cx (q := 76) (v := .ref (ad 12 33 0)) gf_X12_104 rfl rfl vi_12_0 dX12_choose_73 rfl ?_
      refine mw_iload_n cx (q := 77) 3 rfl rfl dX12_choose_76 rfl ?_
      refine mw_iald cx (q := 78) (w := ((M 12) 33 0 p1)) rfl (fun _ => rfl) vi_12_33 hp1 dX12_choose_77 rfl ?_
      refine mw_iconst cx (q := 79) (v := 2) dX12_choose_78 rfl rfl ?_
      refine mw_icmp_eq cx (tgt := 108) (q := 82) dX12_choose_79 (by decide) rfl (fun h5 => ?_) (fun h5 => ?_)
      · refine mw_aload_n cx (q := 109) 2 rfl rfl dX12_choose_108 rfl ?_
        refine mw_aload_n cx (q := 110) 2 rfl rfl dX12_choose_109 rfl ?_
        refine mw_get cx (q := 113) (v := .int ((M 12) 0 0 62)) gf_X12_232 rfl rfl vi_12_0 dX12_choose_110 rfl ?_
        refine mw_bnd (fun r6 er6 => ?_)
        refine mw_callV cx (q := 116) (d := 0) (As := [.int ((M 12) 0 0 62)]) (z := fvc (uW M 12 (M 12)) 12 r6) (st := []) (st1 := []) (M' := uW M 12 r6) (by rw [er6]; exact mc_X12_finish l D ta ad (uW M 12 (M 12)) ((M 12) 0 0 62)) cv_X12_330 rfl rfl rfl vi_12_0 ⟨Nat.le_of_ble_eq_true rfl, Nat.le_of_ble_eq_true rfl⟩ ⟨Nat.le_refl _, Nat.le_refl _⟩ (by simp [Value.category]) rfl rfl (by exact uW_uW _ _ _ _) dX12_choose_113 rfl ?_
        refine mw_goto cx (tgt := 152) dX12_choose_116 (by decide) ?_
        exact mw_vret cx hr rfl dX12_choose_152
      · refine mw_iload_n cx (q := 83) 1 rfl rfl dX12_choose_82 rfl ?_
        refine mw_bipush cx (q := 85) (v := 10) dX12_choose_83 rfl rfl ?_
        refine mw_icmp_ne cx (tgt := 95) (q := 88) dX12_choose_85 (by decide) rfl (fun h7 => ?_) (fun h7 => ?_)
        · refine mw_iload_n cx (q := 96) 1 rfl rfl dX12_choose_95 rfl ?_
          refine mw_bipush cx (q := 98) (v := 11) dX12_choose_96 rfl rfl ?_
          refine mw_icmp_ne cx (tgt := 119) (q := 101) dX12_choose_98 (by decide) rfl (fun h8 => ?_) (fun h8 => ?_)
          · refine mw_aload_n cx (q := 120) 2 rfl rfl dX12_choose_119 rfl ?_
            refine mw_iload_n cx (q := 121) 3 rfl rfl dX12_choose_120 rfl ?_
            refine mw_iload_n cx (q := 122) 1 rfl rfl dX12_choose_121 rfl ?_
            refine mw_bipush cx (q := 124) (v := 12) dX12_choose_122 rfl rfl ?_
            refine mw_jn (Mj := fun (v9 : Int32) => (uW M 12 (M 12))) (pj := 149) (lj := fun (v9 : Int32) => []) (sj := fun (v9 : Int32) => [.int v9, .int p1, .ref (ad 12 0 0)]) (fun v9 => ?_) (fun K10 hK10 => ?_)
            · refine mw_bnd (fun r14 er14 => ?_)
              refine mw_callV cx (q := 152) (d := 0) (As := [.int p1, .int v9]) (z := fvc (uW M 12 (M 12)) 12 r14) (st := []) (st1 := []) (M' := uW M 12 r14) (by rw [er14]; exact mc_X12_valueNext l D ta ad (uW M 12 (M 12)) p1 v9 hp1) cv_X12_323 rfl rfl rfl vi_12_0 ⟨Nat.le_of_ble_eq_true rfl, Nat.le_of_ble_eq_true rfl⟩ ⟨Nat.le_refl _, Nat.le_refl _⟩ (by simp [Value.category]) rfl rfl (by exact uW_uW _ _ _ _) dX12_choose_149 rfl ?_
              exact mw_vret cx hr rfl dX12_choose_152
            · refine mw_icmp_ne cx (tgt := 148) (q := 127) dX12_choose_124 (by decide) rfl (fun h11 => ?_) (fun h11 => ?_)
              · refine mw_iload_n cx (q := 149) 0 rfl rfl dX12_choose_148 rfl ?_
                refine mw_sub [] rfl ?_
                exact hK10 r2
              · refine mw_aload_n cx (q := 128) 2 rfl rfl dX12_choose_127 rfl ?_
                refine mw_get cx (q := 131) (v := .int ((M 12) 0 0 62)) gf_X12_232 rfl rfl vi_12_0 dX12_choose_128 rfl ?_
                refine mw_if_ne cx (tgt := 148) (q := 134) dX12_choose_131 (by decide) rfl (fun h12 => ?_) (fun h12 => ?_)
                · refine mw_iload_n cx (q := 149) 0 rfl rfl dX12_choose_148 rfl ?_
                  refine mw_sub [] rfl ?_
                  exact hK10 r2
                · refine mw_aload_n cx (q := 135) 2 rfl rfl dX12_choose_134 rfl ?_
                  refine mw_aload_n cx (q := 136) 2 rfl rfl dX12_choose_135 rfl ?_
                  refine mw_get cx (q := 139) (v := .ref (ad 12 31 0)) gf_X12_98 rfl rfl vi_12_0 dX12_choose_136 rfl ?_
                  refine mw_iload_n cx (q := 140) 3 rfl rfl dX12_choose_139 rfl ?_
                  refine mw_iald cx (q := 141) (w := ((M 12) 31 0 p1)) rfl (fun _ => rfl) vi_12_31 hp1 dX12_choose_140 rfl ?_
                  refine mw_iload_n cx (q := 142) 0 rfl rfl dX12_choose_141 rfl ?_
                  refine mw_bnd (fun r13 er13 => ?_)
                  refine mw_callV cx (q := 145) (d := 3) (As := [.int ((M 12) 31 0 p1), .int r2]) (z := fip (uW M 12 (M 12)) r13) (st := [.int p1, .ref (ad 12 0 0)]) (st1 := [.int r13, .int p1, .ref (ad 12 0 0)]) (M' := (uW M 12 (M 12))) (by rw [er13]; exact mc_X12_following l D ta ad (uW M 12 (M 12)) ((M 12) 31 0 p1) r2 (ok0.1) (ok0.1.pS _ hp1) hT (by rw [er2]; exact (following_n hok (hok.pS _ hp1) hT hF).resolve_left (hS (ev1.symm.trans (by assumption))))) cv_X12_201 rfl rfl rfl vi_12_0 ⟨Nat.le_of_ble_eq_true rfl, Nat.le_of_ble_eq_true rfl⟩ ⟨Nat.le_refl _, Nat.le_refl _⟩ (by simp [Value.category]) rfl rfl rfl dX12_choose_142 rfl ?_
                  have qr130 : Nx12 (M 12) ((M 12) 31 0 p1) r13 := (by rw [er13]; exact following_n (ok0.1) (ok0.1.pS _ hp1) hT (by rw [er2]; exact (following_n hok (hok.pS _ hp1) hT hF).resolve_left (hS (ev1.symm.trans (by assumption)))))
                  refine mw_goto cx (tgt := 149) dX12_choose_145 (by decide) ?_
                  refine mw_sub [] rfl ?_
                  exact hK10 r13
          · refine mw_aload_n cx (q := 102) 2 rfl rfl dX12_choose_101 rfl ?_
            refine mw_get cx (q := 105) (v := .int ((M 12) 0 0 62)) gf_X12_232 rfl rfl vi_12_0 dX12_choose_102 rfl ?_
            refine mw_if_eq cx (tgt := 119) (q := 108) dX12_choose_105 (by decide) rfl (fun h15 => ?_) (fun h15 => ?_)
            · refine mw_aload_n cx (q := 120) 2 rfl rfl dX12_choose_119 rfl ?_
              refine mw_iload_n cx (q := 121) 3 rfl rfl dX12_choose_120 rfl ?_
              refine mw_iload_n cx (q := 122) 1 rfl rfl dX12_choose_121 rfl ?_
              refine mw_bipush cx (q := 124) (v := 12) dX12_choose_122 rfl rfl ?_
              refine mw_jn (Mj := fun (v16 : Int32) => (uW M 12 (M 12))) (pj := 149) (lj := fun (v16 : Int32) => []) (sj := fun (v16 : Int32) => [.int v16, .int p1, .ref (ad 12 0 0)]) (fun v16 => ?_) (fun K17 hK17 => ?_)
              · refine mw_bnd (fun r21 er21 => ?_)
                refine mw_callV cx (q := 152) (d := 0) (As := [.int p1, .int v16]) (z := fvc (uW M 12 (M 12)) 12 r21) (st := []) (st1 := []) (M' := uW M 12 r21) (by rw [er21]; exact mc_X12_valueNext l D ta ad (uW M 12 (M 12)) p1 v16 hp1) cv_X12_323 rfl rfl rfl vi_12_0 ⟨Nat.le_of_ble_eq_true rfl, Nat.le_of_ble_eq_true rfl⟩ ⟨Nat.le_refl _, Nat.le_refl _⟩ (by simp [Value.category]) rfl rfl (by exact uW_uW _ _ _ _) dX12_choose_149 rfl ?_
                exact mw_vret cx hr rfl dX12_choose_152
              · refine mw_icmp_ne cx (tgt := 148) (q := 127) dX12_choose_124 (by decide) rfl (fun h18 => ?_) (fun h18 => ?_)
                · refine mw_iload_n cx (q := 149) 0 rfl rfl dX12_choose_148 rfl ?_
                  refine mw_sub [] rfl ?_
                  exact hK17 r2
                · refine mw_aload_n cx (q := 128) 2 rfl rfl dX12_choose_127 rfl ?_
                  refine mw_get cx (q := 131) (v := .int ((M 12) 0 0 62)) gf_X12_232 rfl rfl vi_12_0 dX12_choose_128 rfl ?_
                  refine mw_if_ne cx (tgt := 148) (q := 134) dX12_choose_131 (by decide) rfl (fun h19 => ?_) (fun h19 => ?_)
                  · refine mw_iload_n cx (q := 149) 0 rfl rfl dX12_choose_148 rfl ?_
                    refine mw_sub [] rfl ?_
                    exact hK17 r2
                  · refine mw_aload_n cx (q := 135) 2 rfl rfl dX12_choose_134 rfl ?_
                    refine mw_aload_n cx (q := 136) 2 rfl rfl dX12_choose_135 rfl ?_
                    refine mw_get cx (q := 139) (v := .ref (ad 12 31 0)) gf_X12_98 rfl rfl vi_12_0 dX12_choose_136 rfl ?_
                    refine mw_iload_n cx (q := 140) 3 rfl rfl dX12_choose_139 rfl ?_
                    refine mw_iald cx (q := 141) (w := ((M 12) 31 0 p1)) rfl (fun _ => rfl) vi_12_31 hp1 dX12_choose_140 rfl ?_
                    refine mw_iload_n cx (q := 142) 0 rfl rfl dX12_choose_141 rfl ?_
                    refine mw_bnd (fun r20 er20 => ?_)
                    refine mw_callV cx (q := 145) (d := 3) (As := [.int ((M 12) 31 0 p1), .int r2]) (z := fip (uW M 12 (M 12)) r20) (st := [.int p1, .ref (ad 12 0 0)]) (st1 := [.int r20, .int p1, .ref (ad 12 0 0)]) (M' := (uW M 12 (M 12))) (by rw [er20]; exact mc_X12_following l D ta ad (uW M 12 (M 12)) ((M 12) 31 0 p1) r2 (ok0.1) (ok0.1.pS _ hp1) hT (by rw [er2]; exact (following_n hok (hok.pS _ hp1) hT hF).resolve_left (hS (ev1.symm.trans (by assumption))))) cv_X12_201 rfl rfl rfl vi_12_0 ⟨Nat.le_of_ble_eq_true rfl, Nat.le_of_ble_eq_true rfl⟩ ⟨Nat.le_refl _, Nat.le_refl _⟩ (by simp [Value.category]) rfl rfl rfl dX12_choose_142 rfl ?_
                    have qr200 : Nx12 (M 12) ((M 12) 31 0 p1) r20 := (by rw [er20]; exact following_n (ok0.1) (ok0.1.pS _ hp1) hT (by rw [er2]; exact (following_n hok (hok.pS _ hp1) hT hF).resolve_left (hS (ev1.symm.trans (by assumption)))))
                    refine mw_goto cx (tgt := 149) dX12_choose_145 (by decide) ?_
                    refine mw_sub [] rfl ?_
                    exact hK17 r20
            · refine mw_aload_n cx (q := 109) 2 rfl rfl dX12_choose_108 rfl ?_
              refine mw_aload_n cx (q := 110) 2 rfl rfl dX12_choose_109 rfl ?_
              refine mw_get cx (q := 113) (v := .int ((M 12) 0 0 62)) gf_X12_232 rfl rfl vi_12_0 dX12_choose_110 rfl ?_
              refine mw_bnd (fun r22 er22 => ?_)
              refine mw_callV cx (q := 116) (d := 0) (As := [.int ((M 12) 0 0 62)]) (z := fvc (uW M 12 (M 12)) 12 r22) (st := []) (st1 := []) (M' := uW M 12 r22) (by rw [er22]; exact mc_X12_finish l D ta ad (uW M 12 (M 12)) ((M 12) 0 0 62)) cv_X12_330 rfl rfl rfl vi_12_0 ⟨Nat.le_of_ble_eq_true rfl, Nat.le_of_ble_eq_true rfl⟩ ⟨Nat.le_refl _, Nat.le_refl _⟩ (by simp [Value.category]) rfl rfl (by exact uW_uW _ _ _ _) dX12_choose_113 rfl ?_
              refine mw_goto cx (tgt := 152) dX12_choose_116 (by decide) ?_
              exact mw_vret cx hr rfl dX12_choose_152
        · refine mw_aload_n cx (q := 89) 2 rfl rfl dX12_choose_88 rfl ?_
          refine mw_get cx (q := 92) (v := .int ((M 12) 0 0 62)) gf_X12_232 rfl rfl vi_12_0 dX12_choose_89 rfl ?_
          refine mw_if_eq cx (tgt := 108) (q := 95) dX12_choose_92 (by decide) rfl (fun h23 => ?_) (fun h23 => ?_)
          · refine mw_aload_n cx (q := 109) 2 rfl rfl dX12_choose_108 rfl ?_
            refine mw_aload_n cx (q := 110) 2 rfl rfl dX12_choose_109 rfl ?_
            refine mw_get cx (q := 113) (v := .int ((M 12) 0 0 62)) gf_X12_232 rfl rfl vi_12_0 dX12_choose_110 rfl ?_
            refine mw_bnd (fun r24 er24 => ?_)
            refine mw_callV cx (q := 116) (d := 0) (As := [.int ((M 12) 0 0 62)]) (z := fvc (uW M 12 (M 12)) 12 r24) (st := []) (st1 := []) (M' := uW M 12 r24) (by rw [er24]; exact mc_X12_finish l D ta ad (uW M 12 (M 12)) ((M 12) 0 0 62)) cv_X12_330 rfl rfl rfl vi_12_0 ⟨Nat.le_of_ble_eq_true rfl, Nat.le_of_ble_eq_true rfl⟩ ⟨Nat.le_refl _, Nat.le_refl _⟩ (by simp [Value.category]) rfl rfl (by exact uW_uW _ _ _ _) dX12_choose_113 rfl ?_
            refine mw_goto cx (tgt := 152) dX12_choose_116 (by decide) ?_
            exact mw_vret cx hr rfl dX12_choose_152
          · refine mw_iload_n cx (q := 96) 1 rfl rfl dX12_choose_95 rfl ?_
            refine mw_bipush cx (q := 98) (v := 11) dX12_choose_96 rfl rfl ?_
            refine mw_icmp_ne cx (tgt := 119) (q := 101) dX12_choose_98 (by decide) rfl (fun h25 => ?_) (fun h25 => ?_)
            · refine mw_aload_n cx (q := 120) 2 rfl rfl dX12_choose_119 rfl ?_
              refine mw_iload_n cx (q := 121) 3 rfl rfl dX12_choose_120 rfl ?_
              refine mw_iload_n cx (q := 122) 1 rfl rfl dX12_choose_121 rfl ?_
              refine mw_bipush cx (q := 124) (v := 12) dX12_choose_122 rfl rfl ?_
              refine mw_jn (Mj := fun (v26 : Int32) => (uW M 12 (M 12))) (pj := 149) (lj := fun (v26 : Int32) => []) (sj := fun (v26 : Int32) => [.int v26, .int p1, .ref (ad 12 0 0)]) (fun v26 => ?_) (fun K27 hK27 => ?_)
              · refine mw_bnd (fun r31 er31 => ?_)
                refine mw_callV cx (q := 152) (d := 0) (As := [.int p1, .int v26]) (z := fvc (uW M 12 (M 12)) 12 r31) (st := []) (st1 := []) (M' := uW M 12 r31) (by rw [er31]; exact mc_X12_valueNext l D ta ad (uW M 12 (M 12)) p1 v26 hp1) cv_X12_323 rfl rfl rfl vi_12_0 ⟨Nat.le_of_ble_eq_true rfl, Nat.le_of_ble_eq_true rfl⟩ ⟨Nat.le_refl _, Nat.le_refl _⟩ (by simp [Value.category]) rfl rfl (by exact uW_uW _ _ _ _) dX12_choose_149 rfl ?_
                exact mw_vret cx hr rfl dX12_choose_152
              · refine mw_icmp_ne cx (tgt := 148) (q := 127) dX12_choose_124 (by decide) rfl (fun h28 => ?_) (fun h28 => ?_)
                · refine mw_iload_n cx (q := 149) 0 rfl rfl dX12_choose_148 rfl ?_
                  refine mw_sub [] rfl ?_
                  exact hK27 r2
                · refine mw_aload_n cx (q := 128) 2 rfl rfl dX12_choose_127 rfl ?_
                  refine mw_get cx (q := 131) (v := .int ((M 12) 0 0 62)) gf_X12_232 rfl rfl vi_12_0 dX12_choose_128 rfl ?_
                  refine mw_if_ne cx (tgt := 148) (q := 134) dX12_choose_131 (by decide) rfl (fun h29 => ?_) (fun h29 => ?_)
                  · refine mw_iload_n cx (q := 149) 0 rfl rfl dX12_choose_148 rfl ?_
                    refine mw_sub [] rfl ?_
                    exact hK27 r2
                  · refine mw_aload_n cx (q := 135) 2 rfl rfl dX12_choose_134 rfl ?_
                    refine mw_aload_n cx (q := 136) 2 rfl rfl dX12_choose_135 rfl ?_
                    refine mw_get cx (q := 139) (v := .ref (ad 12 31 0)) gf_X12_98 rfl rfl vi_12_0 dX12_choose_136 rfl ?_
                    refine mw_iload_n cx (q := 140) 3 rfl rfl dX12_choose_139 rfl ?_
                    refine mw_iald cx (q := 141) (w := ((M 12) 31 0 p1)) rfl (fun _ => rfl) vi_12_31 hp1 dX12_choose_140 rfl ?_
                    refine mw_iload_n cx (q := 142) 0 rfl rfl dX12_choose_141 rfl ?_
                    refine mw_bnd (fun r30 er30 => ?_)
                    refine mw_callV cx (q := 145) (d := 3) (As := [.int ((M 12) 31 0 p1), .int r2]) (z := fip (uW M 12 (M 12)) r30) (st := [.int p1, .ref (ad 12 0 0)]) (st1 := [.int r30, .int p1, .ref (ad 12 0 0)]) (M' := (uW M 12 (M 12))) (by rw [er30]; exact mc_X12_following l D ta ad (uW M 12 (M 12)) ((M 12) 31 0 p1) r2 (ok0.1) (ok0.1.pS _ hp1) hT (by rw [er2]; exact (following_n hok (hok.pS _ hp1) hT hF).resolve_left (hS (ev1.symm.trans (by assumption))))) cv_X12_201 rfl rfl rfl vi_12_0 ⟨Nat.le_of_ble_eq_true rfl, Nat.le_of_ble_eq_true rfl⟩ ⟨Nat.le_refl _, Nat.le_refl _⟩ (by simp [Value.category]) rfl rfl rfl dX12_choose_142 rfl ?_
                    have qr300 : Nx12 (M 12) ((M 12) 31 0 p1) r30 := (by rw [er30]; exact following_n (ok0.1) (ok0.1.pS _ hp1) hT (by rw [er2]; exact (following_n hok (hok.pS _ hp1) hT hF).resolve_left (hS (ev1.symm.trans (by assumption)))))
                    refine mw_goto cx (tgt := 149) dX12_choose_145 (by decide) ?_
                    refine mw_sub [] rfl ?_
                    exact hK27 r30
            · refine mw_aload_n cx (q := 102) 2 rfl rfl dX12_choose_101 rfl ?_
              refine mw_get cx (q := 105) (v := .int ((M 12) 0 0 62)) gf_X12_232 rfl rfl vi_12_0 dX12_choose_102 rfl ?_
              refine mw_if_eq cx (tgt := 119) (q := 108) dX12_choose_105 (by decide) rfl (fun h32 => ?_) (fun h32 => ?_)
              · refine mw_aload_n cx (q := 120) 2 rfl rfl dX12_choose_119 rfl ?_
                refine mw_iload_n cx (q := 121) 3 rfl rfl dX12_choose_120 rfl ?_
                refine mw_iload_n cx (q := 122) 1 rfl rfl dX12_choose_121 rfl ?_
                refine mw_bipush cx (q := 124) (v := 12) dX12_choose_122 rfl rfl ?_
                refine mw_jn (Mj := fun (v33 : Int32) => (uW M 12 (M 12))) (pj := 149) (lj := fun (v33 : Int32) => []) (sj := fun (v33 : Int32) => [.int v33, .int p1, .ref (ad 12 0 0)]) (fun v33 => ?_) (fun K34 hK34 => ?_)
                · refine mw_bnd (fun r38 er38 => ?_)
                  refine mw_callV cx (q := 152) (d := 0) (As := [.int p1, .int v33]) (z := fvc (uW M 12 (M 12)) 12 r38) (st := []) (st1 := []) (M' := uW M 12 r38) (by rw [er38]; exact mc_X12_valueNext l D ta ad (uW M 12 (M 12)) p1 v33 hp1) cv_X12_323 rfl rfl rfl vi_12_0 ⟨Nat.le_of_ble_eq_true rfl, Nat.le_of_ble_eq_true rfl⟩ ⟨Nat.le_refl _, Nat.le_refl _⟩ (by simp [Value.category]) rfl rfl (by exact uW_uW _ _ _ _) dX12_choose_149 rfl ?_
                  exact mw_vret cx hr rfl dX12_choose_152
                · refine mw_icmp_ne cx (tgt := 148) (q := 127) dX12_choose_124 (by decide) rfl (fun h35 => ?_) (fun h35 => ?_)
                  · refine mw_iload_n cx (q := 149) 0 rfl rfl dX12_choose_148 rfl ?_
                    refine mw_sub [] rfl ?_
                    exact hK34 r2
                  · refine mw_aload_n cx (q := 128) 2 rfl rfl dX12_choose_127 rfl ?_
                    refine mw_get cx (q := 131) (v := .int ((M 12) 0 0 62)) gf_X12_232 rfl rfl vi_12_0 dX12_choose_128 rfl ?_
                    refine mw_if_ne cx (tgt := 148) (q := 134) dX12_choose_131 (by decide) rfl (fun h36 => ?_) (fun h36 => ?_)
                    · refine mw_iload_n cx (q := 149) 0 rfl rfl dX12_choose_148 rfl ?_
                      refine mw_sub [] rfl ?_
                      exact hK34 r2
                    · refine mw_aload_n cx (q := 135) 2 rfl rfl dX12_choose_134 rfl ?_
                      refine mw_aload_n cx (q := 136) 2 rfl rfl dX12_choose_135 rfl ?_
                      refine mw_get cx (q := 139) (v := .ref (ad 12 31 0)) gf_X12_98 rfl rfl vi_12_0 dX12_choose_136 rfl ?_
                      refine mw_iload_n cx (q := 140) 3 rfl rfl dX12_choose_139 rfl ?_
                      refine mw_iald cx (q := 141) (w := ((M 12) 31 0 p1)) rfl (fun _ => rfl) vi_12_31 hp1 dX12_choose_140 rfl ?_
                      refine mw_iload_n cx (q := 142) 0 rfl rfl dX12_choose_141 rfl ?_
                      refine mw_bnd (fun r37 er37 => ?_)
                      refine mw_callV cx (q := 145) (d := 3) (As := [.int ((M 12) 31 0 p1), .int r2]) (z := fip (uW M 12 (M 12)) r37) (st := [.int p1, .ref (ad 12 0 0)]) (st1 := [.int r37, .int p1, .ref (ad 12 0 0)]) (M' := (uW M 12 (M 12))) (by rw [er37]; exact mc_X12_following l D ta ad (uW M 12 (M 12)) ((M 12) 31 0 p1) r2 (ok0.1) (ok0.1.pS _ hp1) hT (by rw [er2]; exact (following_n hok (hok.pS _ hp1) hT hF).resolve_left (hS (ev1.symm.trans (by assumption))))) cv_X12_201 rfl rfl rfl vi_12_0 ⟨Nat.le_of_ble_eq_true rfl, Nat.le_of_ble_eq_true rfl⟩ ⟨Nat.le_refl _, Nat.le_refl _⟩ (by simp [Value.category]) rfl rfl rfl dX12_choose_142 rfl ?_
                      have qr370 : Nx12 (M 12) ((M 12) 31 0 p1) r37 := (by rw [er37]; exact following_n (ok0.1) (ok0.1.pS _ hp1) hT (by rw [er2]; exact (following_n hok (hok.pS _ hp1) hT hF).resolve_left (hS (ev1.symm.trans (by assumption)))))
                      refine mw_goto cx (tgt := 149) dX12_choose_145 (by decide) ?_
                      refine mw_sub [] rfl ?_
                      exact hK34 r37
              · refine mw_aload_n cx (q := 109) 2 rfl rfl dX12_choose_108 rfl ?_
                refine mw_aload_n cx (q := 110) 2 rfl rfl dX12_choose_109 rfl ?_
                refine mw_get cx (q := 113) (v := .int ((M 12) 0 0 62)) gf_X12_232 rfl rfl vi_12_0 dX12_choose_110 rfl ?_
                refine mw_bnd (fun r39 er39 => ?_)
                refine mw_callV cx (q := 116) (d := 0) (As := [.int ((M 12) 0 0 62)]) (z := fvc (uW M 12 (M 12)) 12 r39) (st := []) (st1 := []) (M' := uW M 12 r39) (by rw [er39]; exact mc_X12_finish l D ta ad (uW M 12 (M 12)) ((M 12) 0 0 62)) cv_X12_330 rfl rfl rfl vi_12_0 ⟨Nat.le_of_ble_eq_true rfl, Nat.le_of_ble_eq_true rfl⟩ ⟨Nat.le_refl _, Nat.le_refl _⟩ (by simp [Value.category]) rfl rfl (by exact uW_uW _ _ _ _) dX12_choose_113 rfl ?_
                refine mw_goto cx (tgt := 152) dX12_choose_116 (by decide) ?_
                exact mw_vret cx hr rfl dX12_choose_152
    · refine mw_aload_n cx (q := 54) 2 rfl rfl dX12_choose_53 rfl ?_
      refine mw_aload_n cx (q := 55) 2 rfl rfl dX12_choose_54 rfl ?_
      refine mw_get cx (q := 58) (v := .int ((M 12) 0 0 62)) gf_X12_232 rfl rfl vi_12_0 dX12_choose_55 rfl ?_
      refine mw_jn (Mj := fun (v40 : Bool) => (uW M 12 (M 12))) (pj := 66) (lj := fun (v40 : Bool) => []) (sj := fun (v40 : Bool) => [.int (b2i v40), .ref (ad 12 0 0)]) (fun v40 => ?_) (fun K41 hK41 => ?_)
      · refine mw_bnd (fun r43 er43 => ?_)
        refine mw_callV cx (q := 69) (d := 0) (As := [.int (b2i v40)]) (z := fvc (uW M 12 (M 12)) 12 r43) (st := []) (st1 := []) (M' := uW M 12 r43) (by rw [er43]; exact mc_X12_finish l D ta ad (uW M 12 (M 12)) (b2i v40)) cv_X12_330 rfl rfl rfl vi_12_0 ⟨Nat.le_of_ble_eq_true rfl, Nat.le_of_ble_eq_true rfl⟩ ⟨Nat.le_refl _, Nat.le_refl _⟩ (by simp [Value.category]) rfl rfl (by exact uW_uW _ _ _ _) dX12_choose_66 rfl ?_
        refine mw_goto cx (tgt := 152) dX12_choose_69 (by decide) ?_
        exact mw_vret cx hr rfl dX12_choose_152
      · refine mw_if_ne cx (tgt := 65) (q := 61) dX12_choose_58 (by decide) rfl (fun h42 => ?_) (fun h42 => ?_)
        · refine mw_iconst cx (q := 66) (v := 0) dX12_choose_65 rfl rfl ?_
          refine mw_sub [] rfl ?_
          exact hK41 false
        · refine mw_iconst cx (q := 62) (v := 1) dX12_choose_61 rfl rfl ?_
          refine mw_goto cx (tgt := 66) dX12_choose_62 (by decide) ?_
          refine mw_sub [] rfl ?_
          exact hK41 true
  · refine mw_aload_n cx (q := 34) 2 rfl rfl dX12_choose_33 rfl ?_
    refine mw_iload_n cx (q := 35) 3 rfl rfl dX12_choose_34 rfl ?_
    refine mw_aload_n cx (q := 36) 2 rfl rfl dX12_choose_35 rfl ?_
    refine mw_get cx (q := 39) (v := .ref (ad 12 35 0)) gf_X12_110 rfl rfl vi_12_0 dX12_choose_36 rfl ?_
    refine mw_iload_n cx (q := 40) 3 rfl rfl dX12_choose_39 rfl ?_
    refine mw_iald cx (q := 41) (w := ((M 12) 35 0 p1)) rfl (fun _ => rfl) vi_12_35 hp1 dX12_choose_40 rfl ?_
    refine mw_bnd (fun r44 er44 => ?_)
    refine mw_callV cx (q := 44) (d := 0) (As := [.int p1, .int ((M 12) 35 0 p1)]) (z := fvc (uW M 12 (M 12)) 12 r44) (st := []) (st1 := []) (M' := uW M 12 r44) (by rw [er44]; exact mc_X12_valueNext l D ta ad (uW M 12 (M 12)) p1 ((M 12) 35 0 p1) hp1) cv_X12_323 rfl rfl rfl vi_12_0 ⟨Nat.le_of_ble_eq_true rfl, Nat.le_of_ble_eq_true rfl⟩ ⟨Nat.le_refl _, Nat.le_refl _⟩ (by simp [Value.category]) rfl rfl (by exact uW_uW _ _ _ _) dX12_choose_41 rfl ?_
    refine mw_goto cx (tgt := 152) dX12_choose_44 (by decide) ?_
    exact mw_vret cx hr rfl dX12_choose_152
def f12_repeat (m : Cm) (p1 : Int32) : Cm := jn (fun (v1 : Int32) => if (m 33 0 p1) ≤ 0 then if v1 = (-1) then bnd (u3 m 37 0 p1 ((m 37 0 p1) + 1)) (fun (m8 : Cm) => bnd (f12_valueNext m8 p1 (m 35 0 p1)) (fun (r10 : Cm) => r10)) else bnd (f12_valueNext m p1 v1) (fun (r7 : Cm) => r7) else if (m 34 0 p1) = (m 35 0 p1) then if (m 0 0 62) = 0 then bnd (f12_finish m (m 37 0 p1)) (fun (r23 : Cm) => r23) else if v1 = (-1) then bnd (u3 m 37 0 p1 ((m 37 0 p1) + 1)) (fun (m20 : Cm) => bnd (f12_valueNext m20 p1 (m 35 0 p1)) (fun (r22 : Cm) => r22)) else bnd (f12_valueNext m p1 v1) (fun (r19 : Cm) => r19) else if v1 = (-1) then bnd (u3 m 37 0 p1 ((m 37 0 p1) + 1)) (fun (m14 : Cm) => bnd (f12_valueNext m14 p1 (m 35 0 p1)) (fun (r16 : Cm) => r16)) else bnd (f12_valueNext m p1 v1) (fun (r13 : Cm) => r13)) (fun K2 => if (m 34 0 p1) = (-1) then K2 (m 35 0 p1) else bnd (f12_following m (m 31 0 p1) (m 34 0 p1)) (fun (r4 : Int32) => K2 r4))
set_option maxHeartbeats 4000000 in
set_option maxRecDepth 100000 in
theorem mc_X12_repeat (l : Launch) (D : va_G) (ta : wTa) (ad : wAd) (M : Wm) (p1 : Int32) (hok : Ok12 (M 12)) (hp1 : vp_in p1 32) (hT : Tx12 (M 12) ((M 12) 31 0 p1)) (hF : Ix12 (M 12) ((M 12) 31 0 p1) ((M 12) 35 0 p1)) (hN : Nx12 (M 12) ((M 12) 31 0 p1) ((M 12) 34 0 p1)) : MC l D ta ad yX12_repeat cX12_repeat 3 none 4 [.ref (ad 12 0 0), .int p1] M (fvc M 12 (f12_repeat (M 12) p1)) := by
  refine MC.of (fvc M 12) (f12_repeat (M 12) p1) rfl (by decide) (Nat.le_of_ble_eq_true rfl) (fun p e s m args below meth c cx hr => ?_)
  unfold f12_repeat
  refine mw_sub (lv' := [(0, .ref (ad 12 0 0)), (1, .int p1)]) [0, 1] rfl ?_
  refine mw_eqM (uW_self M 12) ?_
  have ok0 : OkT (M 12) (M 12) := ⟨hok, rfl, rfl⟩
  refine mw_aload_n cx (q := 1) 0 rfl rfl dX12_repeat_0 rfl ?_
  refine mw_get cx (q := 4) (v := .ref (ad 12 34 0)) gf_X12_107 rfl rfl vi_12_0 dX12_repeat_1 rfl ?_
  refine mw_iload_n cx (q := 5) 1 rfl rfl dX12_repeat_4 rfl ?_
  refine mw_iald cx (q := 6) (w := ((M 12) 34 0 p1)) rfl (fun _ => rfl) vi_12_34 hp1 dX12_repeat_5 rfl ?_
  refine mw_iconst cx (q := 7) (v := (-1)) dX12_repeat_6 rfl rfl ?_
  refine mw_jn (Mj := fun (v1 : Int32) => (uW M 12 (M 12))) (pj := 35) (lj := fun (v1 : Int32) => [(0, .ref (ad 12 0 0)), (1, .int p1)]) (sj := fun (v1 : Int32) => [.int v1]) (fun v1 => ?_) (fun K2 hK2 => ?_)
  · refine mw_istore_n cx (q := 36) (lv' := [(2, .int v1), (0, .ref (ad 12 0 0)), (1, .int p1)]) rfl rfl (by decide) dX12_repeat_35 rfl ?_
    refine mw_aload_n cx (q := 37) 1 rfl rfl dX12_repeat_36 rfl ?_
    refine mw_get cx (q := 40) (v := .ref (ad 12 33 0)) gf_X12_104 rfl rfl vi_12_0 dX12_repeat_37 rfl ?_
    refine mw_iload_n cx (q := 41) 2 rfl rfl dX12_repeat_40 rfl ?_
    refine mw_iald cx (q := 42) (w := ((M 12) 33 0 p1)) rfl (fun _ => rfl) vi_12_33 hp1 dX12_repeat_41 rfl ?_
    refine mw_if_le cx (tgt := 80) (q := 45) dX12_repeat_42 (by decide) rfl (fun h5 => ?_) (fun h5 => ?_)
    · refine mw_iload_n cx (q := 81) 0 rfl rfl dX12_repeat_80 rfl ?_
      refine mw_iconst cx (q := 82) (v := (-1)) dX12_repeat_81 rfl rfl ?_
      refine mw_icmp_ne cx (tgt := 109) (q := 85) dX12_repeat_82 (by decide) rfl (fun h6 => ?_) (fun h6 => ?_)
      · refine mw_aload_n cx (q := 110) 1 rfl rfl dX12_repeat_109 rfl ?_
        refine mw_iload_n cx (q := 111) 2 rfl rfl dX12_repeat_110 rfl ?_
        refine mw_iload_n cx (q := 112) 0 rfl rfl dX12_repeat_111 rfl ?_
        refine mw_bnd (fun r7 er7 => ?_)
        refine mw_callV cx (q := 115) (d := 0) (As := [.int p1, .int v1]) (z := fvc (uW M 12 (M 12)) 12 r7) (st := []) (st1 := []) (M' := uW M 12 r7) (by rw [er7]; exact mc_X12_valueNext l D ta ad (uW M 12 (M 12)) p1 v1 hp1) cv_X12_323 rfl rfl rfl vi_12_0 ⟨Nat.le_of_ble_eq_true rfl, Nat.le_of_ble_eq_true rfl⟩ ⟨Nat.le_refl _, Nat.le_refl _⟩ (by simp [Value.category]) rfl rfl (by exact uW_uW _ _ _ _) dX12_repeat_112 rfl ?_
        exact mw_vret cx hr rfl dX12_repeat_115
      · refine mw_aload_n cx (q := 86) 1 rfl rfl dX12_repeat_85 rfl ?_
        refine mw_get cx (q := 89) (v := .ref (ad 12 37 0)) gf_X12_116 rfl rfl vi_12_0 dX12_repeat_86 rfl ?_
        refine mw_iload_n cx (q := 90) 2 rfl rfl dX12_repeat_89 rfl ?_
        refine mw_dup2 cx (q := 91) dX12_repeat_90 rfl rfl rfl ?_
        refine mw_iald cx (q := 92) (w := ((M 12) 37 0 p1)) rfl (fun _ => rfl) vi_12_37 hp1 dX12_repeat_91 rfl ?_
        refine mw_iconst cx (q := 93) (v := 1) dX12_repeat_92 rfl rfl ?_
        refine mw_iadd cx (q := 94) dX12_repeat_93 rfl ?_
        refine mw_iastC cx (q := 95) (fun _ => rfl) (by decide) vi_12_37 hp1 (by decide) dX12_repeat_94 rfl (fun m8 em8 => ?_)
        have ok9 : OkT (M 12) m8 := (by rw [em8]; exact okT_putA ok0 (by decide))
        refine mw_aload_n cx (q := 96) 1 rfl rfl dX12_repeat_95 rfl ?_
        refine mw_iload_n cx (q := 97) 2 rfl rfl dX12_repeat_96 rfl ?_
        refine mw_aload_n cx (q := 98) 1 rfl rfl dX12_repeat_97 rfl ?_
        refine mw_get cx (q := 101) (v := .ref (ad 12 35 0)) gf_X12_110 rfl rfl vi_12_0 dX12_repeat_98 rfl ?_
        refine mw_iload_n cx (q := 102) 2 rfl rfl dX12_repeat_101 rfl ?_
        refine mw_iald cx (q := 103) (w := ((M 12) 35 0 p1)) (by rw [em8]; rfl) (fun _ => rfl) vi_12_35 hp1 dX12_repeat_102 rfl ?_
        refine mw_bnd (fun r10 er10 => ?_)
        refine mw_callV cx (q := 106) (d := 0) (As := [.int p1, .int ((M 12) 35 0 p1)]) (z := fvc (uW M 12 m8) 12 r10) (st := []) (st1 := []) (M' := uW M 12 r10) (by rw [er10]; exact mc_X12_valueNext l D ta ad (uW M 12 m8) p1 ((M 12) 35 0 p1) hp1) cv_X12_323 rfl rfl rfl vi_12_0 ⟨Nat.le_of_ble_eq_true rfl, Nat.le_of_ble_eq_true rfl⟩ ⟨Nat.le_refl _, Nat.le_refl _⟩ (by simp [Value.category]) rfl rfl (by exact uW_uW _ _ _ _) dX12_repeat_103 rfl ?_
        refine mw_goto cx (tgt := 115) dX12_repeat_106 (by decide) ?_
        exact mw_vret cx hr rfl dX12_repeat_115
    · refine mw_aload_n cx (q := 46) 1 rfl rfl dX12_repeat_45 rfl ?_
      refine mw_get cx (q := 49) (v := .ref (ad 12 34 0)) gf_X12_107 rfl rfl vi_12_0 dX12_repeat_46 rfl ?_
      refine mw_iload_n cx (q := 50) 2 rfl rfl dX12_repeat_49 rfl ?_
      refine mw_iald cx (q := 51) (w := ((M 12) 34 0 p1)) rfl (fun _ => rfl) vi_12_34 hp1 dX12_repeat_50 rfl ?_
      refine mw_aload_n cx (q := 52) 1 rfl rfl dX12_repeat_51 rfl ?_
      refine mw_get cx (q := 55) (v := .ref (ad 12 35 0)) gf_X12_110 rfl rfl vi_12_0 dX12_repeat_52 rfl ?_
      refine mw_iload_n cx (q := 56) 2 rfl rfl dX12_repeat_55 rfl ?_
      refine mw_iald cx (q := 57) (w := ((M 12) 35 0 p1)) rfl (fun _ => rfl) vi_12_35 hp1 dX12_repeat_56 rfl ?_
      refine mw_icmp_ne cx (tgt := 80) (q := 60) dX12_repeat_57 (by decide) rfl (fun h11 => ?_) (fun h11 => ?_)
      · refine mw_iload_n cx (q := 81) 0 rfl rfl dX12_repeat_80 rfl ?_
        refine mw_iconst cx (q := 82) (v := (-1)) dX12_repeat_81 rfl rfl ?_
        refine mw_icmp_ne cx (tgt := 109) (q := 85) dX12_repeat_82 (by decide) rfl (fun h12 => ?_) (fun h12 => ?_)
        · refine mw_aload_n cx (q := 110) 1 rfl rfl dX12_repeat_109 rfl ?_
          refine mw_iload_n cx (q := 111) 2 rfl rfl dX12_repeat_110 rfl ?_
          refine mw_iload_n cx (q := 112) 0 rfl rfl dX12_repeat_111 rfl ?_
          refine mw_bnd (fun r13 er13 => ?_)
          refine mw_callV cx (q := 115) (d := 0) (As := [.int p1, .int v1]) (z := fvc (uW M 12 (M 12)) 12 r13) (st := []) (st1 := []) (M' := uW M 12 r13) (by rw [er13]; exact mc_X12_valueNext l D ta ad (uW M 12 (M 12)) p1 v1 hp1) cv_X12_323 rfl rfl rfl vi_12_0 ⟨Nat.le_of_ble_eq_true rfl, Nat.le_of_ble_eq_true rfl⟩ ⟨Nat.le_refl _, Nat.le_refl _⟩ (by simp [Value.category]) rfl rfl (by exact uW_uW _ _ _ _) dX12_repeat_112 rfl ?_
          exact mw_vret cx hr rfl dX12_repeat_115
        · refine mw_aload_n cx (q := 86) 1 rfl rfl dX12_repeat_85 rfl ?_
          refine mw_get cx (q := 89) (v := .ref (ad 12 37 0)) gf_X12_116 rfl rfl vi_12_0 dX12_repeat_86 rfl ?_
          refine mw_iload_n cx (q := 90) 2 rfl rfl dX12_repeat_89 rfl ?_
          refine mw_dup2 cx (q := 91) dX12_repeat_90 rfl rfl rfl ?_
          refine mw_iald cx (q := 92) (w := ((M 12) 37 0 p1)) rfl (fun _ => rfl) vi_12_37 hp1 dX12_repeat_91 rfl ?_
          refine mw_iconst cx (q := 93) (v := 1) dX12_repeat_92 rfl rfl ?_
          refine mw_iadd cx (q := 94) dX12_repeat_93 rfl ?_
          refine mw_iastC cx (q := 95) (fun _ => rfl) (by decide) vi_12_37 hp1 (by decide) dX12_repeat_94 rfl (fun m14 em14 => ?_)
          have ok15 : OkT (M 12) m14 := (by rw [em14]; exact okT_putA ok0 (by decide))
          refine mw_aload_n cx (q := 96) 1 rfl rfl dX12_repeat_95 rfl ?_
          refine mw_iload_n cx (q := 97) 2 rfl rfl dX12_repeat_96 rfl ?_
          refine mw_aload_n cx (q := 98) 1 rfl rfl dX12_repeat_97 rfl ?_
          refine mw_get cx (q := 101) (v := .ref (ad 12 35 0)) gf_X12_110 rfl rfl vi_12_0 dX12_repeat_98 rfl ?_
          refine mw_iload_n cx (q := 102) 2 rfl rfl dX12_repeat_101 rfl ?_
          refine mw_iald cx (q := 103) (w := ((M 12) 35 0 p1)) (by rw [em14]; rfl) (fun _ => rfl) vi_12_35 hp1 dX12_repeat_102 rfl ?_
          refine mw_bnd (fun r16 er16 => ?_)
          refine mw_callV cx (q := 106) (d := 0) (As := [.int p1, .int ((M 12) 35 0 p1)]) (z := fvc (uW M 12 m14) 12 r16) (st := []) (st1 := []) (M' := uW M 12 r16) (by rw [er16]; exact mc_X12_valueNext l D ta ad (uW M 12 m14) p1 ((M 12) 35 0 p1) hp1) cv_X12_323 rfl rfl rfl vi_12_0 ⟨Nat.le_of_ble_eq_true rfl, Nat.le_of_ble_eq_true rfl⟩ ⟨Nat.le_refl _, Nat.le_refl _⟩ (by simp [Value.category]) rfl rfl (by exact uW_uW _ _ _ _) dX12_repeat_103 rfl ?_
          refine mw_goto cx (tgt := 115) dX12_repeat_106 (by decide) ?_
          exact mw_vret cx hr rfl dX12_repeat_115
      · refine mw_aload_n cx (q := 61) 1 rfl rfl dX12_repeat_60 rfl ?_
        refine mw_get cx (q := 64) (v := .int ((M 12) 0 0 62)) gf_X12_232 rfl rfl vi_12_0 dX12_repeat_61 rfl ?_
        refine mw_if_ne cx (tgt := 80) (q := 67) dX12_repeat_64 (by decide) rfl (fun h17 => ?_) (fun h17 => ?_)
        · refine mw_iload_n cx (q := 81) 0 rfl rfl dX12_repeat_80 rfl ?_
          refine mw_iconst cx (q := 82) (v := (-1)) dX12_repeat_81 rfl rfl ?_
          refine mw_icmp_ne cx (tgt := 109) (q := 85) dX12_repeat_82 (by decide) rfl (fun h18 => ?_) (fun h18 => ?_)
          · refine mw_aload_n cx (q := 110) 1 rfl rfl dX12_repeat_109 rfl ?_
            refine mw_iload_n cx (q := 111) 2 rfl rfl dX12_repeat_110 rfl ?_
            refine mw_iload_n cx (q := 112) 0 rfl rfl dX12_repeat_111 rfl ?_
            refine mw_bnd (fun r19 er19 => ?_)
            refine mw_callV cx (q := 115) (d := 0) (As := [.int p1, .int v1]) (z := fvc (uW M 12 (M 12)) 12 r19) (st := []) (st1 := []) (M' := uW M 12 r19) (by rw [er19]; exact mc_X12_valueNext l D ta ad (uW M 12 (M 12)) p1 v1 hp1) cv_X12_323 rfl rfl rfl vi_12_0 ⟨Nat.le_of_ble_eq_true rfl, Nat.le_of_ble_eq_true rfl⟩ ⟨Nat.le_refl _, Nat.le_refl _⟩ (by simp [Value.category]) rfl rfl (by exact uW_uW _ _ _ _) dX12_repeat_112 rfl ?_
            exact mw_vret cx hr rfl dX12_repeat_115
          · refine mw_aload_n cx (q := 86) 1 rfl rfl dX12_repeat_85 rfl ?_
            refine mw_get cx (q := 89) (v := .ref (ad 12 37 0)) gf_X12_116 rfl rfl vi_12_0 dX12_repeat_86 rfl ?_
            refine mw_iload_n cx (q := 90) 2 rfl rfl dX12_repeat_89 rfl ?_
            refine mw_dup2 cx (q := 91) dX12_repeat_90 rfl rfl rfl ?_
            refine mw_iald cx (q := 92) (w := ((M 12) 37 0 p1)) rfl (fun _ => rfl) vi_12_37 hp1 dX12_repeat_91 rfl ?_
            refine mw_iconst cx (q := 93) (v := 1) dX12_repeat_92 rfl rfl ?_
            refine mw_iadd cx (q := 94) dX12_repeat_93 rfl ?_
            refine mw_iastC cx (q := 95) (fun _ => rfl) (by decide) vi_12_37 hp1 (by decide) dX12_repeat_94 rfl (fun m20 em20 => ?_)
            have ok21 : OkT (M 12) m20 := (by rw [em20]; exact okT_putA ok0 (by decide))
            refine mw_aload_n cx (q := 96) 1 rfl rfl dX12_repeat_95 rfl ?_
            refine mw_iload_n cx (q := 97) 2 rfl rfl dX12_repeat_96 rfl ?_
            refine mw_aload_n cx (q := 98) 1 rfl rfl dX12_repeat_97 rfl ?_
            refine mw_get cx (q := 101) (v := .ref (ad 12 35 0)) gf_X12_110 rfl rfl vi_12_0 dX12_repeat_98 rfl ?_
            refine mw_iload_n cx (q := 102) 2 rfl rfl dX12_repeat_101 rfl ?_
            refine mw_iald cx (q := 103) (w := ((M 12) 35 0 p1)) (by rw [em20]; rfl) (fun _ => rfl) vi_12_35 hp1 dX12_repeat_102 rfl ?_
            refine mw_bnd (fun r22 er22 => ?_)
            refine mw_callV cx (q := 106) (d := 0) (As := [.int p1, .int ((M 12) 35 0 p1)]) (z := fvc (uW M 12 m20) 12 r22) (st := []) (st1 := []) (M' := uW M 12 r22) (by rw [er22]; exact mc_X12_valueNext l D ta ad (uW M 12 m20) p1 ((M 12) 35 0 p1) hp1) cv_X12_323 rfl rfl rfl vi_12_0 ⟨Nat.le_of_ble_eq_true rfl, Nat.le_of_ble_eq_true rfl⟩ ⟨Nat.le_refl _, Nat.le_refl _⟩ (by simp [Value.category]) rfl rfl (by exact uW_uW _ _ _ _) dX12_repeat_103 rfl ?_
            refine mw_goto cx (tgt := 115) dX12_repeat_106 (by decide) ?_
            exact mw_vret cx hr rfl dX12_repeat_115
        · refine mw_aload_n cx (q := 68) 1 rfl rfl dX12_repeat_67 rfl ?_
          refine mw_aload_n cx (q := 69) 1 rfl rfl dX12_repeat_68 rfl ?_
          refine mw_get cx (q := 72) (v := .ref (ad 12 37 0)) gf_X12_116 rfl rfl vi_12_0 dX12_repeat_69 rfl ?_
          refine mw_iload_n cx (q := 73) 2 rfl rfl dX12_repeat_72 rfl ?_
          refine mw_iald cx (q := 74) (w := ((M 12) 37 0 p1)) rfl (fun _ => rfl) vi_12_37 hp1 dX12_repeat_73 rfl ?_
          refine mw_bnd (fun r23 er23 => ?_)
          refine mw_callV cx (q := 77) (d := 0) (As := [.int ((M 12) 37 0 p1)]) (z := fvc (uW M 12 (M 12)) 12 r23) (st := []) (st1 := []) (M' := uW M 12 r23) (by rw [er23]; exact mc_X12_finish l D ta ad (uW M 12 (M 12)) ((M 12) 37 0 p1)) cv_X12_330 rfl rfl rfl vi_12_0 ⟨Nat.le_of_ble_eq_true rfl, Nat.le_of_ble_eq_true rfl⟩ ⟨Nat.le_refl _, Nat.le_refl _⟩ (by simp [Value.category]) rfl rfl (by exact uW_uW _ _ _ _) dX12_repeat_74 rfl ?_
          refine mw_goto cx (tgt := 115) dX12_repeat_77 (by decide) ?_
          exact mw_vret cx hr rfl dX12_repeat_115
  · refine mw_icmp_ne cx (tgt := 19) (q := 10) dX12_repeat_7 (by decide) rfl (fun h3 => ?_) (fun h3 => ?_)
    · refine mw_aload_n cx (q := 20) 0 rfl rfl dX12_repeat_19 rfl ?_
      refine mw_aload_n cx (q := 21) 0 rfl rfl dX12_repeat_20 rfl ?_
      refine mw_get cx (q := 24) (v := .ref (ad 12 31 0)) gf_X12_98 rfl rfl vi_12_0 dX12_repeat_21 rfl ?_
      refine mw_iload_n cx (q := 25) 1 rfl rfl dX12_repeat_24 rfl ?_
      refine mw_iald cx (q := 26) (w := ((M 12) 31 0 p1)) rfl (fun _ => rfl) vi_12_31 hp1 dX12_repeat_25 rfl ?_
      refine mw_aload_n cx (q := 27) 0 rfl rfl dX12_repeat_26 rfl ?_
      refine mw_get cx (q := 30) (v := .ref (ad 12 34 0)) gf_X12_107 rfl rfl vi_12_0 dX12_repeat_27 rfl ?_
      refine mw_iload_n cx (q := 31) 1 rfl rfl dX12_repeat_30 rfl ?_
      refine mw_iald cx (q := 32) (w := ((M 12) 34 0 p1)) rfl (fun _ => rfl) vi_12_34 hp1 dX12_repeat_31 rfl ?_
      refine mw_bnd (fun r4 er4 => ?_)
      refine mw_callV cx (q := 35) (d := 3) (As := [.int ((M 12) 31 0 p1), .int ((M 12) 34 0 p1)]) (z := fip (uW M 12 (M 12)) r4) (st := []) (st1 := [.int r4]) (M' := (uW M 12 (M 12))) (by rw [er4]; exact mc_X12_following l D ta ad (uW M 12 (M 12)) ((M 12) 31 0 p1) ((M 12) 34 0 p1) (ok0.1) (ok0.1.pS _ hp1) hT (hN.resolve_left h3)) cv_X12_201 rfl rfl rfl vi_12_0 ⟨Nat.le_of_ble_eq_true rfl, Nat.le_of_ble_eq_true rfl⟩ ⟨Nat.le_refl _, Nat.le_refl _⟩ (by simp [Value.category]) rfl rfl rfl dX12_repeat_32 rfl ?_
      have qr40 : Nx12 (M 12) ((M 12) 31 0 p1) r4 := (by rw [er4]; exact following_n (ok0.1) (ok0.1.pS _ hp1) hT (hN.resolve_left h3))
      exact hK2 r4
    · refine mw_aload_n cx (q := 11) 0 rfl rfl dX12_repeat_10 rfl ?_
      refine mw_get cx (q := 14) (v := .ref (ad 12 35 0)) gf_X12_110 rfl rfl vi_12_0 dX12_repeat_11 rfl ?_
      refine mw_iload_n cx (q := 15) 1 rfl rfl dX12_repeat_14 rfl ?_
      refine mw_iald cx (q := 16) (w := ((M 12) 35 0 p1)) rfl (fun _ => rfl) vi_12_35 hp1 dX12_repeat_15 rfl ?_
      refine mw_goto cx (tgt := 35) dX12_repeat_16 (by decide) ?_
      exact hK2 ((M 12) 35 0 p1)
