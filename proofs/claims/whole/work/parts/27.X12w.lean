theorem okT_f12_finish {m0 m : Cm} (h : OkT m0 m) (a : Int32) (hd : 1 ≤ (m 0 0 45).toInt) : OkT m0 (f12_finish m a) := by
  have h0 := h.1.d0; have h1 := h.1.d1
  unfold f12_finish
  refine bnd_I (P := OkT m0) (fun m1 e1 => bnd_I (P := OkT m0) (fun m2 e2 => ?_))
  rw [e2, e1]
  refine okT_s45 (okT_put0 h (by decide)) ?_
  rw [i32subn (by rw [t32_1]; omega) (by rw [t32_1]; omega), t32_1]; omega
theorem okT_f12_bind {m0 m : Cm} (h : OkT m0 m) (a b : Int32) (ht : (m 0 0 49).toInt < 100) : OkT m0 (f12_bind m a b) := by
  have h0 := h.1.t0
  unfold f12_bind
  refine bnd_I (P := OkT m0) (fun m1 e1 => bnd_I (P := OkT m0) (fun m2 e2 => bnd_I (P := OkT m0) (fun m3 e3 => ?_)))
  rw [e3, e2, e1]
  refine okT_s49 (okT_putA (okT_putA h (by decide)) (by decide)) ?_
  rw [inc_t h0 (by omega)]; omega
def f12_reckon (m : Cm) (p1 : Int32) : Cm := if (m 33 0 p1) = 0 then bnd (f12_valueNext m p1 (m 35 0 p1)) (fun (r21 : Cm) => r21) else if (m 33 0 p1) = 1 then bnd (u3 m 36 0 p1 (m 0 0 62)) (fun (m17 : Cm) => bnd (f12_following m17 (m 31 0 p1) (m 34 0 p1)) (fun (r19 : Int32) => bnd (f12_valueNext m17 p1 r19) (fun (r20 : Cm) => r20))) else if (m 32 0 p1) = 5 then if (m 0 0 62) = 0 then bnd (u3 m 0 0 63 5) (fun (m7 : Cm) => m7) else bnd (f12_joined (m 32 0 p1) (m 36 0 p1) (m 0 0 62)) (fun (r5 : Int32) => bnd (f12_finish m r5) (fun (r6 : Cm) => r6)) else if (m 32 0 p1) = 6 then if (m 0 0 62) = 0 then bnd (u3 m 0 0 63 5) (fun (m15 : Cm) => m15) else bnd (f12_joined (m 32 0 p1) (m 36 0 p1) (m 0 0 62)) (fun (r13 : Int32) => bnd (f12_finish m r13) (fun (r14 : Cm) => r14)) else bnd (f12_joined (m 32 0 p1) (m 36 0 p1) (m 0 0 62)) (fun (r10 : Int32) => bnd (f12_finish m r10) (fun (r11 : Cm) => r11))
set_option maxHeartbeats 4000000 in
set_option maxRecDepth 100000 in
theorem mc_X12_reckon (l : Launch) (D : va_G) (ta : wTa) (ad : wAd) (M : Wm) (p1 : Int32) (hok : Ok12 (M 12)) (hp1 : vp_in p1 32) (hT : Tx12 (M 12) ((M 12) 31 0 p1)) (hn : ((M 12) 33 0 p1) = 1 → Ix12 (M 12) ((M 12) 31 0 p1) ((M 12) 34 0 p1)) : MC l D ta ad yX12_reckon cX12_reckon 2 none 4 [.ref (ad 12 0 0), .int p1] M (fvc M 12 (f12_reckon (M 12) p1)) := by
  refine MC.of (fvc M 12) (f12_reckon (M 12) p1) rfl (by decide) (Nat.le_of_ble_eq_true rfl) (fun p e s m args below meth c cx hr => ?_)
  unfold f12_reckon
  refine mw_sub (lv' := [(0, .ref (ad 12 0 0)), (1, .int p1)]) [0, 1] rfl ?_
  refine mw_eqM (uW_self M 12) ?_
  have ok0 : OkT (M 12) (M 12) := ⟨hok, rfl, rfl⟩
  refine mw_aload_n cx (q := 1) 0 rfl rfl dX12_reckon_0 rfl ?_
  refine mw_get cx (q := 4) (v := .ref (ad 12 33 0)) gf_X12_104 rfl rfl vi_12_0 dX12_reckon_1 rfl ?_
  refine mw_iload_n cx (q := 5) 1 rfl rfl dX12_reckon_4 rfl ?_
  refine mw_iald cx (q := 6) (w := ((M 12) 33 0 p1)) rfl (fun _ => rfl) vi_12_33 hp1 dX12_reckon_5 rfl ?_
  refine mw_if_ne cx (tgt := 23) (q := 9) dX12_reckon_6 (by decide) rfl (fun h1 => ?_) (fun h1 => ?_)
  · refine mw_aload_n cx (q := 24) 0 rfl rfl dX12_reckon_23 rfl ?_
    refine mw_get cx (q := 27) (v := .ref (ad 12 33 0)) gf_X12_104 rfl rfl vi_12_0 dX12_reckon_24 rfl ?_
    refine mw_iload_n cx (q := 28) 1 rfl rfl dX12_reckon_27 rfl ?_
    refine mw_iald cx (q := 29) (w := ((M 12) 33 0 p1)) rfl (fun _ => rfl) vi_12_33 hp1 dX12_reckon_28 rfl ?_
    refine mw_iconst cx (q := 30) (v := 1) dX12_reckon_29 rfl rfl ?_
    refine mw_icmp_ne cx (tgt := 67) (q := 33) dX12_reckon_30 (by decide) rfl (fun h2 => ?_) (fun h2 => ?_)
    · refine mw_aload_n cx (q := 68) 0 rfl rfl dX12_reckon_67 rfl ?_
      refine mw_get cx (q := 71) (v := .ref (ad 12 32 0)) gf_X12_101 rfl rfl vi_12_0 dX12_reckon_68 rfl ?_
      refine mw_iload_n cx (q := 72) 1 rfl rfl dX12_reckon_71 rfl ?_
      refine mw_iald cx (q := 73) (w := ((M 12) 32 0 p1)) rfl (fun _ => rfl) vi_12_32 hp1 dX12_reckon_72 rfl ?_
      refine mw_iconst cx (q := 74) (v := 5) dX12_reckon_73 rfl rfl ?_
      refine mw_icmp_eq cx (tgt := 88) (q := 77) dX12_reckon_74 (by decide) rfl (fun h3 => ?_) (fun h3 => ?_)
      · refine mw_aload_n cx (q := 89) 0 rfl rfl dX12_reckon_88 rfl ?_
        refine mw_get cx (q := 92) (v := .int ((M 12) 0 0 62)) gf_X12_232 rfl rfl vi_12_0 dX12_reckon_89 rfl ?_
        refine mw_if_ne cx (tgt := 103) (q := 95) dX12_reckon_92 (by decide) rfl (fun h4 => ?_) (fun h4 => ?_)
        · refine mw_aload_n cx (q := 104) 0 rfl rfl dX12_reckon_103 rfl ?_
          refine mw_aload_n cx (q := 105) 0 rfl rfl dX12_reckon_104 rfl ?_
          refine mw_get cx (q := 108) (v := .ref (ad 12 32 0)) gf_X12_101 rfl rfl vi_12_0 dX12_reckon_105 rfl ?_
          refine mw_iload_n cx (q := 109) 1 rfl rfl dX12_reckon_108 rfl ?_
          refine mw_iald cx (q := 110) (w := ((M 12) 32 0 p1)) rfl (fun _ => rfl) vi_12_32 hp1 dX12_reckon_109 rfl ?_
          refine mw_aload_n cx (q := 111) 0 rfl rfl dX12_reckon_110 rfl ?_
          refine mw_get cx (q := 114) (v := .ref (ad 12 36 0)) gf_X12_113 rfl rfl vi_12_0 dX12_reckon_111 rfl ?_
          refine mw_iload_n cx (q := 115) 1 rfl rfl dX12_reckon_114 rfl ?_
          refine mw_iald cx (q := 116) (w := ((M 12) 36 0 p1)) rfl (fun _ => rfl) vi_12_36 hp1 dX12_reckon_115 rfl ?_
          refine mw_aload_n cx (q := 117) 0 rfl rfl dX12_reckon_116 rfl ?_
          refine mw_get cx (q := 120) (v := .int ((M 12) 0 0 62)) gf_X12_232 rfl rfl vi_12_0 dX12_reckon_117 rfl ?_
          refine mw_bnd (fun r5 er5 => ?_)
          refine mw_callS cx (q := 123) (d := 0) (As := [.int ((M 12) 32 0 p1), .int ((M 12) 36 0 p1), .int ((M 12) 0 0 62)]) (z := fip (uW M 12 (M 12)) r5) (st := [.ref (ad 12 0 0)]) (st1 := [.int r5, .ref (ad 12 0 0)]) (M' := (uW M 12 (M 12))) (by rw [er5]; exact mc_X12_joined l D ta ad (uW M 12 (M 12)) ((M 12) 32 0 p1) ((M 12) 36 0 p1) ((M 12) 0 0 62) (by intro hz; first | assumption | (rcases hz with hz | hz <;> (first | exact absurd hz (by assumption) | assumption)))) cv_X12_326 ⟨Nat.le_of_ble_eq_true rfl, Nat.le_of_ble_eq_true rfl⟩ ⟨Nat.le_refl _, Nat.le_refl _⟩ (by simp [Value.category]) rfl rfl rfl dX12_reckon_120 rfl ?_
          refine mw_bnd (fun r6 er6 => ?_)
          refine mw_callV cx (q := 126) (d := 0) (As := [.int r5]) (z := fvc (uW M 12 (M 12)) 12 r6) (st := []) (st1 := []) (M' := uW M 12 r6) (by rw [er6]; exact mc_X12_finish l D ta ad (uW M 12 (M 12)) r5) cv_X12_330 rfl rfl rfl vi_12_0 ⟨Nat.le_of_ble_eq_true rfl, Nat.le_of_ble_eq_true rfl⟩ ⟨Nat.le_refl _, Nat.le_refl _⟩ (by simp [Value.category]) rfl rfl (by exact uW_uW _ _ _ _) dX12_reckon_123 rfl ?_
          exact mw_vret cx hr rfl dX12_reckon_126
        · refine mw_aload_n cx (q := 96) 0 rfl rfl dX12_reckon_95 rfl ?_
          refine mw_iconst cx (q := 97) (v := 5) dX12_reckon_96 rfl rfl ?_
          refine mw_putC cx (q := 100) 63 gf_X12_257 pf_X12_63 (int_fit _) rfl (Nat.le_of_ble_eq_true rfl) rfl vi_12_0 (by decide) dX12_reckon_97 rfl (fun m7 em7 => ?_)
          have ok8 : OkT (M 12) m7 := (by rw [em7]; exact okT_put0 ok0 (by decide))
          refine mw_goto cx (tgt := 126) dX12_reckon_100 (by decide) ?_
          exact mw_vret cx hr rfl dX12_reckon_126
      · refine mw_aload_n cx (q := 78) 0 rfl rfl dX12_reckon_77 rfl ?_
        refine mw_get cx (q := 81) (v := .ref (ad 12 32 0)) gf_X12_101 rfl rfl vi_12_0 dX12_reckon_78 rfl ?_
        refine mw_iload_n cx (q := 82) 1 rfl rfl dX12_reckon_81 rfl ?_
        refine mw_iald cx (q := 83) (w := ((M 12) 32 0 p1)) rfl (fun _ => rfl) vi_12_32 hp1 dX12_reckon_82 rfl ?_
        refine mw_bipush cx (q := 85) (v := 6) dX12_reckon_83 rfl rfl ?_
        refine mw_icmp_ne cx (tgt := 103) (q := 88) dX12_reckon_85 (by decide) rfl (fun h9 => ?_) (fun h9 => ?_)
        · refine mw_aload_n cx (q := 104) 0 rfl rfl dX12_reckon_103 rfl ?_
          refine mw_aload_n cx (q := 105) 0 rfl rfl dX12_reckon_104 rfl ?_
          refine mw_get cx (q := 108) (v := .ref (ad 12 32 0)) gf_X12_101 rfl rfl vi_12_0 dX12_reckon_105 rfl ?_
          refine mw_iload_n cx (q := 109) 1 rfl rfl dX12_reckon_108 rfl ?_
          refine mw_iald cx (q := 110) (w := ((M 12) 32 0 p1)) rfl (fun _ => rfl) vi_12_32 hp1 dX12_reckon_109 rfl ?_
          refine mw_aload_n cx (q := 111) 0 rfl rfl dX12_reckon_110 rfl ?_
          refine mw_get cx (q := 114) (v := .ref (ad 12 36 0)) gf_X12_113 rfl rfl vi_12_0 dX12_reckon_111 rfl ?_
          refine mw_iload_n cx (q := 115) 1 rfl rfl dX12_reckon_114 rfl ?_
          refine mw_iald cx (q := 116) (w := ((M 12) 36 0 p1)) rfl (fun _ => rfl) vi_12_36 hp1 dX12_reckon_115 rfl ?_
          refine mw_aload_n cx (q := 117) 0 rfl rfl dX12_reckon_116 rfl ?_
          refine mw_get cx (q := 120) (v := .int ((M 12) 0 0 62)) gf_X12_232 rfl rfl vi_12_0 dX12_reckon_117 rfl ?_
          refine mw_bnd (fun r10 er10 => ?_)
          refine mw_callS cx (q := 123) (d := 0) (As := [.int ((M 12) 32 0 p1), .int ((M 12) 36 0 p1), .int ((M 12) 0 0 62)]) (z := fip (uW M 12 (M 12)) r10) (st := [.ref (ad 12 0 0)]) (st1 := [.int r10, .ref (ad 12 0 0)]) (M' := (uW M 12 (M 12))) (by rw [er10]; exact mc_X12_joined l D ta ad (uW M 12 (M 12)) ((M 12) 32 0 p1) ((M 12) 36 0 p1) ((M 12) 0 0 62) (by intro hz; first | assumption | (rcases hz with hz | hz <;> (first | exact absurd hz (by assumption) | assumption)))) cv_X12_326 ⟨Nat.le_of_ble_eq_true rfl, Nat.le_of_ble_eq_true rfl⟩ ⟨Nat.le_refl _, Nat.le_refl _⟩ (by simp [Value.category]) rfl rfl rfl dX12_reckon_120 rfl ?_
          refine mw_bnd (fun r11 er11 => ?_)
          refine mw_callV cx (q := 126) (d := 0) (As := [.int r10]) (z := fvc (uW M 12 (M 12)) 12 r11) (st := []) (st1 := []) (M' := uW M 12 r11) (by rw [er11]; exact mc_X12_finish l D ta ad (uW M 12 (M 12)) r10) cv_X12_330 rfl rfl rfl vi_12_0 ⟨Nat.le_of_ble_eq_true rfl, Nat.le_of_ble_eq_true rfl⟩ ⟨Nat.le_refl _, Nat.le_refl _⟩ (by simp [Value.category]) rfl rfl (by exact uW_uW _ _ _ _) dX12_reckon_123 rfl ?_
          exact mw_vret cx hr rfl dX12_reckon_126
        · refine mw_aload_n cx (q := 89) 0 rfl rfl dX12_reckon_88 rfl ?_
          refine mw_get cx (q := 92) (v := .int ((M 12) 0 0 62)) gf_X12_232 rfl rfl vi_12_0 dX12_reckon_89 rfl ?_
          refine mw_if_ne cx (tgt := 103) (q := 95) dX12_reckon_92 (by decide) rfl (fun h12 => ?_) (fun h12 => ?_)
          · refine mw_aload_n cx (q := 104) 0 rfl rfl dX12_reckon_103 rfl ?_
            refine mw_aload_n cx (q := 105) 0 rfl rfl dX12_reckon_104 rfl ?_
            refine mw_get cx (q := 108) (v := .ref (ad 12 32 0)) gf_X12_101 rfl rfl vi_12_0 dX12_reckon_105 rfl ?_
            refine mw_iload_n cx (q := 109) 1 rfl rfl dX12_reckon_108 rfl ?_
            refine mw_iald cx (q := 110) (w := ((M 12) 32 0 p1)) rfl (fun _ => rfl) vi_12_32 hp1 dX12_reckon_109 rfl ?_
            refine mw_aload_n cx (q := 111) 0 rfl rfl dX12_reckon_110 rfl ?_
            refine mw_get cx (q := 114) (v := .ref (ad 12 36 0)) gf_X12_113 rfl rfl vi_12_0 dX12_reckon_111 rfl ?_
            refine mw_iload_n cx (q := 115) 1 rfl rfl dX12_reckon_114 rfl ?_
            refine mw_iald cx (q := 116) (w := ((M 12) 36 0 p1)) rfl (fun _ => rfl) vi_12_36 hp1 dX12_reckon_115 rfl ?_
            refine mw_aload_n cx (q := 117) 0 rfl rfl dX12_reckon_116 rfl ?_
            refine mw_get cx (q := 120) (v := .int ((M 12) 0 0 62)) gf_X12_232 rfl rfl vi_12_0 dX12_reckon_117 rfl ?_
            refine mw_bnd (fun r13 er13 => ?_)
            refine mw_callS cx (q := 123) (d := 0) (As := [.int ((M 12) 32 0 p1), .int ((M 12) 36 0 p1), .int ((M 12) 0 0 62)]) (z := fip (uW M 12 (M 12)) r13) (st := [.ref (ad 12 0 0)]) (st1 := [.int r13, .ref (ad 12 0 0)]) (M' := (uW M 12 (M 12))) (by rw [er13]; exact mc_X12_joined l D ta ad (uW M 12 (M 12)) ((M 12) 32 0 p1) ((M 12) 36 0 p1) ((M 12) 0 0 62) (by intro hz; first | assumption | (rcases hz with hz | hz <;> (first | exact absurd hz (by assumption) | assumption)))) cv_X12_326 ⟨Nat.le_of_ble_eq_true rfl, Nat.le_of_ble_eq_true rfl⟩ ⟨Nat.le_refl _, Nat.le_refl _⟩ (by simp [Value.category]) rfl rfl rfl dX12_reckon_120 rfl ?_
            refine mw_bnd (fun r14 er14 => ?_)
            refine mw_callV cx (q := 126) (d := 0) (As := [.int r13]) (z := fvc (uW M 12 (M 12)) 12 r14) (st := []) (st1 := []) (M' := uW M 12 r14) (by rw [er14]; exact mc_X12_finish l D ta ad (uW M 12 (M 12)) r13) cv_X12_330 rfl rfl rfl vi_12_0 ⟨Nat.le_of_ble_eq_true rfl, Nat.le_of_ble_eq_true rfl⟩ ⟨Nat.le_refl _, Nat.le_refl _⟩ (by simp [Value.category]) rfl rfl (by exact uW_uW _ _ _ _) dX12_reckon_123 rfl ?_
            exact mw_vret cx hr rfl dX12_reckon_126
          · refine mw_aload_n cx (q := 96) 0 rfl rfl dX12_reckon_95 rfl ?_
            refine mw_iconst cx (q := 97) (v := 5) dX12_reckon_96 rfl rfl ?_
            refine mw_putC cx (q := 100) 63 gf_X12_257 pf_X12_63 (int_fit _) rfl (Nat.le_of_ble_eq_true rfl) rfl vi_12_0 (by decide) dX12_reckon_97 rfl (fun m15 em15 => ?_)
            have ok16 : OkT (M 12) m15 := (by rw [em15]; exact okT_put0 ok0 (by decide))
            refine mw_goto cx (tgt := 126) dX12_reckon_100 (by decide) ?_
            exact mw_vret cx hr rfl dX12_reckon_126
    · refine mw_aload_n cx (q := 34) 0 rfl rfl dX12_reckon_33 rfl ?_
      refine mw_get cx (q := 37) (v := .ref (ad 12 36 0)) gf_X12_113 rfl rfl vi_12_0 dX12_reckon_34 rfl ?_
      refine mw_iload_n cx (q := 38) 1 rfl rfl dX12_reckon_37 rfl ?_
      refine mw_aload_n cx (q := 39) 0 rfl rfl dX12_reckon_38 rfl ?_
      refine mw_get cx (q := 42) (v := .int ((M 12) 0 0 62)) gf_X12_232 rfl rfl vi_12_0 dX12_reckon_39 rfl ?_
      refine mw_iastC cx (q := 43) (fun _ => rfl) (by decide) vi_12_36 hp1 (by decide) dX12_reckon_42 rfl (fun m17 em17 => ?_)
      have ok18 : OkT (M 12) m17 := (by rw [em17]; exact okT_putA ok0 (by decide))
      refine mw_aload_n cx (q := 44) 0 rfl rfl dX12_reckon_43 rfl ?_
      refine mw_iload_n cx (q := 45) 1 rfl rfl dX12_reckon_44 rfl ?_
      refine mw_aload_n cx (q := 46) 0 rfl rfl dX12_reckon_45 rfl ?_
      refine mw_aload_n cx (q := 47) 0 rfl rfl dX12_reckon_46 rfl ?_
      refine mw_get cx (q := 50) (v := .ref (ad 12 31 0)) gf_X12_98 rfl rfl vi_12_0 dX12_reckon_47 rfl ?_
      refine mw_iload_n cx (q := 51) 1 rfl rfl dX12_reckon_50 rfl ?_
      refine mw_iald cx (q := 52) (w := ((M 12) 31 0 p1)) (by rw [em17]; rfl) (fun _ => rfl) vi_12_31 hp1 dX12_reckon_51 rfl ?_
      refine mw_aload_n cx (q := 53) 0 rfl rfl dX12_reckon_52 rfl ?_
      refine mw_get cx (q := 56) (v := .ref (ad 12 34 0)) gf_X12_107 rfl rfl vi_12_0 dX12_reckon_53 rfl ?_
      refine mw_iload_n cx (q := 57) 1 rfl rfl dX12_reckon_56 rfl ?_
      refine mw_iald cx (q := 58) (w := ((M 12) 34 0 p1)) (by rw [em17]; rfl) (fun _ => rfl) vi_12_34 hp1 dX12_reckon_57 rfl ?_
      refine mw_bnd (fun r19 er19 => ?_)
      refine mw_callV cx (q := 61) (d := 3) (As := [.int ((M 12) 31 0 p1), .int ((M 12) 34 0 p1)]) (z := fip (uW M 12 m17) r19) (st := [.int p1, .ref (ad 12 0 0)]) (st1 := [.int r19, .int p1, .ref (ad 12 0 0)]) (M' := (uW M 12 m17)) (by rw [er19]; exact mc_X12_following l D ta ad (uW M 12 m17) ((M 12) 31 0 p1) ((M 12) 34 0 p1) (by rw [em17]; exact hok) (ok18.1.pS _ hp1) (by rw [em17]; exact hT) (by (try simp only [vp_in_iff, i32lt, i32le, i32eq, i32add, i32sub, i32mul, i32neg, t32_0, t32_1, t32_31, t32_32, t32_33, t32_34] at hp1 hT hn ok0 h1 h2 ok18 hok ⊢); omega)) cv_X12_201 rfl rfl rfl vi_12_0 ⟨Nat.le_of_ble_eq_true rfl, Nat.le_of_ble_eq_true rfl⟩ ⟨Nat.le_refl _, Nat.le_refl _⟩ (by simp [Value.category]) rfl rfl rfl dX12_reckon_58 rfl ?_
      have qr190 : Nx12 m17 (m17 31 0 p1) r19 := (by rw [er19]; exact following_n (by rw [em17]; exact hok) (ok18.1.pS _ hp1) (by rw [em17]; exact hT) (by (try simp only [vp_in_iff, i32lt, i32le, i32eq, i32add, i32sub, i32mul, i32neg, t32_0, t32_1, t32_31, t32_32, t32_33, t32_34] at hp1 hT hn ok0 h1 h2 ok18 hok ⊢); omega))
      refine mw_bnd (fun r20 er20 => ?_)
      refine mw_callV cx (q := 64) (d := 0) (As := [.int p1, .int r19]) (z := fvc (uW M 12 m17) 12 r20) (st := []) (st1 := []) (M' := uW M 12 r20) (by rw [er20]; exact mc_X12_valueNext l D ta ad (uW M 12 m17) p1 r19 hp1) cv_X12_323 rfl rfl rfl vi_12_0 ⟨Nat.le_of_ble_eq_true rfl, Nat.le_of_ble_eq_true rfl⟩ ⟨Nat.le_refl _, Nat.le_refl _⟩ (by simp [Value.category]) rfl rfl (by exact uW_uW _ _ _ _) dX12_reckon_61 rfl ?_
      refine mw_goto cx (tgt := 126) dX12_reckon_64 (by decide) ?_
      exact mw_vret cx hr rfl dX12_reckon_126
  · refine mw_aload_n cx (q := 10) 0 rfl rfl dX12_reckon_9 rfl ?_
    refine mw_iload_n cx (q := 11) 1 rfl rfl dX12_reckon_10 rfl ?_
    refine mw_aload_n cx (q := 12) 0 rfl rfl dX12_reckon_11 rfl ?_
    refine mw_get cx (q := 15) (v := .ref (ad 12 35 0)) gf_X12_110 rfl rfl vi_12_0 dX12_reckon_12 rfl ?_
    refine mw_iload_n cx (q := 16) 1 rfl rfl dX12_reckon_15 rfl ?_
    refine mw_iald cx (q := 17) (w := ((M 12) 35 0 p1)) rfl (fun _ => rfl) vi_12_35 hp1 dX12_reckon_16 rfl ?_
    refine mw_bnd (fun r21 er21 => ?_)
    refine mw_callV cx (q := 20) (d := 0) (As := [.int p1, .int ((M 12) 35 0 p1)]) (z := fvc (uW M 12 (M 12)) 12 r21) (st := []) (st1 := []) (M' := uW M 12 r21) (by rw [er21]; exact mc_X12_valueNext l D ta ad (uW M 12 (M 12)) p1 ((M 12) 35 0 p1) hp1) cv_X12_323 rfl rfl rfl vi_12_0 ⟨Nat.le_of_ble_eq_true rfl, Nat.le_of_ble_eq_true rfl⟩ ⟨Nat.le_refl _, Nat.le_refl _⟩ (by simp [Value.category]) rfl rfl (by exact uW_uW _ _ _ _) dX12_reckon_17 rfl ?_
    refine mw_goto cx (tgt := 126) dX12_reckon_20 (by decide) ?_
    exact mw_vret cx hr rfl dX12_reckon_126
def f12_choose (m : Cm) (p1 : Int32) : Cm := bnd ((m 32 0 p1)) (fun (v1 : Int32) => bnd (f12_following m (m 31 0 p1) (m 35 0 p1)) (fun (r2 : Int32) => if (m 33 0 p1) = 0 then bnd (f12_valueNext m p1 (m 35 0 p1)) (fun (r44 : Cm) => r44) else if v1 = 9 then jn (fun (v40 : Bool) => bnd (f12_finish m (b2i v40)) (fun (r43 : Cm) => r43)) (fun K41 => if (m 0 0 62) = 0 then K41 true else K41 false) else if (m 33 0 p1) = 2 then bnd (f12_finish m (m 0 0 62)) (fun (r6 : Cm) => r6) else if v1 = 10 then if (m 0 0 62) = 0 then bnd (f12_finish m (m 0 0 62)) (fun (r24 : Cm) => r24) else if v1 = 11 then if (m 0 0 62) = 0 then jn (fun (v33 : Int32) => bnd (f12_valueNext m p1 v33) (fun (r38 : Cm) => r38)) (fun K34 => if v1 = 12 then if (m 0 0 62) = 0 then bnd (f12_following m (m 31 0 p1) r2) (fun (r37 : Int32) => K34 r37) else K34 r2 else K34 r2) else bnd (f12_finish m (m 0 0 62)) (fun (r39 : Cm) => r39) else jn (fun (v26 : Int32) => bnd (f12_valueNext m p1 v26) (fun (r31 : Cm) => r31)) (fun K27 => if v1 = 12 then if (m 0 0 62) = 0 then bnd (f12_following m (m 31 0 p1) r2) (fun (r30 : Int32) => K27 r30) else K27 r2 else K27 r2) else if v1 = 11 then if (m 0 0 62) = 0 then jn (fun (v16 : Int32) => bnd (f12_valueNext m p1 v16) (fun (r21 : Cm) => r21)) (fun K17 => if v1 = 12 then if (m 0 0 62) = 0 then bnd (f12_following m (m 31 0 p1) r2) (fun (r20 : Int32) => K17 r20) else K17 r2 else K17 r2) else bnd (f12_finish m (m 0 0 62)) (fun (r22 : Cm) => r22) else jn (fun (v9 : Int32) => bnd (f12_valueNext m p1 v9) (fun (r14 : Cm) => r14)) (fun K10 => if v1 = 12 then if (m 0 0 62) = 0 then bnd (f12_following m (m 31 0 p1) r2) (fun (r13 : Int32) => K10 r13) else K10 r2 else K10 r2)))
set_option maxHeartbeats 4000000 in
set_option maxRecDepth 100000 in
theorem mc_X12_choose (l : Launch) (D : va_G) (ta : wTa) (ad : wAd) (M : Wm) (p1 : Int32) (hok : Ok12 (M 12)) (hp1 : vp_in p1 32) (hT : Tx12 (M 12) ((M 12) 31 0 p1)) (hF : Ix12 (M 12) ((M 12) 31 0 p1) ((M 12) 35 0 p1)) (hS : ((M 12) 32 0 p1) = 12 → ¬ f12_following (M 12) ((M 12) 31 0 p1) ((M 12) 35 0 p1) = (-1)) : MC l D ta ad yX12_choose cX12_choose 4 none 4 [.ref (ad 12 0 0), .int p1] M (fvc M 12 (f12_choose (M 12) p1)) := by
  refine MC.of (fvc M 12) (f12_choose (M 12) p1) rfl (by decide) (Nat.le_of_ble_eq_true rfl) (fun p e s m args below meth c cx hr => ?_)
  unfold f12_choose
  refine mw_sub (lv' := [(0, .ref (ad 12 0 0)), (1, .int p1)]) [0, 1] rfl ?_
  refine mw_eqM (uW_self M 12) ?_
  have ok0 : OkT (M 12) (M 12) := ⟨hok, rfl, rfl⟩
  refine mw_aload_n cx (q := 1) 0 rfl rfl dX12_choose_0 rfl ?_
  refine mw_get cx (q := 4) (v := .ref (ad 12 32 0)) gf_X12_101 rfl rfl vi_12_0 dX12_choose_1 rfl ?_
  refine mw_iload_n cx (q := 5) 1 rfl rfl dX12_choose_4 rfl ?_
  refine mw_iald cx (q := 6) (w := ((M 12) 32 0 p1)) rfl (fun _ => rfl) vi_12_32 hp1 dX12_choose_5 rfl ?_
  refine mw_bndT (fun v1 ev1 => ?_)
  refine mw_istore_n cx (q := 7) (lv' := [(2, .int v1), (0, .ref (ad 12 0 0)), (1, .int p1)]) rfl rfl (by decide) dX12_choose_6 rfl ?_
  refine mw_aload_n cx (q := 8) 1 rfl rfl dX12_choose_7 rfl ?_
  refine mw_aload_n cx (q := 9) 1 rfl rfl dX12_choose_8 rfl ?_
  refine mw_get cx (q := 12) (v := .ref (ad 12 31 0)) gf_X12_98 rfl rfl vi_12_0 dX12_choose_9 rfl ?_
  refine mw_iload_n cx (q := 13) 2 rfl rfl dX12_choose_12 rfl ?_
  refine mw_iald cx (q := 14) (w := ((M 12) 31 0 p1)) rfl (fun _ => rfl) vi_12_31 hp1 dX12_choose_13 rfl ?_
  refine mw_aload_n cx (q := 15) 1 rfl rfl dX12_choose_14 rfl ?_
  refine mw_get cx (q := 18) (v := .ref (ad 12 35 0)) gf_X12_110 rfl rfl vi_12_0 dX12_choose_15 rfl ?_
  refine mw_iload_n cx (q := 19) 2 rfl rfl dX12_choose_18 rfl ?_
  refine mw_iald cx (q := 20) (w := ((M 12) 35 0 p1)) rfl (fun _ => rfl) vi_12_35 hp1 dX12_choose_19 rfl ?_
  refine mw_bnd (fun r2 er2 => ?_)
  refine mw_callV cx (q := 23) (d := 3) (As := [.int ((M 12) 31 0 p1), .int ((M 12) 35 0 p1)]) (z := fip (uW M 12 (M 12)) r2) (st := []) (st1 := [.int r2]) (M' := (uW M 12 (M 12))) (by rw [er2]; exact mc_X12_following l D ta ad (uW M 12 (M 12)) ((M 12) 31 0 p1) ((M 12) 35 0 p1) hok (ok0.1.pS _ hp1) hT hF) cv_X12_201 rfl rfl rfl vi_12_0 ⟨Nat.le_of_ble_eq_true rfl, Nat.le_of_ble_eq_true rfl⟩ ⟨Nat.le_refl _, Nat.le_refl _⟩ (by simp [Value.category]) rfl rfl rfl dX12_choose_20 rfl ?_
  have qr20 : Nx12 (M 12) ((M 12) 31 0 p1) r2 := (by rw [er2]; exact following_n hok (ok0.1.pS _ hp1) hT hF)
  refine mw_istore_n cx (q := 24) (lv' := [(3, .int r2), (2, .int v1), (0, .ref (ad 12 0 0)), (1, .int p1)]) rfl rfl (by decide) dX12_choose_23 rfl ?_
  refine mw_aload_n cx (q := 25) 2 rfl rfl dX12_choose_24 rfl ?_
  refine mw_get cx (q := 28) (v := .ref (ad 12 33 0)) gf_X12_104 rfl rfl vi_12_0 dX12_choose_25 rfl ?_
  refine mw_iload_n cx (q := 29) 3 rfl rfl dX12_choose_28 rfl ?_
  refine mw_iald cx (q := 30) (w := ((M 12) 33 0 p1)) rfl (fun _ => rfl) vi_12_33 hp1 dX12_choose_29 rfl ?_
  refine mw_if_ne cx (tgt := 47) (q := 33) dX12_choose_30 (by decide) rfl (fun h3 => ?_) (fun h3 => ?_)
  · refine mw_iload_n cx (q := 48) 1 rfl rfl dX12_choose_47 rfl ?_
    refine mw_bipush cx (q := 50) (v := 9) dX12_choose_48 rfl rfl ?_
    refine mw_icmp_ne cx (tgt := 72) (q := 53) dX12_choose_50 (by decide) rfl (fun h4 => ?_) (fun h4 => ?_)
    · refine mw_aload_n cx (q := 73) 2 rfl rfl dX12_choose_72 rfl ?_
      refine mw_get cx (q := 76) (v := .ref (ad 12 33 0)) gf_X12_104 rfl rfl vi_12_0 dX12_choose_73 rfl ?_
      refine mw_iload_n cx (q := 77) 3 rfl rfl dX12_choose_76 rfl ?_
      refine mw_iald cx (q := 78) (w := ((M 12) 33 0 p1)) rfl (fun _ => rfl) vi_12_33 hp1 dX12_choose_77 rfl ?_
      refine mw_iconst cx (q := 79) (v := 2) dX12_choose_78 rfl rfl ?_
      refine mw_icmp_eq cx (tgt := 108) (q := 82) dX12_choose_79 (by decide) rfl (fun h5 => ?_) (fun h5 => ?_)
      · refine mw_aload_n cx (q := 109) 2 rfl rfl dX12_choose_108 rfl ?_
        refine mw_aload_n cx (q := 110) 2 rfl rfl dX12_choose_109 rfl ?_
        refine mw_get cx (q := 113) (v := .int ((M 12) 0 0 62)) gf_X12_232 rfl rfl vi_12_0 dX12_choose_110 rfl ?_
        refine mw_bnd (fun r6 er6 => ?_)
        refine mw_callV cx (q := 116) (d := 0) (As := [.int ((M 12) 0 0 62)]) (z := fvc (uW M 12 (M 12)) 12 r6) (st := []) (st1 := []) (M' := uW M 12 r6) (by rw [er6]; exact mc_X12_finish l D ta ad (uW M 12 (M 12)) ((M 12) 0 0 62)) cv_X12_330 rfl rfl rfl vi_12_0 ⟨Nat.le_of_ble_eq_true rfl, Nat.le_of_ble_eq_true rfl⟩ ⟨Nat.le_refl _, Nat.le_refl _⟩ (by simp [Value.category]) rfl rfl (by exact uW_uW _ _ _ _) dX12_choose_113 rfl ?_
        refine mw_goto cx (tgt := 152) dX12_choose_116 (by decide) ?_
        exact mw_vret cx hr rfl dX12_choose_152
      · refine mw_iload_n cx (q := 83) 1 rfl rfl dX12_choose_82 rfl ?_
        refine mw_bipush cx (q := 85) (v := 10) dX12_choose_83 rfl rfl ?_
        refine mw_icmp_ne cx (tgt := 95) (q := 88) dX12_choose_85 (by decide) rfl (fun h7 => ?_) (fun h7 => ?_)
        · refine mw_iload_n cx (q := 96) 1 rfl rfl dX12_choose_95 rfl ?_
          refine mw_bipush cx (q := 98) (v := 11) dX12_choose_96 rfl rfl ?_
          refine mw_icmp_ne cx (tgt := 119) (q := 101) dX12_choose_98 (by decide) rfl (fun h8 => ?_) (fun h8 => ?_)
          · refine mw_aload_n cx (q := 120) 2 rfl rfl dX12_choose_119 rfl ?_
            refine mw_iload_n cx (q := 121) 3 rfl rfl dX12_choose_120 rfl ?_
            refine mw_iload_n cx (q := 122) 1 rfl rfl dX12_choose_121 rfl ?_
            refine mw_bipush cx (q := 124) (v := 12) dX12_choose_122 rfl rfl ?_
            refine mw_jn (Mj := fun (v9 : Int32) => (uW M 12 (M 12))) (pj := 149) (lj := fun (v9 : Int32) => []) (sj := fun (v9 : Int32) => [.int v9, .int p1, .ref (ad 12 0 0)]) (fun v9 => ?_) (fun K10 hK10 => ?_)
            · refine mw_bnd (fun r14 er14 => ?_)
              refine mw_callV cx (q := 152) (d := 0) (As := [.int p1, .int v9]) (z := fvc (uW M 12 (M 12)) 12 r14) (st := []) (st1 := []) (M' := uW M 12 r14) (by rw [er14]; exact mc_X12_valueNext l D ta ad (uW M 12 (M 12)) p1 v9 hp1) cv_X12_323 rfl rfl rfl vi_12_0 ⟨Nat.le_of_ble_eq_true rfl, Nat.le_of_ble_eq_true rfl⟩ ⟨Nat.le_refl _, Nat.le_refl _⟩ (by simp [Value.category]) rfl rfl (by exact uW_uW _ _ _ _) dX12_choose_149 rfl ?_
              exact mw_vret cx hr rfl dX12_choose_152
            · refine mw_icmp_ne cx (tgt := 148) (q := 127) dX12_choose_124 (by decide) rfl (fun h11 => ?_) (fun h11 => ?_)
              · refine mw_iload_n cx (q := 149) 0 rfl rfl dX12_choose_148 rfl ?_
                refine mw_sub [] rfl ?_
                exact hK10 r2
              · refine mw_aload_n cx (q := 128) 2 rfl rfl dX12_choose_127 rfl ?_
                refine mw_get cx (q := 131) (v := .int ((M 12) 0 0 62)) gf_X12_232 rfl rfl vi_12_0 dX12_choose_128 rfl ?_
                refine mw_if_ne cx (tgt := 148) (q := 134) dX12_choose_131 (by decide) rfl (fun h12 => ?_) (fun h12 => ?_)
                · refine mw_iload_n cx (q := 149) 0 rfl rfl dX12_choose_148 rfl ?_
                  refine mw_sub [] rfl ?_
                  exact hK10 r2
                · refine mw_aload_n cx (q := 135) 2 rfl rfl dX12_choose_134 rfl ?_
                  refine mw_aload_n cx (q := 136) 2 rfl rfl dX12_choose_135 rfl ?_
                  refine mw_get cx (q := 139) (v := .ref (ad 12 31 0)) gf_X12_98 rfl rfl vi_12_0 dX12_choose_136 rfl ?_
                  refine mw_iload_n cx (q := 140) 3 rfl rfl dX12_choose_139 rfl ?_
                  refine mw_iald cx (q := 141) (w := ((M 12) 31 0 p1)) rfl (fun _ => rfl) vi_12_31 hp1 dX12_choose_140 rfl ?_
                  refine mw_iload_n cx (q := 142) 0 rfl rfl dX12_choose_141 rfl ?_
                  refine mw_bnd (fun r13 er13 => ?_)
                  refine mw_callV cx (q := 145) (d := 3) (As := [.int ((M 12) 31 0 p1), .int r2]) (z := fip (uW M 12 (M 12)) r13) (st := [.int p1, .ref (ad 12 0 0)]) (st1 := [.int r13, .int p1, .ref (ad 12 0 0)]) (M' := (uW M 12 (M 12))) (by rw [er13]; exact mc_X12_following l D ta ad (uW M 12 (M 12)) ((M 12) 31 0 p1) r2 hok (ok0.1.pS _ hp1) hT (by (try simp only [vp_in_iff, i32lt, i32le, i32eq, i32add, i32sub, i32mul, i32neg, t32_0, t32_1, t32_2, t32_9, t32_10, t32_11, t32_12, t32_31, t32_32, t32_33, t32_35] at hp1 hT hF hS ok0 ev1 qr20 h3 h4 h5 h7 h8 h11 hok ⊢); omega)) cv_X12_201 rfl rfl rfl vi_12_0 ⟨Nat.le_of_ble_eq_true rfl, Nat.le_of_ble_eq_true rfl⟩ ⟨Nat.le_refl _, Nat.le_refl _⟩ (by simp [Value.category]) rfl rfl rfl dX12_choose_142 rfl ?_
                  have qr130 : Nx12 (M 12) ((M 12) 31 0 p1) r13 := (by rw [er13]; exact following_n hok (ok0.1.pS _ hp1) hT (by (try simp only [vp_in_iff, i32lt, i32le, i32eq, i32add, i32sub, i32mul, i32neg, t32_0, t32_1, t32_2, t32_9, t32_10, t32_11, t32_12, t32_31, t32_32, t32_33, t32_35] at hp1 hT hF hS ok0 ev1 qr20 h3 h4 h5 h7 h8 h11 hok ⊢); omega))
                  refine mw_goto cx (tgt := 149) dX12_choose_145 (by decide) ?_
                  refine mw_sub [] rfl ?_
                  exact hK10 r13
          · refine mw_aload_n cx (q := 102) 2 rfl rfl dX12_choose_101 rfl ?_
            refine mw_get cx (q := 105) (v := .int ((M 12) 0 0 62)) gf_X12_232 rfl rfl vi_12_0 dX12_choose_102 rfl ?_
            refine mw_if_eq cx (tgt := 119) (q := 108) dX12_choose_105 (by decide) rfl (fun h15 => ?_) (fun h15 => ?_)
            · refine mw_aload_n cx (q := 120) 2 rfl rfl dX12_choose_119 rfl ?_
              refine mw_iload_n cx (q := 121) 3 rfl rfl dX12_choose_120 rfl ?_
              refine mw_iload_n cx (q := 122) 1 rfl rfl dX12_choose_121 rfl ?_
              refine mw_bipush cx (q := 124) (v := 12) dX12_choose_122 rfl rfl ?_
              refine mw_jn (Mj := fun (v16 : Int32) => (uW M 12 (M 12))) (pj := 149) (lj := fun (v16 : Int32) => []) (sj := fun (v16 : Int32) => [.int v16, .int p1, .ref (ad 12 0 0)]) (fun v16 => ?_) (fun K17 hK17 => ?_)
              · refine mw_bnd (fun r21 er21 => ?_)
                refine mw_callV cx (q := 152) (d := 0) (As := [.int p1, .int v16]) (z := fvc (uW M 12 (M 12)) 12 r21) (st := []) (st1 := []) (M' := uW M 12 r21) (by rw [er21]; exact mc_X12_valueNext l D ta ad (uW M 12 (M 12)) p1 v16 hp1) cv_X12_323 rfl rfl rfl vi_12_0 ⟨Nat.le_of_ble_eq_true rfl, Nat.le_of_ble_eq_true rfl⟩ ⟨Nat.le_refl _, Nat.le_refl _⟩ (by simp [Value.category]) rfl rfl (by exact uW_uW _ _ _ _) dX12_choose_149 rfl ?_
                exact mw_vret cx hr rfl dX12_choose_152
              · refine mw_icmp_ne cx (tgt := 148) (q := 127) dX12_choose_124 (by decide) rfl (fun h18 => ?_) (fun h18 => ?_)
                · refine mw_iload_n cx (q := 149) 0 rfl rfl dX12_choose_148 rfl ?_
                  refine mw_sub [] rfl ?_
                  exact hK17 r2
                · refine mw_aload_n cx (q := 128) 2 rfl rfl dX12_choose_127 rfl ?_
                  refine mw_get cx (q := 131) (v := .int ((M 12) 0 0 62)) gf_X12_232 rfl rfl vi_12_0 dX12_choose_128 rfl ?_
                  refine mw_if_ne cx (tgt := 148) (q := 134) dX12_choose_131 (by decide) rfl (fun h19 => ?_) (fun h19 => ?_)
                  · refine mw_iload_n cx (q := 149) 0 rfl rfl dX12_choose_148 rfl ?_
                    refine mw_sub [] rfl ?_
                    exact hK17 r2
                  · refine mw_aload_n cx (q := 135) 2 rfl rfl dX12_choose_134 rfl ?_
                    refine mw_aload_n cx (q := 136) 2 rfl rfl dX12_choose_135 rfl ?_
                    refine mw_get cx (q := 139) (v := .ref (ad 12 31 0)) gf_X12_98 rfl rfl vi_12_0 dX12_choose_136 rfl ?_
                    refine mw_iload_n cx (q := 140) 3 rfl rfl dX12_choose_139 rfl ?_
                    refine mw_iald cx (q := 141) (w := ((M 12) 31 0 p1)) rfl (fun _ => rfl) vi_12_31 hp1 dX12_choose_140 rfl ?_
                    refine mw_iload_n cx (q := 142) 0 rfl rfl dX12_choose_141 rfl ?_
                    refine mw_bnd (fun r20 er20 => ?_)
                    refine mw_callV cx (q := 145) (d := 3) (As := [.int ((M 12) 31 0 p1), .int r2]) (z := fip (uW M 12 (M 12)) r20) (st := [.int p1, .ref (ad 12 0 0)]) (st1 := [.int r20, .int p1, .ref (ad 12 0 0)]) (M' := (uW M 12 (M 12))) (by rw [er20]; exact mc_X12_following l D ta ad (uW M 12 (M 12)) ((M 12) 31 0 p1) r2 hok (ok0.1.pS _ hp1) hT (by (try simp only [vp_in_iff, i32lt, i32le, i32eq, i32add, i32sub, i32mul, i32neg, t32_0, t32_1, t32_2, t32_9, t32_10, t32_11, t32_12, t32_31, t32_32, t32_33, t32_35] at hp1 hT hF hS ok0 ev1 qr20 h3 h4 h5 h7 h8 h18 hok ⊢); omega)) cv_X12_201 rfl rfl rfl vi_12_0 ⟨Nat.le_of_ble_eq_true rfl, Nat.le_of_ble_eq_true rfl⟩ ⟨Nat.le_refl _, Nat.le_refl _⟩ (by simp [Value.category]) rfl rfl rfl dX12_choose_142 rfl ?_
                    have qr200 : Nx12 (M 12) ((M 12) 31 0 p1) r20 := (by rw [er20]; exact following_n hok (ok0.1.pS _ hp1) hT (by (try simp only [vp_in_iff, i32lt, i32le, i32eq, i32add, i32sub, i32mul, i32neg, t32_0, t32_1, t32_2, t32_9, t32_10, t32_11, t32_12, t32_31, t32_32, t32_33, t32_35] at hp1 hT hF hS ok0 ev1 qr20 h3 h4 h5 h7 h8 h18 hok ⊢); omega))
                    refine mw_goto cx (tgt := 149) dX12_choose_145 (by decide) ?_
                    refine mw_sub [] rfl ?_
                    exact hK17 r20
            · refine mw_aload_n cx (q := 109) 2 rfl rfl dX12_choose_108 rfl ?_
              refine mw_aload_n cx (q := 110) 2 rfl rfl dX12_choose_109 rfl ?_
              refine mw_get cx (q := 113) (v := .int ((M 12) 0 0 62)) gf_X12_232 rfl rfl vi_12_0 dX12_choose_110 rfl ?_
              refine mw_bnd (fun r22 er22 => ?_)
              refine mw_callV cx (q := 116) (d := 0) (As := [.int ((M 12) 0 0 62)]) (z := fvc (uW M 12 (M 12)) 12 r22) (st := []) (st1 := []) (M' := uW M 12 r22) (by rw [er22]; exact mc_X12_finish l D ta ad (uW M 12 (M 12)) ((M 12) 0 0 62)) cv_X12_330 rfl rfl rfl vi_12_0 ⟨Nat.le_of_ble_eq_true rfl, Nat.le_of_ble_eq_true rfl⟩ ⟨Nat.le_refl _, Nat.le_refl _⟩ (by simp [Value.category]) rfl rfl (by exact uW_uW _ _ _ _) dX12_choose_113 rfl ?_
              refine mw_goto cx (tgt := 152) dX12_choose_116 (by decide) ?_
              exact mw_vret cx hr rfl dX12_choose_152
        · refine mw_aload_n cx (q := 89) 2 rfl rfl dX12_choose_88 rfl ?_
          refine mw_get cx (q := 92) (v := .int ((M 12) 0 0 62)) gf_X12_232 rfl rfl vi_12_0 dX12_choose_89 rfl ?_
          refine mw_if_eq cx (tgt := 108) (q := 95) dX12_choose_92 (by decide) rfl (fun h23 => ?_) (fun h23 => ?_)
          · refine mw_aload_n cx (q := 109) 2 rfl rfl dX12_choose_108 rfl ?_
            refine mw_aload_n cx (q := 110) 2 rfl rfl dX12_choose_109 rfl ?_
            refine mw_get cx (q := 113) (v := .int ((M 12) 0 0 62)) gf_X12_232 rfl rfl vi_12_0 dX12_choose_110 rfl ?_
            refine mw_bnd (fun r24 er24 => ?_)
            refine mw_callV cx (q := 116) (d := 0) (As := [.int ((M 12) 0 0 62)]) (z := fvc (uW M 12 (M 12)) 12 r24) (st := []) (st1 := []) (M' := uW M 12 r24) (by rw [er24]; exact mc_X12_finish l D ta ad (uW M 12 (M 12)) ((M 12) 0 0 62)) cv_X12_330 rfl rfl rfl vi_12_0 ⟨Nat.le_of_ble_eq_true rfl, Nat.le_of_ble_eq_true rfl⟩ ⟨Nat.le_refl _, Nat.le_refl _⟩ (by simp [Value.category]) rfl rfl (by exact uW_uW _ _ _ _) dX12_choose_113 rfl ?_
            refine mw_goto cx (tgt := 152) dX12_choose_116 (by decide) ?_
            exact mw_vret cx hr rfl dX12_choose_152
          · refine mw_iload_n cx (q := 96) 1 rfl rfl dX12_choose_95 rfl ?_
            refine mw_bipush cx (q := 98) (v := 11) dX12_choose_96 rfl rfl ?_
            refine mw_icmp_ne cx (tgt := 119) (q := 101) dX12_choose_98 (by decide) rfl (fun h25 => ?_) (fun h25 => ?_)
            · refine mw_aload_n cx (q := 120) 2 rfl rfl dX12_choose_119 rfl ?_
              refine mw_iload_n cx (q := 121) 3 rfl rfl dX12_choose_120 rfl ?_
              refine mw_iload_n cx (q := 122) 1 rfl rfl dX12_choose_121 rfl ?_
              refine mw_bipush cx (q := 124) (v := 12) dX12_choose_122 rfl rfl ?_
              refine mw_jn (Mj := fun (v26 : Int32) => (uW M 12 (M 12))) (pj := 149) (lj := fun (v26 : Int32) => []) (sj := fun (v26 : Int32) => [.int v26, .int p1, .ref (ad 12 0 0)]) (fun v26 => ?_) (fun K27 hK27 => ?_)
              · refine mw_bnd (fun r31 er31 => ?_)
                refine mw_callV cx (q := 152) (d := 0) (As := [.int p1, .int v26]) (z := fvc (uW M 12 (M 12)) 12 r31) (st := []) (st1 := []) (M' := uW M 12 r31) (by rw [er31]; exact mc_X12_valueNext l D ta ad (uW M 12 (M 12)) p1 v26 hp1) cv_X12_323 rfl rfl rfl vi_12_0 ⟨Nat.le_of_ble_eq_true rfl, Nat.le_of_ble_eq_true rfl⟩ ⟨Nat.le_refl _, Nat.le_refl _⟩ (by simp [Value.category]) rfl rfl (by exact uW_uW _ _ _ _) dX12_choose_149 rfl ?_
                exact mw_vret cx hr rfl dX12_choose_152
              · refine mw_icmp_ne cx (tgt := 148) (q := 127) dX12_choose_124 (by decide) rfl (fun h28 => ?_) (fun h28 => ?_)
                · refine mw_iload_n cx (q := 149) 0 rfl rfl dX12_choose_148 rfl ?_
                  refine mw_sub [] rfl ?_
                  exact hK27 r2
                · refine mw_aload_n cx (q := 128) 2 rfl rfl dX12_choose_127 rfl ?_
                  refine mw_get cx (q := 131) (v := .int ((M 12) 0 0 62)) gf_X12_232 rfl rfl vi_12_0 dX12_choose_128 rfl ?_
                  refine mw_if_ne cx (tgt := 148) (q := 134) dX12_choose_131 (by decide) rfl (fun h29 => ?_) (fun h29 => ?_)
                  · refine mw_iload_n cx (q := 149) 0 rfl rfl dX12_choose_148 rfl ?_
                    refine mw_sub [] rfl ?_
                    exact hK27 r2
                  · refine mw_aload_n cx (q := 135) 2 rfl rfl dX12_choose_134 rfl ?_
                    refine mw_aload_n cx (q := 136) 2 rfl rfl dX12_choose_135 rfl ?_
                    refine mw_get cx (q := 139) (v := .ref (ad 12 31 0)) gf_X12_98 rfl rfl vi_12_0 dX12_choose_136 rfl ?_
                    refine mw_iload_n cx (q := 140) 3 rfl rfl dX12_choose_139 rfl ?_
                    refine mw_iald cx (q := 141) (w := ((M 12) 31 0 p1)) rfl (fun _ => rfl) vi_12_31 hp1 dX12_choose_140 rfl ?_
                    refine mw_iload_n cx (q := 142) 0 rfl rfl dX12_choose_141 rfl ?_
                    refine mw_bnd (fun r30 er30 => ?_)
                    refine mw_callV cx (q := 145) (d := 3) (As := [.int ((M 12) 31 0 p1), .int r2]) (z := fip (uW M 12 (M 12)) r30) (st := [.int p1, .ref (ad 12 0 0)]) (st1 := [.int r30, .int p1, .ref (ad 12 0 0)]) (M' := (uW M 12 (M 12))) (by rw [er30]; exact mc_X12_following l D ta ad (uW M 12 (M 12)) ((M 12) 31 0 p1) r2 hok (ok0.1.pS _ hp1) hT (by (try simp only [vp_in_iff, i32lt, i32le, i32eq, i32add, i32sub, i32mul, i32neg, t32_0, t32_1, t32_2, t32_9, t32_10, t32_11, t32_12, t32_31, t32_32, t32_33, t32_35] at hp1 hT hF hS ok0 ev1 qr20 h3 h4 h5 h7 h25 h28 hok ⊢); omega)) cv_X12_201 rfl rfl rfl vi_12_0 ⟨Nat.le_of_ble_eq_true rfl, Nat.le_of_ble_eq_true rfl⟩ ⟨Nat.le_refl _, Nat.le_refl _⟩ (by simp [Value.category]) rfl rfl rfl dX12_choose_142 rfl ?_
                    have qr300 : Nx12 (M 12) ((M 12) 31 0 p1) r30 := (by rw [er30]; exact following_n hok (ok0.1.pS _ hp1) hT (by (try simp only [vp_in_iff, i32lt, i32le, i32eq, i32add, i32sub, i32mul, i32neg, t32_0, t32_1, t32_2, t32_9, t32_10, t32_11, t32_12, t32_31, t32_32, t32_33, t32_35] at hp1 hT hF hS ok0 ev1 qr20 h3 h4 h5 h7 h25 h28 hok ⊢); omega))
                    refine mw_goto cx (tgt := 149) dX12_choose_145 (by decide) ?_
                    refine mw_sub [] rfl ?_
                    exact hK27 r30
            · refine mw_aload_n cx (q := 102) 2 rfl rfl dX12_choose_101 rfl ?_
              refine mw_get cx (q := 105) (v := .int ((M 12) 0 0 62)) gf_X12_232 rfl rfl vi_12_0 dX12_choose_102 rfl ?_
              refine mw_if_eq cx (tgt := 119) (q := 108) dX12_choose_105 (by decide) rfl (fun h32 => ?_) (fun h32 => ?_)
              · refine mw_aload_n cx (q := 120) 2 rfl rfl dX12_choose_119 rfl ?_
                refine mw_iload_n cx (q := 121) 3 rfl rfl dX12_choose_120 rfl ?_
                refine mw_iload_n cx (q := 122) 1 rfl rfl dX12_choose_121 rfl ?_
                refine mw_bipush cx (q := 124) (v := 12) dX12_choose_122 rfl rfl ?_
                refine mw_jn (Mj := fun (v33 : Int32) => (uW M 12 (M 12))) (pj := 149) (lj := fun (v33 : Int32) => []) (sj := fun (v33 : Int32) => [.int v33, .int p1, .ref (ad 12 0 0)]) (fun v33 => ?_) (fun K34 hK34 => ?_)
                · refine mw_bnd (fun r38 er38 => ?_)
                  refine mw_callV cx (q := 152) (d := 0) (As := [.int p1, .int v33]) (z := fvc (uW M 12 (M 12)) 12 r38) (st := []) (st1 := []) (M' := uW M 12 r38) (by rw [er38]; exact mc_X12_valueNext l D ta ad (uW M 12 (M 12)) p1 v33 hp1) cv_X12_323 rfl rfl rfl vi_12_0 ⟨Nat.le_of_ble_eq_true rfl, Nat.le_of_ble_eq_true rfl⟩ ⟨Nat.le_refl _, Nat.le_refl _⟩ (by simp [Value.category]) rfl rfl (by exact uW_uW _ _ _ _) dX12_choose_149 rfl ?_
                  exact mw_vret cx hr rfl dX12_choose_152
                · refine mw_icmp_ne cx (tgt := 148) (q := 127) dX12_choose_124 (by decide) rfl (fun h35 => ?_) (fun h35 => ?_)
                  · refine mw_iload_n cx (q := 149) 0 rfl rfl dX12_choose_148 rfl ?_
                    refine mw_sub [] rfl ?_
                    exact hK34 r2
                  · refine mw_aload_n cx (q := 128) 2 rfl rfl dX12_choose_127 rfl ?_
                    refine mw_get cx (q := 131) (v := .int ((M 12) 0 0 62)) gf_X12_232 rfl rfl vi_12_0 dX12_choose_128 rfl ?_
                    refine mw_if_ne cx (tgt := 148) (q := 134) dX12_choose_131 (by decide) rfl (fun h36 => ?_) (fun h36 => ?_)
                    · refine mw_iload_n cx (q := 149) 0 rfl rfl dX12_choose_148 rfl ?_
                      refine mw_sub [] rfl ?_
                      exact hK34 r2
                    · refine mw_aload_n cx (q := 135) 2 rfl rfl dX12_choose_134 rfl ?_
                      refine mw_aload_n cx (q := 136) 2 rfl rfl dX12_choose_135 rfl ?_
                      refine mw_get cx (q := 139) (v := .ref (ad 12 31 0)) gf_X12_98 rfl rfl vi_12_0 dX12_choose_136 rfl ?_
                      refine mw_iload_n cx (q := 140) 3 rfl rfl dX12_choose_139 rfl ?_
                      refine mw_iald cx (q := 141) (w := ((M 12) 31 0 p1)) rfl (fun _ => rfl) vi_12_31 hp1 dX12_choose_140 rfl ?_
                      refine mw_iload_n cx (q := 142) 0 rfl rfl dX12_choose_141 rfl ?_
                      refine mw_bnd (fun r37 er37 => ?_)
                      refine mw_callV cx (q := 145) (d := 3) (As := [.int ((M 12) 31 0 p1), .int r2]) (z := fip (uW M 12 (M 12)) r37) (st := [.int p1, .ref (ad 12 0 0)]) (st1 := [.int r37, .int p1, .ref (ad 12 0 0)]) (M' := (uW M 12 (M 12))) (by rw [er37]; exact mc_X12_following l D ta ad (uW M 12 (M 12)) ((M 12) 31 0 p1) r2 hok (ok0.1.pS _ hp1) hT (by (try simp only [vp_in_iff, i32lt, i32le, i32eq, i32add, i32sub, i32mul, i32neg, t32_0, t32_1, t32_2, t32_9, t32_10, t32_11, t32_12, t32_31, t32_32, t32_33, t32_35] at hp1 hT hF hS ok0 ev1 qr20 h3 h4 h5 h7 h25 h35 hok ⊢); omega)) cv_X12_201 rfl rfl rfl vi_12_0 ⟨Nat.le_of_ble_eq_true rfl, Nat.le_of_ble_eq_true rfl⟩ ⟨Nat.le_refl _, Nat.le_refl _⟩ (by simp [Value.category]) rfl rfl rfl dX12_choose_142 rfl ?_
                      have qr370 : Nx12 (M 12) ((M 12) 31 0 p1) r37 := (by rw [er37]; exact following_n hok (ok0.1.pS _ hp1) hT (by (try simp only [vp_in_iff, i32lt, i32le, i32eq, i32add, i32sub, i32mul, i32neg, t32_0, t32_1, t32_2, t32_9, t32_10, t32_11, t32_12, t32_31, t32_32, t32_33, t32_35] at hp1 hT hF hS ok0 ev1 qr20 h3 h4 h5 h7 h25 h35 hok ⊢); omega))
                      refine mw_goto cx (tgt := 149) dX12_choose_145 (by decide) ?_
                      refine mw_sub [] rfl ?_
                      exact hK34 r37
              · refine mw_aload_n cx (q := 109) 2 rfl rfl dX12_choose_108 rfl ?_
                refine mw_aload_n cx (q := 110) 2 rfl rfl dX12_choose_109 rfl ?_
                refine mw_get cx (q := 113) (v := .int ((M 12) 0 0 62)) gf_X12_232 rfl rfl vi_12_0 dX12_choose_110 rfl ?_
                refine mw_bnd (fun r39 er39 => ?_)
                refine mw_callV cx (q := 116) (d := 0) (As := [.int ((M 12) 0 0 62)]) (z := fvc (uW M 12 (M 12)) 12 r39) (st := []) (st1 := []) (M' := uW M 12 r39) (by rw [er39]; exact mc_X12_finish l D ta ad (uW M 12 (M 12)) ((M 12) 0 0 62)) cv_X12_330 rfl rfl rfl vi_12_0 ⟨Nat.le_of_ble_eq_true rfl, Nat.le_of_ble_eq_true rfl⟩ ⟨Nat.le_refl _, Nat.le_refl _⟩ (by simp [Value.category]) rfl rfl (by exact uW_uW _ _ _ _) dX12_choose_113 rfl ?_
                refine mw_goto cx (tgt := 152) dX12_choose_116 (by decide) ?_
                exact mw_vret cx hr rfl dX12_choose_152
    · refine mw_aload_n cx (q := 54) 2 rfl rfl dX12_choose_53 rfl ?_
      refine mw_aload_n cx (q := 55) 2 rfl rfl dX12_choose_54 rfl ?_
      refine mw_get cx (q := 58) (v := .int ((M 12) 0 0 62)) gf_X12_232 rfl rfl vi_12_0 dX12_choose_55 rfl ?_
      refine mw_jn (Mj := fun (v40 : Bool) => (uW M 12 (M 12))) (pj := 66) (lj := fun (v40 : Bool) => []) (sj := fun (v40 : Bool) => [.int (b2i v40), .ref (ad 12 0 0)]) (fun v40 => ?_) (fun K41 hK41 => ?_)
      · refine mw_bnd (fun r43 er43 => ?_)
        refine mw_callV cx (q := 69) (d := 0) (As := [.int (b2i v40)]) (z := fvc (uW M 12 (M 12)) 12 r43) (st := []) (st1 := []) (M' := uW M 12 r43) (by rw [er43]; exact mc_X12_finish l D ta ad (uW M 12 (M 12)) (b2i v40)) cv_X12_330 rfl rfl rfl vi_12_0 ⟨Nat.le_of_ble_eq_true rfl, Nat.le_of_ble_eq_true rfl⟩ ⟨Nat.le_refl _, Nat.le_refl _⟩ (by simp [Value.category]) rfl rfl (by exact uW_uW _ _ _ _) dX12_choose_66 rfl ?_
        refine mw_goto cx (tgt := 152) dX12_choose_69 (by decide) ?_
        exact mw_vret cx hr rfl dX12_choose_152
      · refine mw_if_ne cx (tgt := 65) (q := 61) dX12_choose_58 (by decide) rfl (fun h42 => ?_) (fun h42 => ?_)
        · refine mw_iconst cx (q := 66) (v := 0) dX12_choose_65 rfl rfl ?_
          refine mw_sub [] rfl ?_
          exact hK41 false
        · refine mw_iconst cx (q := 62) (v := 1) dX12_choose_61 rfl rfl ?_
          refine mw_goto cx (tgt := 66) dX12_choose_62 (by decide) ?_
          refine mw_sub [] rfl ?_
          exact hK41 true
  · refine mw_aload_n cx (q := 34) 2 rfl rfl dX12_choose_33 rfl ?_
    refine mw_iload_n cx (q := 35) 3 rfl rfl dX12_choose_34 rfl ?_
    refine mw_aload_n cx (q := 36) 2 rfl rfl dX12_choose_35 rfl ?_
    refine mw_get cx (q := 39) (v := .ref (ad 12 35 0)) gf_X12_110 rfl rfl vi_12_0 dX12_choose_36 rfl ?_
    refine mw_iload_n cx (q := 40) 3 rfl rfl dX12_choose_39 rfl ?_
    refine mw_iald cx (q := 41) (w := ((M 12) 35 0 p1)) rfl (fun _ => rfl) vi_12_35 hp1 dX12_choose_40 rfl ?_
    refine mw_bnd (fun r44 er44 => ?_)
    refine mw_callV cx (q := 44) (d := 0) (As := [.int p1, .int ((M 12) 35 0 p1)]) (z := fvc (uW M 12 (M 12)) 12 r44) (st := []) (st1 := []) (M' := uW M 12 r44) (by rw [er44]; exact mc_X12_valueNext l D ta ad (uW M 12 (M 12)) p1 ((M 12) 35 0 p1) hp1) cv_X12_323 rfl rfl rfl vi_12_0 ⟨Nat.le_of_ble_eq_true rfl, Nat.le_of_ble_eq_true rfl⟩ ⟨Nat.le_refl _, Nat.le_refl _⟩ (by simp [Value.category]) rfl rfl (by exact uW_uW _ _ _ _) dX12_choose_41 rfl ?_
    refine mw_goto cx (tgt := 152) dX12_choose_44 (by decide) ?_
    exact mw_vret cx hr rfl dX12_choose_152
def f12_repeat (m : Cm) (p1 : Int32) : Cm := jn (fun (v1 : Int32) => if (m 33 0 p1) ≤ 0 then if v1 = (-1) then bnd (u3 m 37 0 p1 ((m 37 0 p1) + 1)) (fun (m8 : Cm) => bnd (f12_valueNext m8 p1 (m 35 0 p1)) (fun (r10 : Cm) => r10)) else bnd (f12_valueNext m p1 v1) (fun (r7 : Cm) => r7) else if (m 34 0 p1) = (m 35 0 p1) then if (m 0 0 62) = 0 then bnd (f12_finish m (m 37 0 p1)) (fun (r23 : Cm) => r23) else if v1 = (-1) then bnd (u3 m 37 0 p1 ((m 37 0 p1) + 1)) (fun (m20 : Cm) => bnd (f12_valueNext m20 p1 (m 35 0 p1)) (fun (r22 : Cm) => r22)) else bnd (f12_valueNext m p1 v1) (fun (r19 : Cm) => r19) else if v1 = (-1) then bnd (u3 m 37 0 p1 ((m 37 0 p1) + 1)) (fun (m14 : Cm) => bnd (f12_valueNext m14 p1 (m 35 0 p1)) (fun (r16 : Cm) => r16)) else bnd (f12_valueNext m p1 v1) (fun (r13 : Cm) => r13)) (fun K2 => if (m 34 0 p1) = (-1) then K2 (m 35 0 p1) else bnd (f12_following m (m 31 0 p1) (m 34 0 p1)) (fun (r4 : Int32) => K2 r4))
set_option maxHeartbeats 4000000 in
set_option maxRecDepth 100000 in
theorem mc_X12_repeat (l : Launch) (D : va_G) (ta : wTa) (ad : wAd) (M : Wm) (p1 : Int32) (hok : Ok12 (M 12)) (hp1 : vp_in p1 32) (hT : Tx12 (M 12) ((M 12) 31 0 p1)) (hF : Ix12 (M 12) ((M 12) 31 0 p1) ((M 12) 35 0 p1)) (hN : Nx12 (M 12) ((M 12) 31 0 p1) ((M 12) 34 0 p1)) : MC l D ta ad yX12_repeat cX12_repeat 3 none 4 [.ref (ad 12 0 0), .int p1] M (fvc M 12 (f12_repeat (M 12) p1)) := by
  refine MC.of (fvc M 12) (f12_repeat (M 12) p1) rfl (by decide) (Nat.le_of_ble_eq_true rfl) (fun p e s m args below meth c cx hr => ?_)
  unfold f12_repeat
  refine mw_sub (lv' := [(0, .ref (ad 12 0 0)), (1, .int p1)]) [0, 1] rfl ?_
  refine mw_eqM (uW_self M 12) ?_
  have ok0 : OkT (M 12) (M 12) := ⟨hok, rfl, rfl⟩
  refine mw_aload_n cx (q := 1) 0 rfl rfl dX12_repeat_0 rfl ?_
  refine mw_get cx (q := 4) (v := .ref (ad 12 34 0)) gf_X12_107 rfl rfl vi_12_0 dX12_repeat_1 rfl ?_
  refine mw_iload_n cx (q := 5) 1 rfl rfl dX12_repeat_4 rfl ?_
  refine mw_iald cx (q := 6) (w := ((M 12) 34 0 p1)) rfl (fun _ => rfl) vi_12_34 hp1 dX12_repeat_5 rfl ?_
  refine mw_iconst cx (q := 7) (v := (-1)) dX12_repeat_6 rfl rfl ?_
  refine mw_jn (Mj := fun (v1 : Int32) => (uW M 12 (M 12))) (pj := 35) (lj := fun (v1 : Int32) => [(0, .ref (ad 12 0 0)), (1, .int p1)]) (sj := fun (v1 : Int32) => [.int v1]) (fun v1 => ?_) (fun K2 hK2 => ?_)
  · refine mw_istore_n cx (q := 36) (lv' := [(2, .int v1), (0, .ref (ad 12 0 0)), (1, .int p1)]) rfl rfl (by decide) dX12_repeat_35 rfl ?_
    refine mw_aload_n cx (q := 37) 1 rfl rfl dX12_repeat_36 rfl ?_
    refine mw_get cx (q := 40) (v := .ref (ad 12 33 0)) gf_X12_104 rfl rfl vi_12_0 dX12_repeat_37 rfl ?_
    refine mw_iload_n cx (q := 41) 2 rfl rfl dX12_repeat_40 rfl ?_
    refine mw_iald cx (q := 42) (w := ((M 12) 33 0 p1)) rfl (fun _ => rfl) vi_12_33 hp1 dX12_repeat_41 rfl ?_
    refine mw_if_le cx (tgt := 80) (q := 45) dX12_repeat_42 (by decide) rfl (fun h5 => ?_) (fun h5 => ?_)
    · refine mw_iload_n cx (q := 81) 0 rfl rfl dX12_repeat_80 rfl ?_
      refine mw_iconst cx (q := 82) (v := (-1)) dX12_repeat_81 rfl rfl ?_
      refine mw_icmp_ne cx (tgt := 109) (q := 85) dX12_repeat_82 (by decide) rfl (fun h6 => ?_) (fun h6 => ?_)
      · refine mw_aload_n cx (q := 110) 1 rfl rfl dX12_repeat_109 rfl ?_
        refine mw_iload_n cx (q := 111) 2 rfl rfl dX12_repeat_110 rfl ?_
        refine mw_iload_n cx (q := 112) 0 rfl rfl dX12_repeat_111 rfl ?_
        refine mw_bnd (fun r7 er7 => ?_)
        refine mw_callV cx (q := 115) (d := 0) (As := [.int p1, .int v1]) (z := fvc (uW M 12 (M 12)) 12 r7) (st := []) (st1 := []) (M' := uW M 12 r7) (by rw [er7]; exact mc_X12_valueNext l D ta ad (uW M 12 (M 12)) p1 v1 hp1) cv_X12_323 rfl rfl rfl vi_12_0 ⟨Nat.le_of_ble_eq_true rfl, Nat.le_of_ble_eq_true rfl⟩ ⟨Nat.le_refl _, Nat.le_refl _⟩ (by simp [Value.category]) rfl rfl (by exact uW_uW _ _ _ _) dX12_repeat_112 rfl ?_
        exact mw_vret cx hr rfl dX12_repeat_115
      · refine mw_aload_n cx (q := 86) 1 rfl rfl dX12_repeat_85 rfl ?_
        refine mw_get cx (q := 89) (v := .ref (ad 12 37 0)) gf_X12_116 rfl rfl vi_12_0 dX12_repeat_86 rfl ?_
        refine mw_iload_n cx (q := 90) 2 rfl rfl dX12_repeat_89 rfl ?_
        refine mw_dup2 cx (q := 91) dX12_repeat_90 rfl rfl rfl ?_
        refine mw_iald cx (q := 92) (w := ((M 12) 37 0 p1)) rfl (fun _ => rfl) vi_12_37 hp1 dX12_repeat_91 rfl ?_
        refine mw_iconst cx (q := 93) (v := 1) dX12_repeat_92 rfl rfl ?_
        refine mw_iadd cx (q := 94) dX12_repeat_93 rfl ?_
        refine mw_iastC cx (q := 95) (fun _ => rfl) (by decide) vi_12_37 hp1 (by decide) dX12_repeat_94 rfl (fun m8 em8 => ?_)
        have ok9 : OkT (M 12) m8 := (by rw [em8]; exact okT_putA ok0 (by decide))
        refine mw_aload_n cx (q := 96) 1 rfl rfl dX12_repeat_95 rfl ?_
        refine mw_iload_n cx (q := 97) 2 rfl rfl dX12_repeat_96 rfl ?_
        refine mw_aload_n cx (q := 98) 1 rfl rfl dX12_repeat_97 rfl ?_
        refine mw_get cx (q := 101) (v := .ref (ad 12 35 0)) gf_X12_110 rfl rfl vi_12_0 dX12_repeat_98 rfl ?_
        refine mw_iload_n cx (q := 102) 2 rfl rfl dX12_repeat_101 rfl ?_
        refine mw_iald cx (q := 103) (w := ((M 12) 35 0 p1)) (by rw [em8]; rfl) (fun _ => rfl) vi_12_35 hp1 dX12_repeat_102 rfl ?_
        refine mw_bnd (fun r10 er10 => ?_)
        refine mw_callV cx (q := 106) (d := 0) (As := [.int p1, .int ((M 12) 35 0 p1)]) (z := fvc (uW M 12 m8) 12 r10) (st := []) (st1 := []) (M' := uW M 12 r10) (by rw [er10]; exact mc_X12_valueNext l D ta ad (uW M 12 m8) p1 ((M 12) 35 0 p1) hp1) cv_X12_323 rfl rfl rfl vi_12_0 ⟨Nat.le_of_ble_eq_true rfl, Nat.le_of_ble_eq_true rfl⟩ ⟨Nat.le_refl _, Nat.le_refl _⟩ (by simp [Value.category]) rfl rfl (by exact uW_uW _ _ _ _) dX12_repeat_103 rfl ?_
        refine mw_goto cx (tgt := 115) dX12_repeat_106 (by decide) ?_
        exact mw_vret cx hr rfl dX12_repeat_115
    · refine mw_aload_n cx (q := 46) 1 rfl rfl dX12_repeat_45 rfl ?_
      refine mw_get cx (q := 49) (v := .ref (ad 12 34 0)) gf_X12_107 rfl rfl vi_12_0 dX12_repeat_46 rfl ?_
      refine mw_iload_n cx (q := 50) 2 rfl rfl dX12_repeat_49 rfl ?_
      refine mw_iald cx (q := 51) (w := ((M 12) 34 0 p1)) rfl (fun _ => rfl) vi_12_34 hp1 dX12_repeat_50 rfl ?_
      refine mw_aload_n cx (q := 52) 1 rfl rfl dX12_repeat_51 rfl ?_
      refine mw_get cx (q := 55) (v := .ref (ad 12 35 0)) gf_X12_110 rfl rfl vi_12_0 dX12_repeat_52 rfl ?_
      refine mw_iload_n cx (q := 56) 2 rfl rfl dX12_repeat_55 rfl ?_
      refine mw_iald cx (q := 57) (w := ((M 12) 35 0 p1)) rfl (fun _ => rfl) vi_12_35 hp1 dX12_repeat_56 rfl ?_
      refine mw_icmp_ne cx (tgt := 80) (q := 60) dX12_repeat_57 (by decide) rfl (fun h11 => ?_) (fun h11 => ?_)
      · refine mw_iload_n cx (q := 81) 0 rfl rfl dX12_repeat_80 rfl ?_
        refine mw_iconst cx (q := 82) (v := (-1)) dX12_repeat_81 rfl rfl ?_
        refine mw_icmp_ne cx (tgt := 109) (q := 85) dX12_repeat_82 (by decide) rfl (fun h12 => ?_) (fun h12 => ?_)
        · refine mw_aload_n cx (q := 110) 1 rfl rfl dX12_repeat_109 rfl ?_
          refine mw_iload_n cx (q := 111) 2 rfl rfl dX12_repeat_110 rfl ?_
          refine mw_iload_n cx (q := 112) 0 rfl rfl dX12_repeat_111 rfl ?_
          refine mw_bnd (fun r13 er13 => ?_)
          refine mw_callV cx (q := 115) (d := 0) (As := [.int p1, .int v1]) (z := fvc (uW M 12 (M 12)) 12 r13) (st := []) (st1 := []) (M' := uW M 12 r13) (by rw [er13]; exact mc_X12_valueNext l D ta ad (uW M 12 (M 12)) p1 v1 hp1) cv_X12_323 rfl rfl rfl vi_12_0 ⟨Nat.le_of_ble_eq_true rfl, Nat.le_of_ble_eq_true rfl⟩ ⟨Nat.le_refl _, Nat.le_refl _⟩ (by simp [Value.category]) rfl rfl (by exact uW_uW _ _ _ _) dX12_repeat_112 rfl ?_
          exact mw_vret cx hr rfl dX12_repeat_115
        · refine mw_aload_n cx (q := 86) 1 rfl rfl dX12_repeat_85 rfl ?_
          refine mw_get cx (q := 89) (v := .ref (ad 12 37 0)) gf_X12_116 rfl rfl vi_12_0 dX12_repeat_86 rfl ?_
          refine mw_iload_n cx (q := 90) 2 rfl rfl dX12_repeat_89 rfl ?_
          refine mw_dup2 cx (q := 91) dX12_repeat_90 rfl rfl rfl ?_
          refine mw_iald cx (q := 92) (w := ((M 12) 37 0 p1)) rfl (fun _ => rfl) vi_12_37 hp1 dX12_repeat_91 rfl ?_
          refine mw_iconst cx (q := 93) (v := 1) dX12_repeat_92 rfl rfl ?_
          refine mw_iadd cx (q := 94) dX12_repeat_93 rfl ?_
          refine mw_iastC cx (q := 95) (fun _ => rfl) (by decide) vi_12_37 hp1 (by decide) dX12_repeat_94 rfl (fun m14 em14 => ?_)
          have ok15 : OkT (M 12) m14 := (by rw [em14]; exact okT_putA ok0 (by decide))
          refine mw_aload_n cx (q := 96) 1 rfl rfl dX12_repeat_95 rfl ?_
          refine mw_iload_n cx (q := 97) 2 rfl rfl dX12_repeat_96 rfl ?_
          refine mw_aload_n cx (q := 98) 1 rfl rfl dX12_repeat_97 rfl ?_
          refine mw_get cx (q := 101) (v := .ref (ad 12 35 0)) gf_X12_110 rfl rfl vi_12_0 dX12_repeat_98 rfl ?_
          refine mw_iload_n cx (q := 102) 2 rfl rfl dX12_repeat_101 rfl ?_
          refine mw_iald cx (q := 103) (w := ((M 12) 35 0 p1)) (by rw [em14]; rfl) (fun _ => rfl) vi_12_35 hp1 dX12_repeat_102 rfl ?_
          refine mw_bnd (fun r16 er16 => ?_)
          refine mw_callV cx (q := 106) (d := 0) (As := [.int p1, .int ((M 12) 35 0 p1)]) (z := fvc (uW M 12 m14) 12 r16) (st := []) (st1 := []) (M' := uW M 12 r16) (by rw [er16]; exact mc_X12_valueNext l D ta ad (uW M 12 m14) p1 ((M 12) 35 0 p1) hp1) cv_X12_323 rfl rfl rfl vi_12_0 ⟨Nat.le_of_ble_eq_true rfl, Nat.le_of_ble_eq_true rfl⟩ ⟨Nat.le_refl _, Nat.le_refl _⟩ (by simp [Value.category]) rfl rfl (by exact uW_uW _ _ _ _) dX12_repeat_103 rfl ?_
          refine mw_goto cx (tgt := 115) dX12_repeat_106 (by decide) ?_
          exact mw_vret cx hr rfl dX12_repeat_115
      · refine mw_aload_n cx (q := 61) 1 rfl rfl dX12_repeat_60 rfl ?_
        refine mw_get cx (q := 64) (v := .int ((M 12) 0 0 62)) gf_X12_232 rfl rfl vi_12_0 dX12_repeat_61 rfl ?_
        refine mw_if_ne cx (tgt := 80) (q := 67) dX12_repeat_64 (by decide) rfl (fun h17 => ?_) (fun h17 => ?_)
        · refine mw_iload_n cx (q := 81) 0 rfl rfl dX12_repeat_80 rfl ?_
          refine mw_iconst cx (q := 82) (v := (-1)) dX12_repeat_81 rfl rfl ?_
          refine mw_icmp_ne cx (tgt := 109) (q := 85) dX12_repeat_82 (by decide) rfl (fun h18 => ?_) (fun h18 => ?_)
          · refine mw_aload_n cx (q := 110) 1 rfl rfl dX12_repeat_109 rfl ?_
            refine mw_iload_n cx (q := 111) 2 rfl rfl dX12_repeat_110 rfl ?_
            refine mw_iload_n cx (q := 112) 0 rfl rfl dX12_repeat_111 rfl ?_
            refine mw_bnd (fun r19 er19 => ?_)
            refine mw_callV cx (q := 115) (d := 0) (As := [.int p1, .int v1]) (z := fvc (uW M 12 (M 12)) 12 r19) (st := []) (st1 := []) (M' := uW M 12 r19) (by rw [er19]; exact mc_X12_valueNext l D ta ad (uW M 12 (M 12)) p1 v1 hp1) cv_X12_323 rfl rfl rfl vi_12_0 ⟨Nat.le_of_ble_eq_true rfl, Nat.le_of_ble_eq_true rfl⟩ ⟨Nat.le_refl _, Nat.le_refl _⟩ (by simp [Value.category]) rfl rfl (by exact uW_uW _ _ _ _) dX12_repeat_112 rfl ?_
            exact mw_vret cx hr rfl dX12_repeat_115
          · refine mw_aload_n cx (q := 86) 1 rfl rfl dX12_repeat_85 rfl ?_
            refine mw_get cx (q := 89) (v := .ref (ad 12 37 0)) gf_X12_116 rfl rfl vi_12_0 dX12_repeat_86 rfl ?_
            refine mw_iload_n cx (q := 90) 2 rfl rfl dX12_repeat_89 rfl ?_
            refine mw_dup2 cx (q := 91) dX12_repeat_90 rfl rfl rfl ?_
            refine mw_iald cx (q := 92) (w := ((M 12) 37 0 p1)) rfl (fun _ => rfl) vi_12_37 hp1 dX12_repeat_91 rfl ?_
            refine mw_iconst cx (q := 93) (v := 1) dX12_repeat_92 rfl rfl ?_
            refine mw_iadd cx (q := 94) dX12_repeat_93 rfl ?_
            refine mw_iastC cx (q := 95) (fun _ => rfl) (by decide) vi_12_37 hp1 (by decide) dX12_repeat_94 rfl (fun m20 em20 => ?_)
            have ok21 : OkT (M 12) m20 := (by rw [em20]; exact okT_putA ok0 (by decide))
            refine mw_aload_n cx (q := 96) 1 rfl rfl dX12_repeat_95 rfl ?_
            refine mw_iload_n cx (q := 97) 2 rfl rfl dX12_repeat_96 rfl ?_
            refine mw_aload_n cx (q := 98) 1 rfl rfl dX12_repeat_97 rfl ?_
            refine mw_get cx (q := 101) (v := .ref (ad 12 35 0)) gf_X12_110 rfl rfl vi_12_0 dX12_repeat_98 rfl ?_
            refine mw_iload_n cx (q := 102) 2 rfl rfl dX12_repeat_101 rfl ?_
            refine mw_iald cx (q := 103) (w := ((M 12) 35 0 p1)) (by rw [em20]; rfl) (fun _ => rfl) vi_12_35 hp1 dX12_repeat_102 rfl ?_
            refine mw_bnd (fun r22 er22 => ?_)
            refine mw_callV cx (q := 106) (d := 0) (As := [.int p1, .int ((M 12) 35 0 p1)]) (z := fvc (uW M 12 m20) 12 r22) (st := []) (st1 := []) (M' := uW M 12 r22) (by rw [er22]; exact mc_X12_valueNext l D ta ad (uW M 12 m20) p1 ((M 12) 35 0 p1) hp1) cv_X12_323 rfl rfl rfl vi_12_0 ⟨Nat.le_of_ble_eq_true rfl, Nat.le_of_ble_eq_true rfl⟩ ⟨Nat.le_refl _, Nat.le_refl _⟩ (by simp [Value.category]) rfl rfl (by exact uW_uW _ _ _ _) dX12_repeat_103 rfl ?_
            refine mw_goto cx (tgt := 115) dX12_repeat_106 (by decide) ?_
            exact mw_vret cx hr rfl dX12_repeat_115
        · refine mw_aload_n cx (q := 68) 1 rfl rfl dX12_repeat_67 rfl ?_
          refine mw_aload_n cx (q := 69) 1 rfl rfl dX12_repeat_68 rfl ?_
          refine mw_get cx (q := 72) (v := .ref (ad 12 37 0)) gf_X12_116 rfl rfl vi_12_0 dX12_repeat_69 rfl ?_
          refine mw_iload_n cx (q := 73) 2 rfl rfl dX12_repeat_72 rfl ?_
          refine mw_iald cx (q := 74) (w := ((M 12) 37 0 p1)) rfl (fun _ => rfl) vi_12_37 hp1 dX12_repeat_73 rfl ?_
          refine mw_bnd (fun r23 er23 => ?_)
          refine mw_callV cx (q := 77) (d := 0) (As := [.int ((M 12) 37 0 p1)]) (z := fvc (uW M 12 (M 12)) 12 r23) (st := []) (st1 := []) (M' := uW M 12 r23) (by rw [er23]; exact mc_X12_finish l D ta ad (uW M 12 (M 12)) ((M 12) 37 0 p1)) cv_X12_330 rfl rfl rfl vi_12_0 ⟨Nat.le_of_ble_eq_true rfl, Nat.le_of_ble_eq_true rfl⟩ ⟨Nat.le_refl _, Nat.le_refl _⟩ (by simp [Value.category]) rfl rfl (by exact uW_uW _ _ _ _) dX12_repeat_74 rfl ?_
          refine mw_goto cx (tgt := 115) dX12_repeat_77 (by decide) ?_
          exact mw_vret cx hr rfl dX12_repeat_115
  · refine mw_icmp_ne cx (tgt := 19) (q := 10) dX12_repeat_7 (by decide) rfl (fun h3 => ?_) (fun h3 => ?_)
    · refine mw_aload_n cx (q := 20) 0 rfl rfl dX12_repeat_19 rfl ?_
      refine mw_aload_n cx (q := 21) 0 rfl rfl dX12_repeat_20 rfl ?_
      refine mw_get cx (q := 24) (v := .ref (ad 12 31 0)) gf_X12_98 rfl rfl vi_12_0 dX12_repeat_21 rfl ?_
      refine mw_iload_n cx (q := 25) 1 rfl rfl dX12_repeat_24 rfl ?_
      refine mw_iald cx (q := 26) (w := ((M 12) 31 0 p1)) rfl (fun _ => rfl) vi_12_31 hp1 dX12_repeat_25 rfl ?_
      refine mw_aload_n cx (q := 27) 0 rfl rfl dX12_repeat_26 rfl ?_
      refine mw_get cx (q := 30) (v := .ref (ad 12 34 0)) gf_X12_107 rfl rfl vi_12_0 dX12_repeat_27 rfl ?_
      refine mw_iload_n cx (q := 31) 1 rfl rfl dX12_repeat_30 rfl ?_
      refine mw_iald cx (q := 32) (w := ((M 12) 34 0 p1)) rfl (fun _ => rfl) vi_12_34 hp1 dX12_repeat_31 rfl ?_
      refine mw_bnd (fun r4 er4 => ?_)
      refine mw_callV cx (q := 35) (d := 3) (As := [.int ((M 12) 31 0 p1), .int ((M 12) 34 0 p1)]) (z := fip (uW M 12 (M 12)) r4) (st := []) (st1 := [.int r4]) (M' := (uW M 12 (M 12))) (by rw [er4]; exact mc_X12_following l D ta ad (uW M 12 (M 12)) ((M 12) 31 0 p1) ((M 12) 34 0 p1) hok (ok0.1.pS _ hp1) hT (hN.resolve_left h3)) cv_X12_201 rfl rfl rfl vi_12_0 ⟨Nat.le_of_ble_eq_true rfl, Nat.le_of_ble_eq_true rfl⟩ ⟨Nat.le_refl _, Nat.le_refl _⟩ (by simp [Value.category]) rfl rfl rfl dX12_repeat_32 rfl ?_
      have qr40 : Nx12 (M 12) ((M 12) 31 0 p1) r4 := (by rw [er4]; exact following_n hok (ok0.1.pS _ hp1) hT (hN.resolve_left h3))
      exact hK2 r4
    · refine mw_aload_n cx (q := 11) 0 rfl rfl dX12_repeat_10 rfl ?_
      refine mw_get cx (q := 14) (v := .ref (ad 12 35 0)) gf_X12_110 rfl rfl vi_12_0 dX12_repeat_11 rfl ?_
      refine mw_iload_n cx (q := 15) 1 rfl rfl dX12_repeat_14 rfl ?_
      refine mw_iald cx (q := 16) (w := ((M 12) 35 0 p1)) rfl (fun _ => rfl) vi_12_35 hp1 dX12_repeat_15 rfl ?_
      refine mw_goto cx (tgt := 35) dX12_repeat_16 (by decide) ?_
      exact hK2 ((M 12) 35 0 p1)
def f12_goThrough (m : Cm) (p1 : Int32) : Cm := jn (fun (v1 : Bool) => if (m 33 0 p1) = 0 then bnd (u3 m 40 0 p1 (m 0 0 49)) (fun (m18 : Cm) => jn (fun (v20 : Int32) => bnd (f12_valueNext m18 p1 v20) (fun (r24 : Cm) => r24)) (fun K21 => if v1 = true then bnd (f12_following m18 (m 31 0 p1) (m 35 0 p1)) (fun (r23 : Int32) => K21 r23) else K21 (m 35 0 p1))) else jn (fun (v5 : Cm) => bnd (f12_following v5 (v5 31 0 p1) (v5 34 0 p1)) (fun (r12 : Int32) => if r12 = (-1) then bnd (u3 v5 0 0 49 (v5 40 0 p1)) (fun (m15 : Cm) => bnd (f12_finish m15 (v5 0 0 62)) (fun (r17 : Cm) => r17)) else bnd (f12_valueNext v5 p1 r12) (fun (r14 : Cm) => r14))) (fun K6 => if v1 = true then if (m 33 0 p1) = 1 then bnd (f12_nameAt m (m 31 0 p1) (m 35 0 p1)) (fun (r9 : Int32) => bnd (f12_bind m r9 (m 0 0 62)) (fun (r10 : Cm) => K6 r10)) else K6 m else K6 m)) (fun K2 => if (m 32 0 p1) = 15 then K2 true else K2 false)
set_option maxHeartbeats 4000000 in
set_option maxRecDepth 100000 in
theorem mc_X12_goThrough (l : Launch) (D : va_G) (ta : wTa) (ad : wAd) (M : Wm) (p1 : Int32) (hok : Ok12 (M 12)) (hp1 : vp_in p1 32) (hT : Tx12 (M 12) ((M 12) 31 0 p1)) (hF : ((M 12) 32 0 p1) = 15 → Ix12 (M 12) ((M 12) 31 0 p1) ((M 12) 35 0 p1)) (hn : ¬ ((M 12) 33 0 p1) = 0 → Ix12 (M 12) ((M 12) 31 0 p1) ((M 12) 34 0 p1)) (ht : ((M 12) 0 0 49).toInt < 100) : MC l D ta ad yX12_goThrough cX12_goThrough 4 none 4 [.ref (ad 12 0 0), .int p1] M (fvc M 12 (f12_goThrough (M 12) p1)) := by
  refine MC.of (fvc M 12) (f12_goThrough (M 12) p1) rfl (by decide) (Nat.le_of_ble_eq_true rfl) (fun p e s m args below meth c cx hr => ?_)
  unfold f12_goThrough
  refine mw_sub (lv' := [(0, .ref (ad 12 0 0)), (1, .int p1)]) [0, 1] rfl ?_
  refine mw_eqM (uW_self M 12) ?_
  have ok0 : OkT (M 12) (M 12) := ⟨hok, rfl, rfl⟩
  refine mw_aload_n cx (q := 1) 0 rfl rfl dX12_goThrough_0 rfl ?_
  refine mw_get cx (q := 4) (v := .ref (ad 12 32 0)) gf_X12_101 rfl rfl vi_12_0 dX12_goThrough_1 rfl ?_
  refine mw_iload_n cx (q := 5) 1 rfl rfl dX12_goThrough_4 rfl ?_
  refine mw_iald cx (q := 6) (w := ((M 12) 32 0 p1)) rfl (fun _ => rfl) vi_12_32 hp1 dX12_goThrough_5 rfl ?_
  refine mw_bipush cx (q := 8) (v := 15) dX12_goThrough_6 rfl rfl ?_
  refine mw_jnP (P := fun (v1 : Bool) => (v1 = true → ((M 12) 32 0 p1) = 15)) (Mj := fun (v1 : Bool) => (uW M 12 (M 12))) (pj := 16) (lj := fun (v1 : Bool) => [(0, .ref (ad 12 0 0)), (1, .int p1)]) (sj := fun (v1 : Bool) => [.int (b2i v1)]) (fun v1 jv1 => ?_) (fun K2 hK2 => ?_)
  · have jv1_0 := jv1
    refine mw_istore_n cx (q := 17) (lv' := [(2, .int (b2i v1)), (0, .ref (ad 12 0 0)), (1, .int p1)]) rfl rfl (by decide) dX12_goThrough_16 rfl ?_
    refine mw_aload_n cx (q := 18) 1 rfl rfl dX12_goThrough_17 rfl ?_
    refine mw_get cx (q := 21) (v := .ref (ad 12 33 0)) gf_X12_104 rfl rfl vi_12_0 dX12_goThrough_18 rfl ?_
    refine mw_iload_n cx (q := 22) 2 rfl rfl dX12_goThrough_21 rfl ?_
    refine mw_iald cx (q := 23) (w := ((M 12) 33 0 p1)) rfl (fun _ => rfl) vi_12_33 hp1 dX12_goThrough_22 rfl ?_
    refine mw_if_ne cx (tgt := 71) (q := 26) dX12_goThrough_23 (by decide) rfl (fun h4 => ?_) (fun h4 => ?_)
    · refine mw_iload_n cx (q := 72) 0 rfl rfl dX12_goThrough_71 rfl ?_
      refine mw_jnP (P := fun (v5 : Cm) => (OkT (M 12) v5)) (Mj := fun (v5 : Cm) => (uW M 12 v5)) (pj := 109) (lj := fun (v5 : Cm) => [(0, .ref (ad 12 0 0)), (1, .int p1)]) (sj := fun (v5 : Cm) => []) (fun v5 jv5 => ?_) (fun K6 hK6 => ?_)
      · have jv5_0 := jv5
        refine mw_aload_n cx (q := 110) 0 rfl rfl dX12_goThrough_109 rfl ?_
        refine mw_aload_n cx (q := 111) 0 rfl rfl dX12_goThrough_110 rfl ?_
        refine mw_get cx (q := 114) (v := .ref (ad 12 31 0)) gf_X12_98 rfl rfl vi_12_0 dX12_goThrough_111 rfl ?_
        refine mw_iload_n cx (q := 115) 1 rfl rfl dX12_goThrough_114 rfl ?_
        refine mw_iald cx (q := 116) (w := (v5 31 0 p1)) rfl (fun _ => rfl) vi_12_31 hp1 dX12_goThrough_115 rfl ?_
        refine mw_aload_n cx (q := 117) 0 rfl rfl dX12_goThrough_116 rfl ?_
        refine mw_get cx (q := 120) (v := .ref (ad 12 34 0)) gf_X12_107 rfl rfl vi_12_0 dX12_goThrough_117 rfl ?_
        refine mw_iload_n cx (q := 121) 1 rfl rfl dX12_goThrough_120 rfl ?_
        refine mw_iald cx (q := 122) (w := (v5 34 0 p1)) rfl (fun _ => rfl) vi_12_34 hp1 dX12_goThrough_121 rfl ?_
        refine mw_bnd (fun r12 er12 => ?_)
        refine mw_callV cx (q := 125) (d := 3) (As := [.int (v5 31 0 p1), .int (v5 34 0 p1)]) (z := fip (uW M 12 v5) r12) (st := []) (st1 := [.int r12]) (M' := (uW M 12 v5)) (by rw [er12]; exact mc_X12_following l D ta ad (uW M 12 v5) (v5 31 0 p1) (v5 34 0 p1) (jv5_0.1) (jv5_0.1.pS _ hp1) (by (try simp only [vp_in_iff, i32lt, i32le, i32eq, i32add, i32sub, i32mul, i32neg, t32_0, t32_15, t32_31, t32_32, t32_33, t32_34, t32_35] at hp1 hT hF hn ok0 jv1_0 h4 jv5_0 hok ⊢); omega) (by (try simp only [vp_in_iff, i32lt, i32le, i32eq, i32add, i32sub, i32mul, i32neg, t32_0, t32_15, t32_31, t32_32, t32_33, t32_34, t32_35] at hp1 hT hF hn ok0 jv1_0 h4 jv5_0 hok ⊢); omega)) cv_X12_201 rfl rfl rfl vi_12_0 ⟨Nat.le_of_ble_eq_true rfl, Nat.le_of_ble_eq_true rfl⟩ ⟨Nat.le_refl _, Nat.le_refl _⟩ (by simp [Value.category]) rfl rfl rfl dX12_goThrough_122 rfl ?_
        have qr120 : Nx12 v5 (v5 31 0 p1) r12 := (by rw [er12]; exact following_n (jv5_0.1) (jv5_0.1.pS _ hp1) (by (try simp only [vp_in_iff, i32lt, i32le, i32eq, i32add, i32sub, i32mul, i32neg, t32_0, t32_15, t32_31, t32_32, t32_33, t32_34, t32_35] at hp1 hT hF hn ok0 jv1_0 h4 jv5_0 hok ⊢); omega) (by (try simp only [vp_in_iff, i32lt, i32le, i32eq, i32add, i32sub, i32mul, i32neg, t32_0, t32_15, t32_31, t32_32, t32_33, t32_34, t32_35] at hp1 hT hF hn ok0 jv1_0 h4 jv5_0 hok ⊢); omega))
        refine mw_istore_n cx (q := 126) (lv' := [(3, .int r12), (0, .ref (ad 12 0 0)), (1, .int p1)]) rfl rfl (by decide) dX12_goThrough_125 rfl ?_
        refine mw_iload_n cx (q := 127) 0 rfl rfl dX12_goThrough_126 rfl ?_
        refine mw_iconst cx (q := 128) (v := (-1)) dX12_goThrough_127 rfl rfl ?_
        refine mw_icmp_ne cx (tgt := 152) (q := 131) dX12_goThrough_128 (by decide) rfl (fun h13 => ?_) (fun h13 => ?_)
        · refine mw_aload_n cx (q := 153) 1 rfl rfl dX12_goThrough_152 rfl ?_
          refine mw_iload_n cx (q := 154) 2 rfl rfl dX12_goThrough_153 rfl ?_
          refine mw_iload_n cx (q := 155) 0 rfl rfl dX12_goThrough_154 rfl ?_
          refine mw_bnd (fun r14 er14 => ?_)
          refine mw_callV cx (q := 158) (d := 0) (As := [.int p1, .int r12]) (z := fvc (uW M 12 v5) 12 r14) (st := []) (st1 := []) (M' := uW M 12 r14) (by rw [er14]; exact mc_X12_valueNext l D ta ad (uW M 12 v5) p1 r12 hp1) cv_X12_323 rfl rfl rfl vi_12_0 ⟨Nat.le_of_ble_eq_true rfl, Nat.le_of_ble_eq_true rfl⟩ ⟨Nat.le_refl _, Nat.le_refl _⟩ (by simp [Value.category]) rfl rfl (by exact uW_uW _ _ _ _) dX12_goThrough_155 rfl ?_
          exact mw_vret cx hr rfl dX12_goThrough_158
        · refine mw_aload_n cx (q := 132) 1 rfl rfl dX12_goThrough_131 rfl ?_
          refine mw_aload_n cx (q := 133) 1 rfl rfl dX12_goThrough_132 rfl ?_
          refine mw_get cx (q := 136) (v := .ref (ad 12 40 0)) gf_X12_125 rfl rfl vi_12_0 dX12_goThrough_133 rfl ?_
          refine mw_iload_n cx (q := 137) 2 rfl rfl dX12_goThrough_136 rfl ?_
          refine mw_iald cx (q := 138) (w := (v5 40 0 p1)) rfl (fun _ => rfl) vi_12_40 hp1 dX12_goThrough_137 rfl ?_
          refine mw_putC cx (q := 141) 49 gf_X12_251 pf_X12_49 (int_fit _) rfl (Nat.le_of_ble_eq_true rfl) rfl vi_12_0 (by decide) dX12_goThrough_138 rfl (fun m15 em15 => ?_)
          have ok16 : OkT (M 12) m15 := (by rw [em15]; exact okT_put0 jv5_0 (by decide))
          refine mw_aload_n cx (q := 142) 1 rfl rfl dX12_goThrough_141 rfl ?_
          refine mw_aload_n cx (q := 143) 1 rfl rfl dX12_goThrough_142 rfl ?_
          refine mw_get cx (q := 146) (v := .int (v5 0 0 62)) gf_X12_232 rfl (by rw [em15]; rfl) vi_12_0 dX12_goThrough_143 rfl ?_
          refine mw_bnd (fun r17 er17 => ?_)
          refine mw_callV cx (q := 149) (d := 0) (As := [.int (v5 0 0 62)]) (z := fvc (uW M 12 m15) 12 r17) (st := []) (st1 := []) (M' := uW M 12 r17) (by rw [er17]; exact mc_X12_finish l D ta ad (uW M 12 m15) (v5 0 0 62)) cv_X12_330 rfl rfl rfl vi_12_0 ⟨Nat.le_of_ble_eq_true rfl, Nat.le_of_ble_eq_true rfl⟩ ⟨Nat.le_refl _, Nat.le_refl _⟩ (by simp [Value.category]) rfl rfl (by exact uW_uW _ _ _ _) dX12_goThrough_146 rfl ?_
          refine mw_goto cx (tgt := 158) dX12_goThrough_149 (by decide) ?_
          exact mw_vret cx hr rfl dX12_goThrough_158
      · refine mw_ifb_eq cx (tgt := 109) (q := 75) dX12_goThrough_72 (by decide) rfl (fun h7 => ?_) (fun h7 => ?_)
        · refine mw_sub [1, 2] rfl ?_
          exact hK6 (M 12) ok0
        · refine mw_aload_n cx (q := 76) 1 rfl rfl dX12_goThrough_75 rfl ?_
          refine mw_get cx (q := 79) (v := .ref (ad 12 33 0)) gf_X12_104 rfl rfl vi_12_0 dX12_goThrough_76 rfl ?_
          refine mw_iload_n cx (q := 80) 2 rfl rfl dX12_goThrough_79 rfl ?_
          refine mw_iald cx (q := 81) (w := ((M 12) 33 0 p1)) rfl (fun _ => rfl) vi_12_33 hp1 dX12_goThrough_80 rfl ?_
          refine mw_iconst cx (q := 82) (v := 1) dX12_goThrough_81 rfl rfl ?_
          refine mw_icmp_ne cx (tgt := 109) (q := 85) dX12_goThrough_82 (by decide) rfl (fun h8 => ?_) (fun h8 => ?_)
          · refine mw_sub [1, 2] rfl ?_
            exact hK6 (M 12) ok0
          · refine mw_aload_n cx (q := 86) 1 rfl rfl dX12_goThrough_85 rfl ?_
            refine mw_aload_n cx (q := 87) 1 rfl rfl dX12_goThrough_86 rfl ?_
            refine mw_aload_n cx (q := 88) 1 rfl rfl dX12_goThrough_87 rfl ?_
            refine mw_get cx (q := 91) (v := .ref (ad 12 31 0)) gf_X12_98 rfl rfl vi_12_0 dX12_goThrough_88 rfl ?_
            refine mw_iload_n cx (q := 92) 2 rfl rfl dX12_goThrough_91 rfl ?_
            refine mw_iald cx (q := 93) (w := ((M 12) 31 0 p1)) rfl (fun _ => rfl) vi_12_31 hp1 dX12_goThrough_92 rfl ?_
            refine mw_aload_n cx (q := 94) 1 rfl rfl dX12_goThrough_93 rfl ?_
            refine mw_get cx (q := 97) (v := .ref (ad 12 35 0)) gf_X12_110 rfl rfl vi_12_0 dX12_goThrough_94 rfl ?_
            refine mw_iload_n cx (q := 98) 2 rfl rfl dX12_goThrough_97 rfl ?_
            refine mw_iald cx (q := 99) (w := ((M 12) 35 0 p1)) rfl (fun _ => rfl) vi_12_35 hp1 dX12_goThrough_98 rfl ?_
            refine mw_bnd (fun r9 er9 => ?_)
            refine mw_callV cx (q := 102) (d := 2) (As := [.int ((M 12) 31 0 p1), .int ((M 12) 35 0 p1)]) (z := fip (uW M 12 (M 12)) r9) (st := [.ref (ad 12 0 0)]) (st1 := [.int r9, .ref (ad 12 0 0)]) (M' := (uW M 12 (M 12))) (by rw [er9]; exact mc_X12_nameAt l D ta ad (uW M 12 (M 12)) ((M 12) 31 0 p1) ((M 12) 35 0 p1) hok (ok0.1.pS _ hp1) (hF (jv1_0 h7))) cv_X12_211 rfl rfl rfl vi_12_0 ⟨Nat.le_of_ble_eq_true rfl, Nat.le_of_ble_eq_true rfl⟩ ⟨Nat.le_refl _, Nat.le_refl _⟩ (by simp [Value.category]) rfl rfl rfl dX12_goThrough_99 rfl ?_
            refine mw_aload_n cx (q := 103) 1 rfl rfl dX12_goThrough_102 rfl ?_
            refine mw_get cx (q := 106) (v := .int ((M 12) 0 0 62)) gf_X12_232 rfl rfl vi_12_0 dX12_goThrough_103 rfl ?_
            refine mw_bnd (fun r10 er10 => ?_)
            refine mw_callV cx (q := 109) (d := 0) (As := [.int r9, .int ((M 12) 0 0 62)]) (z := fvc (uW M 12 (M 12)) 12 r10) (st := []) (st1 := []) (M' := uW M 12 r10) (by rw [er10]; exact mc_X12_bind l D ta ad (uW M 12 (M 12)) r9 ((M 12) 0 0 62) hok ht) cv_X12_333 rfl rfl rfl vi_12_0 ⟨Nat.le_of_ble_eq_true rfl, Nat.le_of_ble_eq_true rfl⟩ ⟨Nat.le_refl _, Nat.le_refl _⟩ (by simp [Value.category]) rfl rfl (by exact uW_uW _ _ _ _) dX12_goThrough_106 rfl ?_
            have ok11 : OkT (M 12) r10 := (by rw [er10]; exact okT_f12_bind ok0 r9 ((M 12) 0 0 62) ht)
            refine mw_sub [1, 2] rfl ?_
            exact hK6 r10 ok11
    · refine mw_aload_n cx (q := 27) 1 rfl rfl dX12_goThrough_26 rfl ?_
      refine mw_get cx (q := 30) (v := .ref (ad 12 40 0)) gf_X12_125 rfl rfl vi_12_0 dX12_goThrough_27 rfl ?_
      refine mw_iload_n cx (q := 31) 2 rfl rfl dX12_goThrough_30 rfl ?_
      refine mw_aload_n cx (q := 32) 1 rfl rfl dX12_goThrough_31 rfl ?_
      refine mw_get cx (q := 35) (v := .int ((M 12) 0 0 49)) gf_X12_251 rfl rfl vi_12_0 dX12_goThrough_32 rfl ?_
      refine mw_iastC cx (q := 36) (fun _ => rfl) (by decide) vi_12_40 hp1 (by decide) dX12_goThrough_35 rfl (fun m18 em18 => ?_)
      have ok19 : OkT (M 12) m18 := (by rw [em18]; exact okT_putA ok0 (by decide))
      refine mw_aload_n cx (q := 37) 1 rfl rfl dX12_goThrough_36 rfl ?_
      refine mw_iload_n cx (q := 38) 2 rfl rfl dX12_goThrough_37 rfl ?_
      refine mw_iload_n cx (q := 39) 0 rfl rfl dX12_goThrough_38 rfl ?_
      refine mw_jn (Mj := fun (v20 : Int32) => (uW M 12 m18)) (pj := 67) (lj := fun (v20 : Int32) => []) (sj := fun (v20 : Int32) => [.int v20, .int p1, .ref (ad 12 0 0)]) (fun v20 => ?_) (fun K21 hK21 => ?_)
      · refine mw_bnd (fun r24 er24 => ?_)
        refine mw_callV cx (q := 70) (d := 0) (As := [.int p1, .int v20]) (z := fvc (uW M 12 m18) 12 r24) (st := []) (st1 := []) (M' := uW M 12 r24) (by rw [er24]; exact mc_X12_valueNext l D ta ad (uW M 12 m18) p1 v20 hp1) cv_X12_323 rfl rfl rfl vi_12_0 ⟨Nat.le_of_ble_eq_true rfl, Nat.le_of_ble_eq_true rfl⟩ ⟨Nat.le_refl _, Nat.le_refl _⟩ (by simp [Value.category]) rfl rfl (by exact uW_uW _ _ _ _) dX12_goThrough_67 rfl ?_
        exact mw_vret cx hr rfl dX12_goThrough_70
      · refine mw_ifb_eq cx (tgt := 61) (q := 42) dX12_goThrough_39 (by decide) rfl (fun h22 => ?_) (fun h22 => ?_)
        · refine mw_aload_n cx (q := 62) 1 rfl rfl dX12_goThrough_61 rfl ?_
          refine mw_get cx (q := 65) (v := .ref (ad 12 35 0)) gf_X12_110 rfl rfl vi_12_0 dX12_goThrough_62 rfl ?_
          refine mw_iload_n cx (q := 66) 2 rfl rfl dX12_goThrough_65 rfl ?_
          refine mw_iald cx (q := 67) (w := ((M 12) 35 0 p1)) (by rw [em18]; rfl) (fun _ => rfl) vi_12_35 hp1 dX12_goThrough_66 rfl ?_
          refine mw_sub [] rfl ?_
          exact hK21 ((M 12) 35 0 p1)
        · refine mw_aload_n cx (q := 43) 1 rfl rfl dX12_goThrough_42 rfl ?_
          refine mw_aload_n cx (q := 44) 1 rfl rfl dX12_goThrough_43 rfl ?_
          refine mw_get cx (q := 47) (v := .ref (ad 12 31 0)) gf_X12_98 rfl rfl vi_12_0 dX12_goThrough_44 rfl ?_
          refine mw_iload_n cx (q := 48) 2 rfl rfl dX12_goThrough_47 rfl ?_
          refine mw_iald cx (q := 49) (w := ((M 12) 31 0 p1)) (by rw [em18]; rfl) (fun _ => rfl) vi_12_31 hp1 dX12_goThrough_48 rfl ?_
          refine mw_aload_n cx (q := 50) 1 rfl rfl dX12_goThrough_49 rfl ?_
          refine mw_get cx (q := 53) (v := .ref (ad 12 35 0)) gf_X12_110 rfl rfl vi_12_0 dX12_goThrough_50 rfl ?_
          refine mw_iload_n cx (q := 54) 2 rfl rfl dX12_goThrough_53 rfl ?_
          refine mw_iald cx (q := 55) (w := ((M 12) 35 0 p1)) (by rw [em18]; rfl) (fun _ => rfl) vi_12_35 hp1 dX12_goThrough_54 rfl ?_
          refine mw_bnd (fun r23 er23 => ?_)
          refine mw_callV cx (q := 58) (d := 3) (As := [.int ((M 12) 31 0 p1), .int ((M 12) 35 0 p1)]) (z := fip (uW M 12 m18) r23) (st := [.int p1, .ref (ad 12 0 0)]) (st1 := [.int r23, .int p1, .ref (ad 12 0 0)]) (M' := (uW M 12 m18)) (by rw [er23]; exact mc_X12_following l D ta ad (uW M 12 m18) ((M 12) 31 0 p1) ((M 12) 35 0 p1) (by rw [em18]; exact hok) (ok19.1.pS _ hp1) (by rw [em18]; exact hT) (by (try simp only [vp_in_iff, i32lt, i32le, i32eq, i32add, i32sub, i32mul, i32neg, t32_0, t32_15, t32_31, t32_32, t32_33, t32_34, t32_35] at hp1 hT hF hn ok0 jv1_0 h4 ok19 h22 hok ⊢); omega)) cv_X12_201 rfl rfl rfl vi_12_0 ⟨Nat.le_of_ble_eq_true rfl, Nat.le_of_ble_eq_true rfl⟩ ⟨Nat.le_refl _, Nat.le_refl _⟩ (by simp [Value.category]) rfl rfl rfl dX12_goThrough_55 rfl ?_
          have qr230 : Nx12 m18 (m18 31 0 p1) r23 := (by rw [er23]; exact following_n (by rw [em18]; exact hok) (ok19.1.pS _ hp1) (by rw [em18]; exact hT) (by (try simp only [vp_in_iff, i32lt, i32le, i32eq, i32add, i32sub, i32mul, i32neg, t32_0, t32_15, t32_31, t32_32, t32_33, t32_34, t32_35] at hp1 hT hF hn ok0 jv1_0 h4 ok19 h22 hok ⊢); omega))
          refine mw_goto cx (tgt := 67) dX12_goThrough_58 (by decide) ?_
          refine mw_sub [] rfl ?_
          exact hK21 r23
  · refine mw_icmp_ne cx (tgt := 15) (q := 11) dX12_goThrough_8 (by decide) rfl (fun h3 => ?_) (fun h3 => ?_)
    · refine mw_iconst cx (q := 16) (v := 0) dX12_goThrough_15 rfl rfl ?_
      exact hK2 false (by intro hz; first | exact absurd hz (by decide) | exact (by (try simp only [vp_in_iff, i32lt, i32le, i32eq, i32add, i32sub, i32mul, i32neg, t32_0, t32_15, t32_31, t32_32, t32_33, t32_34, t32_35] at hp1 hT hF hn ok0 h3 hok ⊢); omega))
    · refine mw_iconst cx (q := 12) (v := 1) dX12_goThrough_11 rfl rfl ?_
      refine mw_goto cx (tgt := 16) dX12_goThrough_12 (by decide) ?_
      exact hK2 true (by intro hz; first | exact absurd hz (by decide) | exact h3)
def f12_manage (m : Cm) (p1 : Int32) : Cm := bnd ((m 32 0 p1)) (fun (v1 : Int32) => bnd ((m 33 0 p1)) (fun (v2 : Int32) => if v1 = 24 then jn (fun (v4 : Int32) => bnd (f12_finish m v4) (fun (r7 : Cm) => r7)) (fun K5 => if v1 = 24 then K5 (m 6 0 (m 0 0 57)) else K5 (m 0 0 10)) else if v1 = 25 then jn (fun (v50 : Int32) => bnd (f12_finish m v50) (fun (r53 : Cm) => r53)) (fun K51 => if v1 = 24 then K51 (m 6 0 (m 0 0 57)) else K51 (m 0 0 10)) else if v2 = 0 then bnd (f12_valueNext m p1 (m 35 0 p1)) (fun (r49 : Cm) => r49) else if v1 = 23 then if 0 ≤ (m 0 0 62) then jn (fun (v42 : Int32) => bnd (f12_buyFuel m (m 0 0 57) v42) (fun (r45 : Int32 × Cm) => bnd (f12_finish r45.2 r45.1) (fun (r46 : Cm) => r46))) (fun K43 => if (m 5 0 (m 0 0 57)) ≤ (m 0 0 62) then K43 (m 5 0 (m 0 0 57)) else K43 (m 0 0 62)) else bnd (u3 m 0 0 63 6) (fun (m47 : Cm) => m47) else if 3 ≤ v2 then bnd (f12_in (m 36 0 p1) 1 100) (fun (r12 : Bool) => if r12 = true then bnd (f12_isScript (m 37 0 p1)) (fun (r16 : Bool) => if r16 = true then bnd (f12_in (m 0 0 62) 1 1000) (fun (r20 : Bool) => if r20 = true then jn (fun (v22 : Int32 × Cm) => bnd (f12_finish v22.2 v22.1) (fun (r26 : Cm) => r26)) (fun K23 => if (m 0 0 11) = 60 then K23 ((-1), m) else bnd (f12_makeOrder m (m 0 0 57) (m 37 0 p1) ((m 0 0 10) + (m 36 0 p1)) (m 0 0 62)) (fun (r25 : Int32 × Cm) => K23 (r25.1, r25.2))) else bnd (u3 m 0 0 63 6) (fun (m27 : Cm) => m27)) else bnd (u3 m 0 0 63 6) (fun (m18 : Cm) => m18)) else bnd (u3 m 0 0 63 6) (fun (m14 : Cm) => m14)) else jn (fun (v29 : Int32) => bnd (u3 m 36 0 p1 v29) (fun (m32 : Cm) => jn (fun (v34 : Int32) => bnd (u3 m32 37 0 p1 v34) (fun (m37 : Cm) => bnd (f12_following m37 (m 31 0 p1) (m 34 0 p1)) (fun (r39 : Int32) => bnd (f12_valueNext m37 p1 r39) (fun (r40 : Cm) => r40)))) (fun K35 => if v2 = 2 then K35 (m 0 0 62) else K35 (m 37 0 p1)))) (fun K30 => if v2 = 1 then K30 (m 0 0 62) else K30 (m 36 0 p1))))
set_option maxHeartbeats 4000000 in
set_option maxRecDepth 100000 in
theorem mc_X12_manage (l : Launch) (D : va_G) (ta : wTa) (ad : wAd) (M : Wm) (p1 : Int32) (hok : Ok12 (M 12)) (hp1 : vp_in p1 32) (hT : Tx12 (M 12) ((M 12) 31 0 p1)) (hn : ¬ ((M 12) 33 0 p1) = 0 → Ix12 (M 12) ((M 12) 31 0 p1) ((M 12) 34 0 p1)) : MC l D ta ad yX12_manage cX12_manage 4 none 4 [.ref (ad 12 0 0), .int p1] M (fvc M 12 (f12_manage (M 12) p1)) := by
  refine MC.of (fvc M 12) (f12_manage (M 12) p1) rfl (by decide) (Nat.le_of_ble_eq_true rfl) (fun p e s m args below meth c cx hr => ?_)
  unfold f12_manage
  refine mw_sub (lv' := [(0, .ref (ad 12 0 0)), (1, .int p1)]) [0, 1] rfl ?_
  refine mw_eqM (uW_self M 12) ?_
  have ok0 : OkT (M 12) (M 12) := ⟨hok, rfl, rfl⟩
  refine mw_aload_n cx (q := 1) 0 rfl rfl dX12_manage_0 rfl ?_
  refine mw_get cx (q := 4) (v := .ref (ad 12 32 0)) gf_X12_101 rfl rfl vi_12_0 dX12_manage_1 rfl ?_
  refine mw_iload_n cx (q := 5) 1 rfl rfl dX12_manage_4 rfl ?_
  refine mw_iald cx (q := 6) (w := ((M 12) 32 0 p1)) rfl (fun _ => rfl) vi_12_32 hp1 dX12_manage_5 rfl ?_
  refine mw_bndT (fun v1 ev1 => ?_)
  refine mw_istore_n cx (q := 7) (lv' := [(2, .int v1), (0, .ref (ad 12 0 0)), (1, .int p1)]) rfl rfl (by decide) dX12_manage_6 rfl ?_
  refine mw_aload_n cx (q := 8) 1 rfl rfl dX12_manage_7 rfl ?_
  refine mw_get cx (q := 11) (v := .ref (ad 12 33 0)) gf_X12_104 rfl rfl vi_12_0 dX12_manage_8 rfl ?_
  refine mw_iload_n cx (q := 12) 2 rfl rfl dX12_manage_11 rfl ?_
  refine mw_iald cx (q := 13) (w := ((M 12) 33 0 p1)) rfl (fun _ => rfl) vi_12_33 hp1 dX12_manage_12 rfl ?_
  refine mw_bndT (fun v2 ev2 => ?_)
  refine mw_istore_n cx (q := 14) (lv' := [(3, .int v2), (2, .int v1), (0, .ref (ad 12 0 0)), (1, .int p1)]) rfl rfl (by decide) dX12_manage_13 rfl ?_
  refine mw_iload_n cx (q := 15) 1 rfl rfl dX12_manage_14 rfl ?_
  refine mw_bipush cx (q := 17) (v := 24) dX12_manage_15 rfl rfl ?_
  refine mw_icmp_eq cx (tgt := 26) (q := 20) dX12_manage_17 (by decide) rfl (fun h3 => ?_) (fun h3 => ?_)
  · refine mw_aload_n cx (q := 27) 2 rfl rfl dX12_manage_26 rfl ?_
    refine mw_iload_n cx (q := 28) 1 rfl rfl dX12_manage_27 rfl ?_
    refine mw_bipush cx (q := 30) (v := 24) dX12_manage_28 rfl rfl ?_
    refine mw_jn (Mj := fun (v4 : Int32) => (uW M 12 (M 12))) (pj := 49) (lj := fun (v4 : Int32) => []) (sj := fun (v4 : Int32) => [.int v4, .ref (ad 12 0 0)]) (fun v4 => ?_) (fun K5 hK5 => ?_)
    · refine mw_bnd (fun r7 er7 => ?_)
      refine mw_callV cx (q := 52) (d := 0) (As := [.int v4]) (z := fvc (uW M 12 (M 12)) 12 r7) (st := []) (st1 := []) (M' := uW M 12 r7) (by rw [er7]; exact mc_X12_finish l D ta ad (uW M 12 (M 12)) v4) cv_X12_330 rfl rfl rfl vi_12_0 ⟨Nat.le_of_ble_eq_true rfl, Nat.le_of_ble_eq_true rfl⟩ ⟨Nat.le_refl _, Nat.le_refl _⟩ (by simp [Value.category]) rfl rfl (by exact uW_uW _ _ _ _) dX12_manage_49 rfl ?_
      refine mw_goto cx (tgt := 315) dX12_manage_52 (by decide) ?_
      exact mw_vret cx hr rfl dX12_manage_315
    · refine mw_icmp_ne cx (tgt := 45) (q := 33) dX12_manage_30 (by decide) rfl (fun h6 => ?_) (fun h6 => ?_)
      · refine mw_aload_n cx (q := 46) 2 rfl rfl dX12_manage_45 rfl ?_
        refine mw_get cx (q := 49) (v := .int ((M 12) 0 0 10)) gf_X12_349 rfl rfl vi_12_0 dX12_manage_46 rfl ?_
        refine mw_sub [] rfl ?_
        exact hK5 ((M 12) 0 0 10)
      · refine mw_aload_n cx (q := 34) 2 rfl rfl dX12_manage_33 rfl ?_
        refine mw_get cx (q := 37) (v := .ref (ad 12 6 0)) gf_X12_22 rfl rfl vi_12_0 dX12_manage_34 rfl ?_
        refine mw_aload_n cx (q := 38) 2 rfl rfl dX12_manage_37 rfl ?_
        refine mw_get cx (q := 41) (v := .int ((M 12) 0 0 57)) gf_X12_223 rfl rfl vi_12_0 dX12_manage_38 rfl ?_
        refine mw_iald cx (q := 42) (w := ((M 12) 6 0 ((M 12) 0 0 57))) rfl (fun _ => rfl) vi_12_6 (ok0.1.cmp) dX12_manage_41 rfl ?_
        refine mw_goto cx (tgt := 49) dX12_manage_42 (by decide) ?_
        refine mw_sub [] rfl ?_
        exact hK5 ((M 12) 6 0 ((M 12) 0 0 57))
  · refine mw_iload_n cx (q := 21) 1 rfl rfl dX12_manage_20 rfl ?_
    refine mw_bipush cx (q := 23) (v := 25) dX12_manage_21 rfl rfl ?_
    refine mw_icmp_ne cx (tgt := 55) (q := 26) dX12_manage_23 (by decide) rfl (fun h8 => ?_) (fun h8 => ?_)
    · refine mw_iload_n cx (q := 56) 0 rfl rfl dX12_manage_55 rfl ?_
      refine mw_if_ne cx (tgt := 73) (q := 59) dX12_manage_56 (by decide) rfl (fun h9 => ?_) (fun h9 => ?_)
      · refine mw_iload_n cx (q := 74) 1 rfl rfl dX12_manage_73 rfl ?_
        refine mw_bipush cx (q := 76) (v := 23) dX12_manage_74 rfl rfl ?_
        refine mw_icmp_ne cx (tgt := 142) (q := 79) dX12_manage_76 (by decide) rfl (fun h10 => ?_) (fun h10 => ?_)
        · refine mw_iload_n cx (q := 143) 0 rfl rfl dX12_manage_142 rfl ?_
          refine mw_iconst cx (q := 144) (v := 3) dX12_manage_143 rfl rfl ?_
          refine mw_icmp_ge cx (tgt := 219) (q := 147) dX12_manage_144 (by decide) rfl (fun h11 => ?_) (fun h11 => ?_)
          · refine mw_aload_n cx (q := 220) 2 rfl rfl dX12_manage_219 rfl ?_
            refine mw_get cx (q := 223) (v := .ref (ad 12 36 0)) gf_X12_113 rfl rfl vi_12_0 dX12_manage_220 rfl ?_
            refine mw_iload_n cx (q := 224) 3 rfl rfl dX12_manage_223 rfl ?_
            refine mw_iald cx (q := 225) (w := ((M 12) 36 0 p1)) rfl (fun _ => rfl) vi_12_36 hp1 dX12_manage_224 rfl ?_
            refine mw_iconst cx (q := 226) (v := 1) dX12_manage_225 rfl rfl ?_
            refine mw_bipush cx (q := 228) (v := 100) dX12_manage_226 rfl rfl ?_
            refine mw_bnd (fun r12 er12 => ?_)
            refine mw_callS cx (q := 231) (d := 0) (As := [.int ((M 12) 36 0 p1), .int 1, .int 100]) (z := fzp (uW M 12 (M 12)) r12) (st := []) (st1 := [.int (b2i r12)]) (M' := (uW M 12 (M 12))) (by rw [er12]; exact mc_X12_in l D ta ad (uW M 12 (M 12)) ((M 12) 36 0 p1) 1 100) cv_X12_167 ⟨Nat.le_of_ble_eq_true rfl, Nat.le_of_ble_eq_true rfl⟩ ⟨Nat.le_refl _, Nat.le_refl _⟩ (by simp [Value.category]) rfl rfl rfl dX12_manage_228 rfl ?_
            have qr120 : r12 = true → 1 ≤ ((M 12) 36 0 p1).toInt ∧ ((M 12) 36 0 p1).toInt ≤ 100 := (fun hq => in_i (er12.symm.trans hq))
            refine mw_ifb_eq cx (tgt := 260) (q := 234) dX12_manage_231 (by decide) rfl (fun h13 => ?_) (fun h13 => ?_)
            · refine mw_aload_n cx (q := 261) 2 rfl rfl dX12_manage_260 rfl ?_
              refine mw_bipush cx (q := 263) (v := 6) dX12_manage_261 rfl rfl ?_
              refine mw_putC cx (q := 266) 63 gf_X12_257 pf_X12_63 (int_fit _) rfl (Nat.le_of_ble_eq_true rfl) rfl vi_12_0 (by decide) dX12_manage_263 rfl (fun m14 em14 => ?_)
              have ok15 : OkT (M 12) m14 := (by rw [em14]; exact okT_put0 ok0 (by decide))
              refine mw_goto cx (tgt := 315) dX12_manage_266 (by decide) ?_
              exact mw_vret cx hr rfl dX12_manage_315
            · refine mw_aload_n cx (q := 235) 2 rfl rfl dX12_manage_234 rfl ?_
              refine mw_get cx (q := 238) (v := .ref (ad 12 37 0)) gf_X12_116 rfl rfl vi_12_0 dX12_manage_235 rfl ?_
              refine mw_iload_n cx (q := 239) 3 rfl rfl dX12_manage_238 rfl ?_
              refine mw_iald cx (q := 240) (w := ((M 12) 37 0 p1)) rfl (fun _ => rfl) vi_12_37 hp1 dX12_manage_239 rfl ?_
              refine mw_bnd (fun r16 er16 => ?_)
              refine mw_callS cx (q := 243) (d := 1) (As := [.int ((M 12) 37 0 p1)]) (z := fzp (uW M 12 (M 12)) r16) (st := []) (st1 := [.int (b2i r16)]) (M' := (uW M 12 (M 12))) (by rw [er16]; exact mc_X12_isScript l D ta ad (uW M 12 (M 12)) ((M 12) 37 0 p1)) cv_X12_178 ⟨Nat.le_of_ble_eq_true rfl, Nat.le_of_ble_eq_true rfl⟩ ⟨Nat.le_refl _, Nat.le_refl _⟩ (by simp [Value.category]) rfl rfl rfl dX12_manage_240 rfl ?_
              have qr160 : r16 = true → vp_in ((M 12) 37 0 p1) 8 := (fun hq => isScript_t (er16.symm.trans hq))
              refine mw_ifb_eq cx (tgt := 260) (q := 246) dX12_manage_243 (by decide) rfl (fun h17 => ?_) (fun h17 => ?_)
              · refine mw_aload_n cx (q := 261) 2 rfl rfl dX12_manage_260 rfl ?_
                refine mw_bipush cx (q := 263) (v := 6) dX12_manage_261 rfl rfl ?_
                refine mw_putC cx (q := 266) 63 gf_X12_257 pf_X12_63 (int_fit _) rfl (Nat.le_of_ble_eq_true rfl) rfl vi_12_0 (by decide) dX12_manage_263 rfl (fun m18 em18 => ?_)
                have ok19 : OkT (M 12) m18 := (by rw [em18]; exact okT_put0 ok0 (by decide))
                refine mw_goto cx (tgt := 315) dX12_manage_266 (by decide) ?_
                exact mw_vret cx hr rfl dX12_manage_315
              · refine mw_aload_n cx (q := 247) 2 rfl rfl dX12_manage_246 rfl ?_
                refine mw_get cx (q := 250) (v := .int ((M 12) 0 0 62)) gf_X12_232 rfl rfl vi_12_0 dX12_manage_247 rfl ?_
                refine mw_iconst cx (q := 251) (v := 1) dX12_manage_250 rfl rfl ?_
                refine mw_sipush cx (q := 254) (v := 1000) dX12_manage_251 rfl rfl ?_
                refine mw_bnd (fun r20 er20 => ?_)
                refine mw_callS cx (q := 257) (d := 0) (As := [.int ((M 12) 0 0 62), .int 1, .int 1000]) (z := fzp (uW M 12 (M 12)) r20) (st := []) (st1 := [.int (b2i r20)]) (M' := (uW M 12 (M 12))) (by rw [er20]; exact mc_X12_in l D ta ad (uW M 12 (M 12)) ((M 12) 0 0 62) 1 1000) cv_X12_167 ⟨Nat.le_of_ble_eq_true rfl, Nat.le_of_ble_eq_true rfl⟩ ⟨Nat.le_refl _, Nat.le_refl _⟩ (by simp [Value.category]) rfl rfl rfl dX12_manage_254 rfl ?_
                have qr200 : r20 = true → 1 ≤ ((M 12) 0 0 62).toInt ∧ ((M 12) 0 0 62).toInt ≤ 1000 := (fun hq => in_i (er20.symm.trans hq))
                refine mw_ifb_ne cx (tgt := 269) (q := 260) dX12_manage_257 (by decide) rfl (fun h21 => ?_) (fun h21 => ?_)
                · refine mw_aload_n cx (q := 270) 2 rfl rfl dX12_manage_269 rfl ?_
                  refine mw_aload_n cx (q := 271) 2 rfl rfl dX12_manage_270 rfl ?_
                  refine mw_get cx (q := 274) (v := .int ((M 12) 0 0 11)) gf_X12_352 rfl rfl vi_12_0 dX12_manage_271 rfl ?_
                  refine mw_bipush cx (q := 276) (v := 60) dX12_manage_274 rfl rfl ?_
                  refine mw_jnP (P := fun (v22 : Int32 × Cm) => (OkT (M 12) v22.2)) (Mj := fun (v22 : Int32 × Cm) => (uW M 12 v22.2)) (pj := 312) (lj := fun (v22 : Int32 × Cm) => []) (sj := fun (v22 : Int32 × Cm) => [.int v22.1, .ref (ad 12 0 0)]) (fun v22 jv22 => ?_) (fun K23 hK23 => ?_)
                  · have jv22_0 := jv22
                    refine mw_bnd (fun r26 er26 => ?_)
                    refine mw_callV cx (q := 315) (d := 0) (As := [.int v22.1]) (z := fvc (uW M 12 v22.2) 12 r26) (st := []) (st1 := []) (M' := uW M 12 r26) (by rw [er26]; exact mc_X12_finish l D ta ad (uW M 12 v22.2) v22.1) cv_X12_330 rfl rfl rfl vi_12_0 ⟨Nat.le_of_ble_eq_true rfl, Nat.le_of_ble_eq_true rfl⟩ ⟨Nat.le_refl _, Nat.le_refl _⟩ (by simp [Value.category]) rfl rfl (by exact uW_uW _ _ _ _) dX12_manage_312 rfl ?_
                    exact mw_vret cx hr rfl dX12_manage_315
                  · refine mw_icmp_ne cx (tgt := 283) (q := 279) dX12_manage_276 (by decide) rfl (fun h24 => ?_) (fun h24 => ?_)
                    · refine mw_aload_n cx (q := 284) 2 rfl rfl dX12_manage_283 rfl ?_
                      refine mw_aload_n cx (q := 285) 2 rfl rfl dX12_manage_284 rfl ?_
                      refine mw_get cx (q := 288) (v := .int ((M 12) 0 0 57)) gf_X12_223 rfl rfl vi_12_0 dX12_manage_285 rfl ?_
                      refine mw_aload_n cx (q := 289) 2 rfl rfl dX12_manage_288 rfl ?_
                      refine mw_get cx (q := 292) (v := .ref (ad 12 37 0)) gf_X12_116 rfl rfl vi_12_0 dX12_manage_289 rfl ?_
                      refine mw_iload_n cx (q := 293) 3 rfl rfl dX12_manage_292 rfl ?_
                      refine mw_iald cx (q := 294) (w := ((M 12) 37 0 p1)) rfl (fun _ => rfl) vi_12_37 hp1 dX12_manage_293 rfl ?_
                      refine mw_aload_n cx (q := 295) 2 rfl rfl dX12_manage_294 rfl ?_
                      refine mw_get cx (q := 298) (v := .int ((M 12) 0 0 10)) gf_X12_349 rfl rfl vi_12_0 dX12_manage_295 rfl ?_
                      refine mw_aload_n cx (q := 299) 2 rfl rfl dX12_manage_298 rfl ?_
                      refine mw_get cx (q := 302) (v := .ref (ad 12 36 0)) gf_X12_113 rfl rfl vi_12_0 dX12_manage_299 rfl ?_
                      refine mw_iload_n cx (q := 303) 3 rfl rfl dX12_manage_302 rfl ?_
                      refine mw_iald cx (q := 304) (w := ((M 12) 36 0 p1)) rfl (fun _ => rfl) vi_12_36 hp1 dX12_manage_303 rfl ?_
                      refine mw_iadd cx (q := 305) dX12_manage_304 rfl ?_
                      refine mw_aload_n cx (q := 306) 2 rfl rfl dX12_manage_305 rfl ?_
                      refine mw_get cx (q := 309) (v := .int ((M 12) 0 0 62)) gf_X12_232 rfl rfl vi_12_0 dX12_manage_306 rfl ?_
                      refine mw_bnd (fun r25 er25 => ?_)
                      refine mw_callV cx (q := 312) (d := 0) (As := [.int ((M 12) 0 0 57), .int ((M 12) 37 0 p1), .int (((M 12) 0 0 10) + ((M 12) 36 0 p1)), .int ((M 12) 0 0 62)]) (z := fic (uW M 12 (M 12)) 12 r25) (st := [.ref (ad 12 0 0)]) (st1 := [.int r25.1, .ref (ad 12 0 0)]) (M' := uW M 12 r25.2) (by rw [er25]; exact mc_X12_makeOrder l D ta ad (uW M 12 (M 12)) ((M 12) 0 0 57) ((M 12) 37 0 p1) (((M 12) 0 0 10) + ((M 12) 36 0 p1)) ((M 12) 0 0 62) hok (by (try simp only [vp_in_iff, i32lt, i32le, i32eq, i32add, i32sub, i32mul, i32neg, t32_0, t32_11, t32_60] at h24 ⊢); omega)) cv_X12_355 rfl rfl rfl vi_12_0 ⟨Nat.le_of_ble_eq_true rfl, Nat.le_of_ble_eq_true rfl⟩ ⟨Nat.le_refl _, Nat.le_refl _⟩ (by simp [Value.category]) rfl rfl (by exact uW_uW _ _ _ _) dX12_manage_309 rfl ?_
                      refine mw_sub [] rfl ?_
                      exact hK23 (r25.1, r25.2) (by (try simp only [vp_in_iff, i32lt, i32le, i32eq, i32add, i32sub, i32mul, i32neg, t32_0, t32_1, t32_3, t32_8, t32_23, t32_24, t32_25, t32_31, t32_32, t32_33, t32_34, t32_36, t32_37, t32_62, t32_100, t32_1000] at hT hn ok0 ev1 ev2 h3 h8 h9 h10 h11 qr120 h13 qr160 h17 qr200 h21 hok hp1 ⊢); omega)
                    · refine mw_iconst cx (q := 280) (v := (-1)) dX12_manage_279 rfl rfl ?_
                      refine mw_goto cx (tgt := 312) dX12_manage_280 (by decide) ?_
                      refine mw_sub [] rfl ?_
                      exact hK23 ((-1), (M 12)) ok0
                · refine mw_aload_n cx (q := 261) 2 rfl rfl dX12_manage_260 rfl ?_
                  refine mw_bipush cx (q := 263) (v := 6) dX12_manage_261 rfl rfl ?_
                  refine mw_putC cx (q := 266) 63 gf_X12_257 pf_X12_63 (int_fit _) rfl (Nat.le_of_ble_eq_true rfl) rfl vi_12_0 (by decide) dX12_manage_263 rfl (fun m27 em27 => ?_)
                  have ok28 : OkT (M 12) m27 := (by rw [em27]; exact okT_put0 ok0 (by decide))
                  refine mw_goto cx (tgt := 315) dX12_manage_266 (by decide) ?_
                  exact mw_vret cx hr rfl dX12_manage_315
          · refine mw_aload_n cx (q := 148) 2 rfl rfl dX12_manage_147 rfl ?_
            refine mw_get cx (q := 151) (v := .ref (ad 12 36 0)) gf_X12_113 rfl rfl vi_12_0 dX12_manage_148 rfl ?_
            refine mw_iload_n cx (q := 152) 3 rfl rfl dX12_manage_151 rfl ?_
            refine mw_iload_n cx (q := 153) 0 rfl rfl dX12_manage_152 rfl ?_
            refine mw_iconst cx (q := 154) (v := 1) dX12_manage_153 rfl rfl ?_
            refine mw_jn (Mj := fun (v29 : Int32) => (uW M 12 (M 12))) (pj := 170) (lj := fun (v29 : Int32) => [(0, .ref (ad 12 0 0)), (1, .int p1), (3, .int v2)]) (sj := fun (v29 : Int32) => [.int v29, .int p1, .ref (ad 12 36 0)]) (fun v29 => ?_) (fun K30 hK30 => ?_)
            · refine mw_iastC cx (q := 171) (fun _ => rfl) (by decide) vi_12_36 hp1 (by decide) dX12_manage_170 rfl (fun m32 em32 => ?_)
              have ok33 : OkT (M 12) m32 := (by rw [em32]; exact okT_putA ok0 (by decide))
              refine mw_aload_n cx (q := 172) 0 rfl rfl dX12_manage_171 rfl ?_
              refine mw_get cx (q := 175) (v := .ref (ad 12 37 0)) gf_X12_116 rfl rfl vi_12_0 dX12_manage_172 rfl ?_
              refine mw_iload_n cx (q := 176) 1 rfl rfl dX12_manage_175 rfl ?_
              refine mw_iload_n cx (q := 177) 2 rfl rfl dX12_manage_176 rfl ?_
              refine mw_iconst cx (q := 178) (v := 2) dX12_manage_177 rfl rfl ?_
              refine mw_jn (Mj := fun (v34 : Int32) => (uW M 12 m32)) (pj := 194) (lj := fun (v34 : Int32) => [(0, .ref (ad 12 0 0)), (1, .int p1)]) (sj := fun (v34 : Int32) => [.int v34, .int p1, .ref (ad 12 37 0)]) (fun v34 => ?_) (fun K35 hK35 => ?_)
              · refine mw_iastC cx (q := 195) (fun _ => rfl) (by decide) vi_12_37 hp1 (by decide) dX12_manage_194 rfl (fun m37 em37 => ?_)
                have ok38 : OkT (M 12) m37 := (by rw [em37]; exact okT_putA ok33 (by decide))
                refine mw_aload_n cx (q := 196) 0 rfl rfl dX12_manage_195 rfl ?_
                refine mw_iload_n cx (q := 197) 1 rfl rfl dX12_manage_196 rfl ?_
                refine mw_aload_n cx (q := 198) 0 rfl rfl dX12_manage_197 rfl ?_
                refine mw_aload_n cx (q := 199) 0 rfl rfl dX12_manage_198 rfl ?_
                refine mw_get cx (q := 202) (v := .ref (ad 12 31 0)) gf_X12_98 rfl rfl vi_12_0 dX12_manage_199 rfl ?_
                refine mw_iload_n cx (q := 203) 1 rfl rfl dX12_manage_202 rfl ?_
                refine mw_iald cx (q := 204) (w := ((M 12) 31 0 p1)) (by rw [em37, em32]; rfl) (fun _ => rfl) vi_12_31 hp1 dX12_manage_203 rfl ?_
                refine mw_aload_n cx (q := 205) 0 rfl rfl dX12_manage_204 rfl ?_
                refine mw_get cx (q := 208) (v := .ref (ad 12 34 0)) gf_X12_107 rfl rfl vi_12_0 dX12_manage_205 rfl ?_
                refine mw_iload_n cx (q := 209) 1 rfl rfl dX12_manage_208 rfl ?_
                refine mw_iald cx (q := 210) (w := ((M 12) 34 0 p1)) (by rw [em37, em32]; rfl) (fun _ => rfl) vi_12_34 hp1 dX12_manage_209 rfl ?_
                refine mw_bnd (fun r39 er39 => ?_)
                refine mw_callV cx (q := 213) (d := 3) (As := [.int ((M 12) 31 0 p1), .int ((M 12) 34 0 p1)]) (z := fip (uW M 12 m37) r39) (st := [.int p1, .ref (ad 12 0 0)]) (st1 := [.int r39, .int p1, .ref (ad 12 0 0)]) (M' := (uW M 12 m37)) (by rw [er39]; exact mc_X12_following l D ta ad (uW M 12 m37) ((M 12) 31 0 p1) ((M 12) 34 0 p1) (by rw [em37, em32]; exact hok) (ok38.1.pS _ hp1) (by rw [em37, em32]; exact hT) (by (try simp only [vp_in_iff, i32lt, i32le, i32eq, i32add, i32sub, i32mul, i32neg, t32_0, t32_3, t32_23, t32_24, t32_25, t32_31, t32_32, t32_33, t32_34] at hp1 hT hn ok0 ev1 ev2 h3 h8 h9 h10 h11 ok33 ok38 hok ⊢); omega)) cv_X12_201 rfl rfl rfl vi_12_0 ⟨Nat.le_of_ble_eq_true rfl, Nat.le_of_ble_eq_true rfl⟩ ⟨Nat.le_refl _, Nat.le_refl _⟩ (by simp [Value.category]) rfl rfl rfl dX12_manage_210 rfl ?_
                have qr390 : Nx12 m37 (m37 31 0 p1) r39 := (by rw [er39]; exact following_n (by rw [em37, em32]; exact hok) (ok38.1.pS _ hp1) (by rw [em37, em32]; exact hT) (by (try simp only [vp_in_iff, i32lt, i32le, i32eq, i32add, i32sub, i32mul, i32neg, t32_0, t32_3, t32_23, t32_24, t32_25, t32_31, t32_32, t32_33, t32_34] at hp1 hT hn ok0 ev1 ev2 h3 h8 h9 h10 h11 ok33 ok38 hok ⊢); omega))
                refine mw_bnd (fun r40 er40 => ?_)
                refine mw_callV cx (q := 216) (d := 0) (As := [.int p1, .int r39]) (z := fvc (uW M 12 m37) 12 r40) (st := []) (st1 := []) (M' := uW M 12 r40) (by rw [er40]; exact mc_X12_valueNext l D ta ad (uW M 12 m37) p1 r39 hp1) cv_X12_323 rfl rfl rfl vi_12_0 ⟨Nat.le_of_ble_eq_true rfl, Nat.le_of_ble_eq_true rfl⟩ ⟨Nat.le_refl _, Nat.le_refl _⟩ (by simp [Value.category]) rfl rfl (by exact uW_uW _ _ _ _) dX12_manage_213 rfl ?_
                refine mw_goto cx (tgt := 315) dX12_manage_216 (by decide) ?_
                exact mw_vret cx hr rfl dX12_manage_315
              · refine mw_icmp_ne cx (tgt := 188) (q := 181) dX12_manage_178 (by decide) rfl (fun h36 => ?_) (fun h36 => ?_)
                · refine mw_aload_n cx (q := 189) 0 rfl rfl dX12_manage_188 rfl ?_
                  refine mw_get cx (q := 192) (v := .ref (ad 12 37 0)) gf_X12_116 rfl rfl vi_12_0 dX12_manage_189 rfl ?_
                  refine mw_iload_n cx (q := 193) 1 rfl rfl dX12_manage_192 rfl ?_
                  refine mw_iald cx (q := 194) (w := ((M 12) 37 0 p1)) (by rw [em32]; rfl) (fun _ => rfl) vi_12_37 hp1 dX12_manage_193 rfl ?_
                  refine mw_sub [0, 1] rfl ?_
                  exact hK35 ((M 12) 37 0 p1)
                · refine mw_aload_n cx (q := 182) 0 rfl rfl dX12_manage_181 rfl ?_
                  refine mw_get cx (q := 185) (v := .int ((M 12) 0 0 62)) gf_X12_232 rfl (by rw [em32]; rfl) vi_12_0 dX12_manage_182 rfl ?_
                  refine mw_goto cx (tgt := 194) dX12_manage_185 (by decide) ?_
                  refine mw_sub [0, 1] rfl ?_
                  exact hK35 ((M 12) 0 0 62)
            · refine mw_icmp_ne cx (tgt := 164) (q := 157) dX12_manage_154 (by decide) rfl (fun h31 => ?_) (fun h31 => ?_)
              · refine mw_aload_n cx (q := 165) 2 rfl rfl dX12_manage_164 rfl ?_
                refine mw_get cx (q := 168) (v := .ref (ad 12 36 0)) gf_X12_113 rfl rfl vi_12_0 dX12_manage_165 rfl ?_
                refine mw_iload_n cx (q := 169) 3 rfl rfl dX12_manage_168 rfl ?_
                refine mw_iald cx (q := 170) (w := ((M 12) 36 0 p1)) rfl (fun _ => rfl) vi_12_36 hp1 dX12_manage_169 rfl ?_
                refine mw_sub [2, 3, 0] rfl ?_
                exact hK30 ((M 12) 36 0 p1)
              · refine mw_aload_n cx (q := 158) 2 rfl rfl dX12_manage_157 rfl ?_
                refine mw_get cx (q := 161) (v := .int ((M 12) 0 0 62)) gf_X12_232 rfl rfl vi_12_0 dX12_manage_158 rfl ?_
                refine mw_goto cx (tgt := 170) dX12_manage_161 (by decide) ?_
                refine mw_sub [2, 3, 0] rfl ?_
                exact hK30 ((M 12) 0 0 62)
        · refine mw_aload_n cx (q := 80) 2 rfl rfl dX12_manage_79 rfl ?_
          refine mw_get cx (q := 83) (v := .int ((M 12) 0 0 62)) gf_X12_232 rfl rfl vi_12_0 dX12_manage_80 rfl ?_
          refine mw_if_ge cx (tgt := 95) (q := 86) dX12_manage_83 (by decide) rfl (fun h41 => ?_) (fun h41 => ?_)
          · refine mw_aload_n cx (q := 96) 2 rfl rfl dX12_manage_95 rfl ?_
            refine mw_aload_n cx (q := 97) 2 rfl rfl dX12_manage_96 rfl ?_
            refine mw_aload_n cx (q := 98) 2 rfl rfl dX12_manage_97 rfl ?_
            refine mw_get cx (q := 101) (v := .int ((M 12) 0 0 57)) gf_X12_223 rfl rfl vi_12_0 dX12_manage_98 rfl ?_
            refine mw_aload_n cx (q := 102) 2 rfl rfl dX12_manage_101 rfl ?_
            refine mw_get cx (q := 105) (v := .int ((M 12) 0 0 62)) gf_X12_232 rfl rfl vi_12_0 dX12_manage_102 rfl ?_
            refine mw_aload_n cx (q := 106) 2 rfl rfl dX12_manage_105 rfl ?_
            refine mw_get cx (q := 109) (v := .ref (ad 12 5 0)) gf_X12_19 rfl rfl vi_12_0 dX12_manage_106 rfl ?_
            refine mw_aload_n cx (q := 110) 2 rfl rfl dX12_manage_109 rfl ?_
            refine mw_get cx (q := 113) (v := .int ((M 12) 0 0 57)) gf_X12_223 rfl rfl vi_12_0 dX12_manage_110 rfl ?_
            refine mw_iald cx (q := 114) (w := ((M 12) 5 0 ((M 12) 0 0 57))) rfl (fun _ => rfl) vi_12_5 (ok0.1.cmp) dX12_manage_113 rfl ?_
            refine mw_jn (Mj := fun (v42 : Int32) => (uW M 12 (M 12))) (pj := 133) (lj := fun (v42 : Int32) => []) (sj := fun (v42 : Int32) => [.int v42, .int ((M 12) 0 0 57), .ref (ad 12 0 0), .ref (ad 12 0 0)]) (fun v42 => ?_) (fun K43 hK43 => ?_)
            · refine mw_bnd (fun r45 er45 => ?_)
              refine mw_callV cx (q := 136) (d := 0) (As := [.int ((M 12) 0 0 57), .int v42]) (z := fic (uW M 12 (M 12)) 12 r45) (st := [.ref (ad 12 0 0)]) (st1 := [.int r45.1, .ref (ad 12 0 0)]) (M' := uW M 12 r45.2) (by rw [er45]; exact mc_X12_buyFuel l D ta ad (uW M 12 (M 12)) ((M 12) 0 0 57) v42 (ok0.1.cmp)) cv_X12_226 rfl rfl rfl vi_12_0 ⟨Nat.le_of_ble_eq_true rfl, Nat.le_of_ble_eq_true rfl⟩ ⟨Nat.le_refl _, Nat.le_refl _⟩ (by simp [Value.category]) rfl rfl (by exact uW_uW _ _ _ _) dX12_manage_133 rfl ?_
              refine mw_bnd (fun r46 er46 => ?_)
              refine mw_callV cx (q := 139) (d := 0) (As := [.int r45.1]) (z := fvc (uW M 12 r45.2) 12 r46) (st := []) (st1 := []) (M' := uW M 12 r46) (by rw [er46]; exact mc_X12_finish l D ta ad (uW M 12 r45.2) r45.1) cv_X12_330 rfl rfl rfl vi_12_0 ⟨Nat.le_of_ble_eq_true rfl, Nat.le_of_ble_eq_true rfl⟩ ⟨Nat.le_refl _, Nat.le_refl _⟩ (by simp [Value.category]) rfl rfl (by exact uW_uW _ _ _ _) dX12_manage_136 rfl ?_
              refine mw_goto cx (tgt := 315) dX12_manage_139 (by decide) ?_
              exact mw_vret cx hr rfl dX12_manage_315
            · refine mw_icmp_ge cx (tgt := 124) (q := 117) dX12_manage_114 (by decide) rfl (fun h44 => ?_) (fun h44 => ?_)
              · refine mw_aload_n cx (q := 125) 2 rfl rfl dX12_manage_124 rfl ?_
                refine mw_get cx (q := 128) (v := .ref (ad 12 5 0)) gf_X12_19 rfl rfl vi_12_0 dX12_manage_125 rfl ?_
                refine mw_aload_n cx (q := 129) 2 rfl rfl dX12_manage_128 rfl ?_
                refine mw_get cx (q := 132) (v := .int ((M 12) 0 0 57)) gf_X12_223 rfl rfl vi_12_0 dX12_manage_129 rfl ?_
                refine mw_iald cx (q := 133) (w := ((M 12) 5 0 ((M 12) 0 0 57))) rfl (fun _ => rfl) vi_12_5 (ok0.1.cmp) dX12_manage_132 rfl ?_
                refine mw_sub [] rfl ?_
                exact hK43 ((M 12) 5 0 ((M 12) 0 0 57))
              · refine mw_aload_n cx (q := 118) 2 rfl rfl dX12_manage_117 rfl ?_
                refine mw_get cx (q := 121) (v := .int ((M 12) 0 0 62)) gf_X12_232 rfl rfl vi_12_0 dX12_manage_118 rfl ?_
                refine mw_goto cx (tgt := 133) dX12_manage_121 (by decide) ?_
                refine mw_sub [] rfl ?_
                exact hK43 ((M 12) 0 0 62)
          · refine mw_aload_n cx (q := 87) 2 rfl rfl dX12_manage_86 rfl ?_
            refine mw_bipush cx (q := 89) (v := 6) dX12_manage_87 rfl rfl ?_
            refine mw_putC cx (q := 92) 63 gf_X12_257 pf_X12_63 (int_fit _) rfl (Nat.le_of_ble_eq_true rfl) rfl vi_12_0 (by decide) dX12_manage_89 rfl (fun m47 em47 => ?_)
            have ok48 : OkT (M 12) m47 := (by rw [em47]; exact okT_put0 ok0 (by decide))
            refine mw_goto cx (tgt := 315) dX12_manage_92 (by decide) ?_
            exact mw_vret cx hr rfl dX12_manage_315
      · refine mw_aload_n cx (q := 60) 2 rfl rfl dX12_manage_59 rfl ?_
        refine mw_iload_n cx (q := 61) 3 rfl rfl dX12_manage_60 rfl ?_
        refine mw_aload_n cx (q := 62) 2 rfl rfl dX12_manage_61 rfl ?_
        refine mw_get cx (q := 65) (v := .ref (ad 12 35 0)) gf_X12_110 rfl rfl vi_12_0 dX12_manage_62 rfl ?_
        refine mw_iload_n cx (q := 66) 3 rfl rfl dX12_manage_65 rfl ?_
        refine mw_iald cx (q := 67) (w := ((M 12) 35 0 p1)) rfl (fun _ => rfl) vi_12_35 hp1 dX12_manage_66 rfl ?_
        refine mw_bnd (fun r49 er49 => ?_)
        refine mw_callV cx (q := 70) (d := 0) (As := [.int p1, .int ((M 12) 35 0 p1)]) (z := fvc (uW M 12 (M 12)) 12 r49) (st := []) (st1 := []) (M' := uW M 12 r49) (by rw [er49]; exact mc_X12_valueNext l D ta ad (uW M 12 (M 12)) p1 ((M 12) 35 0 p1) hp1) cv_X12_323 rfl rfl rfl vi_12_0 ⟨Nat.le_of_ble_eq_true rfl, Nat.le_of_ble_eq_true rfl⟩ ⟨Nat.le_refl _, Nat.le_refl _⟩ (by simp [Value.category]) rfl rfl (by exact uW_uW _ _ _ _) dX12_manage_67 rfl ?_
        refine mw_goto cx (tgt := 315) dX12_manage_70 (by decide) ?_
        exact mw_vret cx hr rfl dX12_manage_315
    · refine mw_aload_n cx (q := 27) 2 rfl rfl dX12_manage_26 rfl ?_
      refine mw_iload_n cx (q := 28) 1 rfl rfl dX12_manage_27 rfl ?_
      refine mw_bipush cx (q := 30) (v := 24) dX12_manage_28 rfl rfl ?_
      refine mw_jn (Mj := fun (v50 : Int32) => (uW M 12 (M 12))) (pj := 49) (lj := fun (v50 : Int32) => []) (sj := fun (v50 : Int32) => [.int v50, .ref (ad 12 0 0)]) (fun v50 => ?_) (fun K51 hK51 => ?_)
      · refine mw_bnd (fun r53 er53 => ?_)
        refine mw_callV cx (q := 52) (d := 0) (As := [.int v50]) (z := fvc (uW M 12 (M 12)) 12 r53) (st := []) (st1 := []) (M' := uW M 12 r53) (by rw [er53]; exact mc_X12_finish l D ta ad (uW M 12 (M 12)) v50) cv_X12_330 rfl rfl rfl vi_12_0 ⟨Nat.le_of_ble_eq_true rfl, Nat.le_of_ble_eq_true rfl⟩ ⟨Nat.le_refl _, Nat.le_refl _⟩ (by simp [Value.category]) rfl rfl (by exact uW_uW _ _ _ _) dX12_manage_49 rfl ?_
        refine mw_goto cx (tgt := 315) dX12_manage_52 (by decide) ?_
        exact mw_vret cx hr rfl dX12_manage_315
      · refine mw_icmp_ne cx (tgt := 45) (q := 33) dX12_manage_30 (by decide) rfl (fun h52 => ?_) (fun h52 => ?_)
        · refine mw_aload_n cx (q := 46) 2 rfl rfl dX12_manage_45 rfl ?_
          refine mw_get cx (q := 49) (v := .int ((M 12) 0 0 10)) gf_X12_349 rfl rfl vi_12_0 dX12_manage_46 rfl ?_
          refine mw_sub [] rfl ?_
          exact hK51 ((M 12) 0 0 10)
        · refine mw_aload_n cx (q := 34) 2 rfl rfl dX12_manage_33 rfl ?_
          refine mw_get cx (q := 37) (v := .ref (ad 12 6 0)) gf_X12_22 rfl rfl vi_12_0 dX12_manage_34 rfl ?_
          refine mw_aload_n cx (q := 38) 2 rfl rfl dX12_manage_37 rfl ?_
          refine mw_get cx (q := 41) (v := .int ((M 12) 0 0 57)) gf_X12_223 rfl rfl vi_12_0 dX12_manage_38 rfl ?_
          refine mw_iald cx (q := 42) (w := ((M 12) 6 0 ((M 12) 0 0 57))) rfl (fun _ => rfl) vi_12_6 (ok0.1.cmp) dX12_manage_41 rfl ?_
          refine mw_goto cx (tgt := 49) dX12_manage_42 (by decide) ?_
          refine mw_sub [] rfl ?_
          exact hK51 ((M 12) 6 0 ((M 12) 0 0 57))
