/-- what a list on the pile has, so that it can go on -/
def AdvQ (m : Cm) (l o : Int32) : Prop :=
  (o.toInt ≤ 8 → m 33 0 l = 1 → Ix12 m (m 31 0 l) (m 34 0 l)) ∧
  (9 ≤ o.toInt ∧ o.toInt ≤ 12 → Ix12 m (m 31 0 l) (m 35 0 l) ∧ (m 32 0 l = 12 → ¬ (f12_following m (m 31 0 l) (m 35 0 l)) = -1)) ∧
  (o.toInt = 13 → Ix12 m (m 31 0 l) (m 35 0 l) ∧ Nx12 m (m 31 0 l) (m 34 0 l)) ∧
  (14 ≤ o.toInt ∧ o.toInt ≤ 15 → (m 32 0 l = 15 → Ix12 m (m 31 0 l) (m 35 0 l)) ∧ (¬ m 33 0 l = 0 → Ix12 m (m 31 0 l) (m 34 0 l)) ∧ (m 0 0 49).toInt < 100) ∧
  (16 ≤ o.toInt ∧ o.toInt ≤ 17 → Ix12 m (m 31 0 l) (m 35 0 l) ∧ (m 32 0 l = 17 → Ix12 m (m 31 0 l) (f12_following m (m 31 0 l) (m 35 0 l)) ∧ CN12 m (m 31 0 l) (f12_nextAt m (m 31 0 l) ((f12_following m (m 31 0 l) (m 35 0 l)) + 1)) ≤ 3)) ∧
  (18 ≤ o.toInt ∧ o.toInt ≤ 20 → Ix12 m (m 31 0 l) (m 35 0 l) ∧ Ix12 m (m 31 0 l) (f12_following m (m 31 0 l) (m 35 0 l)) ∧ (m 32 0 l = 20 → ¬ f12_goodAt m (m 31 0 l) (f12_following m (m 31 0 l) (m 35 0 l)) = -1) ∧ (¬ m 32 0 l = 20 → ¬ f12_goodAt m (m 31 0 l) (m 35 0 l) = -1)) ∧
  (o.toInt = 22 → ¬ m 33 0 l = 0 → ¬ m 33 0 l = 1 → Tx12 m (m 41 0 l) ∧ Ix12 m (m 41 0 l) (m 34 0 l)) ∧
  (o.toInt = 26 → (m 33 0 l < m 42 0 l → ¬ m 33 0 l = 0 → Ix12 m (m 31 0 l) (m 34 0 l)) ∧ (m 0 0 49).toInt ≤ 97) ∧
  (21 ≤ o.toInt ∧ ¬ o.toInt = 22 ∧ ¬ o.toInt = 26 → ¬ m 33 0 l = 0 → Ix12 m (m 31 0 l) (m 34 0 l))
def AdvP (m : Cm) (l : Int32) : Prop := Tx12 m (m 31 0 l) ∧ AdvQ m l (m 32 0 l)
def f12_advance (m : Cm) (p1 : Int32) : Cm := bnd ((m 32 0 p1)) (fun (v1 : Int32) => if 8 < v1 then if 12 < v1 then if v1 = 13 then bnd (f12_repeat m p1) (fun (r20 : Cm) => r20) else if v1 = 14 then bnd (f12_goThrough m p1) (fun (r6 : Cm) => r6) else if v1 = 15 then bnd (f12_goThrough m p1) (fun (r19 : Cm) => r19) else if v1 = 16 then bnd (f12_tell m p1) (fun (r9 : Cm) => r9) else if v1 = 17 then bnd (f12_tell m p1) (fun (r18 : Cm) => r18) else if 20 < v1 then if v1 = 22 then bnd (f12_runScript m p1) (fun (r16 : Cm) => r16) else if v1 = 26 then bnd (f12_apply m p1) (fun (r15 : Cm) => r15) else bnd (f12_manage m p1) (fun (r14 : Cm) => r14) else bnd (f12_trade m p1) (fun (r17 : Cm) => r17) else bnd (f12_choose m p1) (fun (r21 : Cm) => r21) else bnd (f12_reckon m p1) (fun (r22 : Cm) => r22))
set_option maxHeartbeats 4000000 in
set_option maxRecDepth 100000 in
theorem mc_X12_advance (l : Launch) (D : va_G) (ta : wTa) (ad : wAd) (M : Wm) (p1 : Int32) (hok : Ok12 (M 12)) (hp1 : vp_in p1 32) (hA : AdvP (M 12) p1) : MC l D ta ad yX12_advance cX12_advance 3 none 6 [.ref (ad 12 0 0), .int p1] M (fvc M 12 (f12_advance (M 12) p1)) := by
  refine MC.of (fvc M 12) (f12_advance (M 12) p1) rfl (by decide) (Nat.le_of_ble_eq_true rfl) (fun p e s m args below meth c cx hr => ?_)
  unfold f12_advance
  refine mw_sub (lv' := [(0, .ref (ad 12 0 0)), (1, .int p1)]) [0, 1] rfl ?_
  refine mw_eqM (uW_self M 12) ?_
  have hT : Tx12 (M 12) ((M 12) 31 0 p1) := hA.1
  refine mw_aload_n cx (q := 1) 0 rfl rfl dX12_advance_0 rfl ?_
  refine mw_get cx (q := 4) (v := .ref (ad 12 32 0)) gf_X12_101 rfl rfl vi_12_0 dX12_advance_1 rfl ?_
  refine mw_iload_n cx (q := 5) 1 rfl rfl dX12_advance_4 rfl ?_
  refine mw_iald cx (q := 6) (w := ((M 12) 32 0 p1)) rfl (fun _ => rfl) vi_12_32 hp1 dX12_advance_5 rfl ?_
  refine mw_bndT (fun v1 ev1 => ?_)
  refine mw_istore_n cx (q := 7) (lv' := [(2, .int v1), (0, .ref (ad 12 0 0)), (1, .int p1)]) rfl rfl (by decide) dX12_advance_6 rfl ?_
  have hQ : AdvQ (M 12) p1 v1 := (by rw [ev1]; exact hA.2)
  refine mw_iload_n cx (q := 8) 0 rfl rfl dX12_advance_7 rfl ?_
  refine mw_bipush cx (q := 10) (v := 8) dX12_advance_8 rfl rfl ?_
  refine mw_icmp_gt cx (tgt := 21) (q := 13) dX12_advance_10 (by decide) rfl (fun h2 => ?_) (fun h2 => ?_)
  · refine mw_iload_n cx (q := 22) 0 rfl rfl dX12_advance_21 rfl ?_
    refine mw_bipush cx (q := 24) (v := 12) dX12_advance_22 rfl rfl ?_
    refine mw_icmp_gt cx (tgt := 35) (q := 27) dX12_advance_24 (by decide) rfl (fun h3 => ?_) (fun h3 => ?_)
    · refine mw_iload_n cx (q := 36) 0 rfl rfl dX12_advance_35 rfl ?_
      refine mw_bipush cx (q := 38) (v := 13) dX12_advance_36 rfl rfl ?_
      refine mw_icmp_ne cx (tgt := 49) (q := 41) dX12_advance_38 (by decide) rfl (fun h4 => ?_) (fun h4 => ?_)
      · refine mw_iload_n cx (q := 50) 0 rfl rfl dX12_advance_49 rfl ?_
        refine mw_bipush cx (q := 52) (v := 14) dX12_advance_50 rfl rfl ?_
        refine mw_icmp_eq cx (tgt := 61) (q := 55) dX12_advance_52 (by decide) rfl (fun h5 => ?_) (fun h5 => ?_)
        · refine mw_aload_n cx (q := 62) 1 rfl rfl dX12_advance_61 rfl ?_
          refine mw_iload_n cx (q := 63) 2 rfl rfl dX12_advance_62 rfl ?_
          refine mw_bnd (fun r6 er6 => ?_)
          refine mw_callV cx (q := 66) (d := 4) (As := [.int p1]) (z := fvc (uW M 12 (M 12)) 12 r6) (st := []) (st1 := []) (M' := uW M 12 r6) (by rw [er6]; exact mc_X12_goThrough l D ta ad (uW M 12 (M 12)) p1 hok hp1 hT (hQ.2.2.2.1 (by (try simp only [vp_in_iff, i32lt, i32le, i32eq, i32add, i32sub, i32mul, i32neg, t32_0, t32_8, t32_12, t32_13, t32_14, t32_15, t32_31, t32_32] at ev1 hQ h2 h3 h4 h5 hp1 hA hT ⊢); omega)).1 (hQ.2.2.2.1 (by (try simp only [vp_in_iff, i32lt, i32le, i32eq, i32add, i32sub, i32mul, i32neg, t32_0, t32_8, t32_12, t32_13, t32_14, t32_15, t32_31, t32_32] at ev1 hQ h2 h3 h4 h5 hp1 hA hT ⊢); omega)).2.1 (hQ.2.2.2.1 (by (try simp only [vp_in_iff, i32lt, i32le, i32eq, i32add, i32sub, i32mul, i32neg, t32_0, t32_8, t32_12, t32_13, t32_14, t32_15, t32_31, t32_32] at ev1 hQ h2 h3 h4 h5 hp1 hA hT ⊢); omega)).2.2) cv_X12_305 rfl rfl rfl vi_12_0 ⟨Nat.le_of_ble_eq_true rfl, Nat.le_of_ble_eq_true rfl⟩ ⟨Nat.le_refl _, Nat.le_refl _⟩ (by simp [Value.category]) rfl rfl (by exact uW_uW _ _ _ _) dX12_advance_63 rfl ?_
          refine mw_goto cx (tgt := 136) dX12_advance_66 (by decide) ?_
          exact mw_vret cx hr rfl dX12_advance_136
        · refine mw_iload_n cx (q := 56) 0 rfl rfl dX12_advance_55 rfl ?_
          refine mw_bipush cx (q := 58) (v := 15) dX12_advance_56 rfl rfl ?_
          refine mw_icmp_ne cx (tgt := 69) (q := 61) dX12_advance_58 (by decide) rfl (fun h7 => ?_) (fun h7 => ?_)
          · refine mw_iload_n cx (q := 70) 0 rfl rfl dX12_advance_69 rfl ?_
            refine mw_bipush cx (q := 72) (v := 16) dX12_advance_70 rfl rfl ?_
            refine mw_icmp_eq cx (tgt := 81) (q := 75) dX12_advance_72 (by decide) rfl (fun h8 => ?_) (fun h8 => ?_)
            · refine mw_aload_n cx (q := 82) 1 rfl rfl dX12_advance_81 rfl ?_
              refine mw_iload_n cx (q := 83) 2 rfl rfl dX12_advance_82 rfl ?_
              refine mw_bnd (fun r9 er9 => ?_)
              refine mw_callV cx (q := 86) (d := 5) (As := [.int p1]) (z := fvc (uW M 12 (M 12)) 12 r9) (st := []) (st1 := []) (M' := uW M 12 r9) (by rw [er9]; exact mc_X12_tell l D ta ad (uW M 12 (M 12)) p1 hok hp1 hT (hQ.2.2.2.2.1 (by (try simp only [vp_in_iff, i32lt, i32le, i32eq, i32add, i32sub, i32mul, i32neg, t32_0, t32_8, t32_12, t32_13, t32_14, t32_15, t32_16, t32_17, t32_31, t32_32] at ev1 hQ h2 h3 h4 h5 h7 h8 hp1 hA hT ⊢); omega)).1 (hQ.2.2.2.2.1 (by (try simp only [vp_in_iff, i32lt, i32le, i32eq, i32add, i32sub, i32mul, i32neg, t32_0, t32_8, t32_12, t32_13, t32_14, t32_15, t32_16, t32_17, t32_31, t32_32] at ev1 hQ h2 h3 h4 h5 h7 h8 hp1 hA hT ⊢); omega)).2) cv_X12_308 rfl rfl rfl vi_12_0 ⟨Nat.le_of_ble_eq_true rfl, Nat.le_of_ble_eq_true rfl⟩ ⟨Nat.le_refl _, Nat.le_refl _⟩ (by simp [Value.category]) rfl rfl (by exact uW_uW _ _ _ _) dX12_advance_83 rfl ?_
              refine mw_goto cx (tgt := 136) dX12_advance_86 (by decide) ?_
              exact mw_vret cx hr rfl dX12_advance_136
            · refine mw_iload_n cx (q := 76) 0 rfl rfl dX12_advance_75 rfl ?_
              refine mw_bipush cx (q := 78) (v := 17) dX12_advance_76 rfl rfl ?_
              refine mw_icmp_ne cx (tgt := 89) (q := 81) dX12_advance_78 (by decide) rfl (fun h10 => ?_) (fun h10 => ?_)
              · refine mw_iload_n cx (q := 90) 0 rfl rfl dX12_advance_89 rfl ?_
                refine mw_bipush cx (q := 92) (v := 20) dX12_advance_90 rfl rfl ?_
                refine mw_icmp_gt cx (tgt := 103) (q := 95) dX12_advance_92 (by decide) rfl (fun h11 => ?_) (fun h11 => ?_)
                · refine mw_iload_n cx (q := 104) 0 rfl rfl dX12_advance_103 rfl ?_
                  refine mw_bipush cx (q := 106) (v := 22) dX12_advance_104 rfl rfl ?_
                  refine mw_icmp_ne cx (tgt := 117) (q := 109) dX12_advance_106 (by decide) rfl (fun h12 => ?_) (fun h12 => ?_)
                  · refine mw_iload_n cx (q := 118) 0 rfl rfl dX12_advance_117 rfl ?_
                    refine mw_bipush cx (q := 120) (v := 26) dX12_advance_118 rfl rfl ?_
                    refine mw_icmp_ne cx (tgt := 131) (q := 123) dX12_advance_120 (by decide) rfl (fun h13 => ?_) (fun h13 => ?_)
                    · refine mw_aload_n cx (q := 132) 1 rfl rfl dX12_advance_131 rfl ?_
                      refine mw_iload_n cx (q := 133) 2 rfl rfl dX12_advance_132 rfl ?_
                      refine mw_bnd (fun r14 er14 => ?_)
                      refine mw_callV cx (q := 136) (d := 4) (As := [.int p1]) (z := fvc (uW M 12 (M 12)) 12 r14) (st := []) (st1 := []) (M' := uW M 12 r14) (by rw [er14]; exact mc_X12_manage l D ta ad (uW M 12 (M 12)) p1 hok hp1 hT (hQ.2.2.2.2.2.2.2.2 (by (try simp only [vp_in_iff, i32lt, i32le, i32eq, i32add, i32sub, i32mul, i32neg, t32_0, t32_8, t32_12, t32_13, t32_14, t32_15, t32_16, t32_17, t32_20, t32_21, t32_22, t32_26, t32_31, t32_32] at ev1 hQ h2 h3 h4 h5 h7 h8 h10 h11 h12 h13 hp1 hA hT ⊢); omega))) cv_X12_320 rfl rfl rfl vi_12_0 ⟨Nat.le_of_ble_eq_true rfl, Nat.le_of_ble_eq_true rfl⟩ ⟨Nat.le_refl _, Nat.le_refl _⟩ (by simp [Value.category]) rfl rfl (by exact uW_uW _ _ _ _) dX12_advance_133 rfl ?_
                      exact mw_vret cx hr rfl dX12_advance_136
                    · refine mw_aload_n cx (q := 124) 1 rfl rfl dX12_advance_123 rfl ?_
                      refine mw_iload_n cx (q := 125) 2 rfl rfl dX12_advance_124 rfl ?_
                      refine mw_bnd (fun r15 er15 => ?_)
                      refine mw_callV cx (q := 128) (d := 4) (As := [.int p1]) (z := fvc (uW M 12 (M 12)) 12 r15) (st := []) (st1 := []) (M' := uW M 12 r15) (by rw [er15]; exact mc_X12_apply l D ta ad (uW M 12 (M 12)) p1 hok hp1 hT (hQ.2.2.2.2.2.2.2.1 (by (try simp only [vp_in_iff, i32lt, i32le, i32eq, i32add, i32sub, i32mul, i32neg, t32_0, t32_8, t32_12, t32_13, t32_14, t32_15, t32_16, t32_17, t32_20, t32_22, t32_26, t32_31, t32_32] at ev1 hQ h2 h3 h4 h5 h7 h8 h10 h11 h12 h13 hp1 hA hT ⊢); omega)).1 (hQ.2.2.2.2.2.2.2.1 (by (try simp only [vp_in_iff, i32lt, i32le, i32eq, i32add, i32sub, i32mul, i32neg, t32_0, t32_8, t32_12, t32_13, t32_14, t32_15, t32_16, t32_17, t32_20, t32_22, t32_26, t32_31, t32_32] at ev1 hQ h2 h3 h4 h5 h7 h8 h10 h11 h12 h13 hp1 hA hT ⊢); omega)).2) cv_X12_317 rfl rfl rfl vi_12_0 ⟨Nat.le_of_ble_eq_true rfl, Nat.le_of_ble_eq_true rfl⟩ ⟨Nat.le_refl _, Nat.le_refl _⟩ (by simp [Value.category]) rfl rfl (by exact uW_uW _ _ _ _) dX12_advance_125 rfl ?_
                      refine mw_goto cx (tgt := 136) dX12_advance_128 (by decide) ?_
                      exact mw_vret cx hr rfl dX12_advance_136
                  · refine mw_aload_n cx (q := 110) 1 rfl rfl dX12_advance_109 rfl ?_
                    refine mw_iload_n cx (q := 111) 2 rfl rfl dX12_advance_110 rfl ?_
                    refine mw_bnd (fun r16 er16 => ?_)
                    refine mw_callV cx (q := 114) (d := 4) (As := [.int p1]) (z := fvc (uW M 12 (M 12)) 12 r16) (st := []) (st1 := []) (M' := uW M 12 r16) (by rw [er16]; exact mc_X12_runScript l D ta ad (uW M 12 (M 12)) p1 hok hp1 hT (hQ.2.2.2.2.2.2.1 (by (try simp only [vp_in_iff, i32lt, i32le, i32eq, i32add, i32sub, i32mul, i32neg, t32_0, t32_8, t32_12, t32_13, t32_14, t32_15, t32_16, t32_17, t32_20, t32_22, t32_31, t32_32] at ev1 hQ h2 h3 h4 h5 h7 h8 h10 h11 h12 hp1 hA hT ⊢); omega))) cv_X12_314 rfl rfl rfl vi_12_0 ⟨Nat.le_of_ble_eq_true rfl, Nat.le_of_ble_eq_true rfl⟩ ⟨Nat.le_refl _, Nat.le_refl _⟩ (by simp [Value.category]) rfl rfl (by exact uW_uW _ _ _ _) dX12_advance_111 rfl ?_
                    refine mw_goto cx (tgt := 136) dX12_advance_114 (by decide) ?_
                    exact mw_vret cx hr rfl dX12_advance_136
                · refine mw_aload_n cx (q := 96) 1 rfl rfl dX12_advance_95 rfl ?_
                  refine mw_iload_n cx (q := 97) 2 rfl rfl dX12_advance_96 rfl ?_
                  refine mw_bnd (fun r17 er17 => ?_)
                  refine mw_callV cx (q := 100) (d := 4) (As := [.int p1]) (z := fvc (uW M 12 (M 12)) 12 r17) (st := []) (st1 := []) (M' := uW M 12 r17) (by rw [er17]; exact mc_X12_trade l D ta ad (uW M 12 (M 12)) p1 hok hp1 hT (hQ.2.2.2.2.2.1 (by (try simp only [vp_in_iff, i32lt, i32le, i32eq, i32add, i32sub, i32mul, i32neg, t32_0, t32_8, t32_12, t32_13, t32_14, t32_15, t32_16, t32_17, t32_18, t32_20, t32_31, t32_32] at ev1 hQ h2 h3 h4 h5 h7 h8 h10 h11 hp1 hA hT ⊢); omega)).1 (by show 18 ≤ ((M 12) 32 0 p1).toInt ∧ ((M 12) 32 0 p1).toInt ≤ 20; rw [← ev1]; exact (by (try simp only [vp_in_iff, i32lt, i32le, i32eq, i32add, i32sub, i32mul, i32neg, t32_0, t32_8, t32_12, t32_13, t32_14, t32_15, t32_16, t32_17, t32_18, t32_20, t32_31, t32_32] at ev1 hQ h2 h3 h4 h5 h7 h8 h10 h11 hp1 hA hT ⊢); omega)) (hQ.2.2.2.2.2.1 (by (try simp only [vp_in_iff, i32lt, i32le, i32eq, i32add, i32sub, i32mul, i32neg, t32_0, t32_8, t32_12, t32_13, t32_14, t32_15, t32_16, t32_17, t32_18, t32_20, t32_31, t32_32] at ev1 hQ h2 h3 h4 h5 h7 h8 h10 h11 hp1 hA hT ⊢); omega)).2.1 (hQ.2.2.2.2.2.1 (by (try simp only [vp_in_iff, i32lt, i32le, i32eq, i32add, i32sub, i32mul, i32neg, t32_0, t32_8, t32_12, t32_13, t32_14, t32_15, t32_16, t32_17, t32_18, t32_20, t32_31, t32_32] at ev1 hQ h2 h3 h4 h5 h7 h8 h10 h11 hp1 hA hT ⊢); omega)).2.2.1 (hQ.2.2.2.2.2.1 (by (try simp only [vp_in_iff, i32lt, i32le, i32eq, i32add, i32sub, i32mul, i32neg, t32_0, t32_8, t32_12, t32_13, t32_14, t32_15, t32_16, t32_17, t32_18, t32_20, t32_31, t32_32] at ev1 hQ h2 h3 h4 h5 h7 h8 h10 h11 hp1 hA hT ⊢); omega)).2.2.2) cv_X12_311 rfl rfl rfl vi_12_0 ⟨Nat.le_of_ble_eq_true rfl, Nat.le_of_ble_eq_true rfl⟩ ⟨Nat.le_refl _, Nat.le_refl _⟩ (by simp [Value.category]) rfl rfl (by exact uW_uW _ _ _ _) dX12_advance_97 rfl ?_
                  refine mw_goto cx (tgt := 136) dX12_advance_100 (by decide) ?_
                  exact mw_vret cx hr rfl dX12_advance_136
              · refine mw_aload_n cx (q := 82) 1 rfl rfl dX12_advance_81 rfl ?_
                refine mw_iload_n cx (q := 83) 2 rfl rfl dX12_advance_82 rfl ?_
                refine mw_bnd (fun r18 er18 => ?_)
                refine mw_callV cx (q := 86) (d := 5) (As := [.int p1]) (z := fvc (uW M 12 (M 12)) 12 r18) (st := []) (st1 := []) (M' := uW M 12 r18) (by rw [er18]; exact mc_X12_tell l D ta ad (uW M 12 (M 12)) p1 hok hp1 hT (hQ.2.2.2.2.1 (by (try simp only [vp_in_iff, i32lt, i32le, i32eq, i32add, i32sub, i32mul, i32neg, t32_0, t32_8, t32_12, t32_13, t32_14, t32_15, t32_16, t32_17, t32_31, t32_32] at ev1 hQ h2 h3 h4 h5 h7 h8 h10 hp1 hA hT ⊢); omega)).1 (hQ.2.2.2.2.1 (by (try simp only [vp_in_iff, i32lt, i32le, i32eq, i32add, i32sub, i32mul, i32neg, t32_0, t32_8, t32_12, t32_13, t32_14, t32_15, t32_16, t32_17, t32_31, t32_32] at ev1 hQ h2 h3 h4 h5 h7 h8 h10 hp1 hA hT ⊢); omega)).2) cv_X12_308 rfl rfl rfl vi_12_0 ⟨Nat.le_of_ble_eq_true rfl, Nat.le_of_ble_eq_true rfl⟩ ⟨Nat.le_refl _, Nat.le_refl _⟩ (by simp [Value.category]) rfl rfl (by exact uW_uW _ _ _ _) dX12_advance_83 rfl ?_
                refine mw_goto cx (tgt := 136) dX12_advance_86 (by decide) ?_
                exact mw_vret cx hr rfl dX12_advance_136
          · refine mw_aload_n cx (q := 62) 1 rfl rfl dX12_advance_61 rfl ?_
            refine mw_iload_n cx (q := 63) 2 rfl rfl dX12_advance_62 rfl ?_
            refine mw_bnd (fun r19 er19 => ?_)
            refine mw_callV cx (q := 66) (d := 4) (As := [.int p1]) (z := fvc (uW M 12 (M 12)) 12 r19) (st := []) (st1 := []) (M' := uW M 12 r19) (by rw [er19]; exact mc_X12_goThrough l D ta ad (uW M 12 (M 12)) p1 hok hp1 hT (hQ.2.2.2.1 (by (try simp only [vp_in_iff, i32lt, i32le, i32eq, i32add, i32sub, i32mul, i32neg, t32_0, t32_8, t32_12, t32_13, t32_14, t32_15, t32_31, t32_32] at ev1 hQ h2 h3 h4 h5 h7 hp1 hA hT ⊢); omega)).1 (hQ.2.2.2.1 (by (try simp only [vp_in_iff, i32lt, i32le, i32eq, i32add, i32sub, i32mul, i32neg, t32_0, t32_8, t32_12, t32_13, t32_14, t32_15, t32_31, t32_32] at ev1 hQ h2 h3 h4 h5 h7 hp1 hA hT ⊢); omega)).2.1 (hQ.2.2.2.1 (by (try simp only [vp_in_iff, i32lt, i32le, i32eq, i32add, i32sub, i32mul, i32neg, t32_0, t32_8, t32_12, t32_13, t32_14, t32_15, t32_31, t32_32] at ev1 hQ h2 h3 h4 h5 h7 hp1 hA hT ⊢); omega)).2.2) cv_X12_305 rfl rfl rfl vi_12_0 ⟨Nat.le_of_ble_eq_true rfl, Nat.le_of_ble_eq_true rfl⟩ ⟨Nat.le_refl _, Nat.le_refl _⟩ (by simp [Value.category]) rfl rfl (by exact uW_uW _ _ _ _) dX12_advance_63 rfl ?_
            refine mw_goto cx (tgt := 136) dX12_advance_66 (by decide) ?_
            exact mw_vret cx hr rfl dX12_advance_136
      · refine mw_aload_n cx (q := 42) 1 rfl rfl dX12_advance_41 rfl ?_
        refine mw_iload_n cx (q := 43) 2 rfl rfl dX12_advance_42 rfl ?_
        refine mw_bnd (fun r20 er20 => ?_)
        refine mw_callV cx (q := 46) (d := 4) (As := [.int p1]) (z := fvc (uW M 12 (M 12)) 12 r20) (st := []) (st1 := []) (M' := uW M 12 r20) (by rw [er20]; exact mc_X12_repeat l D ta ad (uW M 12 (M 12)) p1 hok hp1 hT (hQ.2.2.1 (by (try simp only [vp_in_iff, i32lt, i32le, i32eq, i32add, i32sub, i32mul, i32neg, t32_0, t32_8, t32_12, t32_13, t32_31, t32_32] at ev1 hQ h2 h3 h4 hp1 hA hT ⊢); omega)).1 (hQ.2.2.1 (by (try simp only [vp_in_iff, i32lt, i32le, i32eq, i32add, i32sub, i32mul, i32neg, t32_0, t32_8, t32_12, t32_13, t32_31, t32_32] at ev1 hQ h2 h3 h4 hp1 hA hT ⊢); omega)).2) cv_X12_302 rfl rfl rfl vi_12_0 ⟨Nat.le_of_ble_eq_true rfl, Nat.le_of_ble_eq_true rfl⟩ ⟨Nat.le_refl _, Nat.le_refl _⟩ (by simp [Value.category]) rfl rfl (by exact uW_uW _ _ _ _) dX12_advance_43 rfl ?_
        refine mw_goto cx (tgt := 136) dX12_advance_46 (by decide) ?_
        exact mw_vret cx hr rfl dX12_advance_136
    · refine mw_aload_n cx (q := 28) 1 rfl rfl dX12_advance_27 rfl ?_
      refine mw_iload_n cx (q := 29) 2 rfl rfl dX12_advance_28 rfl ?_
      refine mw_bnd (fun r21 er21 => ?_)
      refine mw_callV cx (q := 32) (d := 4) (As := [.int p1]) (z := fvc (uW M 12 (M 12)) 12 r21) (st := []) (st1 := []) (M' := uW M 12 r21) (by rw [er21]; exact mc_X12_choose l D ta ad (uW M 12 (M 12)) p1 hok hp1 hT (hQ.2.1 (by (try simp only [vp_in_iff, i32lt, i32le, i32eq, i32add, i32sub, i32mul, i32neg, t32_0, t32_8, t32_9, t32_12, t32_31, t32_32] at ev1 hQ h2 h3 hp1 hA hT ⊢); omega)).1 (hQ.2.1 (by (try simp only [vp_in_iff, i32lt, i32le, i32eq, i32add, i32sub, i32mul, i32neg, t32_0, t32_8, t32_9, t32_12, t32_31, t32_32] at ev1 hQ h2 h3 hp1 hA hT ⊢); omega)).2) cv_X12_299 rfl rfl rfl vi_12_0 ⟨Nat.le_of_ble_eq_true rfl, Nat.le_of_ble_eq_true rfl⟩ ⟨Nat.le_refl _, Nat.le_refl _⟩ (by simp [Value.category]) rfl rfl (by exact uW_uW _ _ _ _) dX12_advance_29 rfl ?_
      refine mw_goto cx (tgt := 136) dX12_advance_32 (by decide) ?_
      exact mw_vret cx hr rfl dX12_advance_136
  · refine mw_aload_n cx (q := 14) 1 rfl rfl dX12_advance_13 rfl ?_
    refine mw_iload_n cx (q := 15) 2 rfl rfl dX12_advance_14 rfl ?_
    refine mw_bnd (fun r22 er22 => ?_)
    refine mw_callV cx (q := 18) (d := 4) (As := [.int p1]) (z := fvc (uW M 12 (M 12)) 12 r22) (st := []) (st1 := []) (M' := uW M 12 r22) (by rw [er22]; exact mc_X12_reckon l D ta ad (uW M 12 (M 12)) p1 hok hp1 hT (hQ.1 (by (try simp only [vp_in_iff, i32lt, i32le, i32eq, i32add, i32sub, i32mul, i32neg, t32_0, t32_8, t32_31, t32_32] at ev1 hQ h2 hp1 hA hT ⊢); omega))) cv_X12_296 rfl rfl rfl vi_12_0 ⟨Nat.le_of_ble_eq_true rfl, Nat.le_of_ble_eq_true rfl⟩ ⟨Nat.le_refl _, Nat.le_refl _⟩ (by simp [Value.category]) rfl rfl (by exact uW_uW _ _ _ _) dX12_advance_15 rfl ?_
    refine mw_goto cx (tgt := 136) dX12_advance_18 (by decide) ?_
    exact mw_vret cx hr rfl dX12_advance_136
theorem keep_P {P : Cm → Prop} (h42 : ∀ (m : Cm) (j x : Int32), P m → vp_in x 4 → P (u3 m 42 0 j x)) (h43 : ∀ (m : Cm) (j x : Int32), P m → P (u3 m 43 0 j x)) (h44 : ∀ (m : Cm) (j x : Int32), P m → vp_in x 8 → P (u3 m 44 0 j x)) (h45 : ∀ (m : Cm) (j x : Int32), P m → P (u3 m 45 0 j x)) {m : Cm} (hk : rIn 8 4 (m 53 0) ∧ rIn 8 8 (m 55 0)) (h : P m) (a b : Int32) (hb : vp_in b 8) : P (f12_keep m a b) := by
  have key : ∀ (K : Cm → Cm) (hK : ∀ y, P y → rIn 8 8 (y 55 0) → P (K y)) (k : Nat) (x : Int32 × Cm), P x.2 → rIn 8 8 (x.2 55 0) → P (f12_keep_lp14 a b K k x) := by
    intro K hK k
    induction k with
    | zero => intro x h _; exact h
    | succ k ih =>
      intro x h h5
      rw [f12_keep_lp14_s]
      split
      · exact hK _ h h5
      · simp only [bnd]
        exact ih _ (h43 _ _ _ h) h5
  unfold f12_keep
  simp only [bnd, jn]
  exact key _ (fun y hy h5 => h45 _ _ _ (h44 _ _ _ hy (h5 _ hb))) 4 _ (h42 _ _ _ h (hk.1 _ hb)) hk.2
theorem okT_f12_keep {m0 m : Cm} (h : OkT m0 m) (a b : Int32) (ha : vp_in a 32) (hb : vp_in b 8) : OkT m0 (f12_keep m a b) :=
  keep_P (P := OkT m0) (fun m j x h hx => okT_g42 h hx) (fun m j x h => okT_putA h (by decide)) (fun m j x h hx => okT_g44 h hx) (fun m j x h => okT_putA h (by decide)) ⟨h.1.fN, h.1.fS⟩ h a b hb
theorem keep_g {m : Cm} (hk : Ok12 m) (a b : Int32) (hb : vp_in b 8) {g : Nat} (h2 : ¬ g = 42) (h3 : ¬ g = 43) (h4 : ¬ g = 44) (h5 : ¬ g = 45) : f12_keep m a b g = m g :=
  keep_P (P := fun m' => m' g = m g) (fun m j x h _ => by rw [u3_ne _ _ _ h2]; exact h) (fun m j x h => by rw [u3_ne _ _ _ h3]; exact h) (fun m j x h _ => by rw [u3_ne _ _ _ h4]; exact h) (fun m j x h => by rw [u3_ne _ _ _ h5]; exact h) ⟨hk.fN, hk.fS⟩ rfl a b hb
/-- a list is laid on the pile -/
def push12 (m : Cm) (op first : Int32) : Cm := u3 (u3 (u3 (u3 (u3 (u3 m 31 0 (m 0 0 45) (m 0 0 60)) 32 0 (m 0 0 45) op) 33 0 (m 0 0 45) 0) 35 0 (m 0 0 45) first) 34 0 (m 0 0 45) (-1)) 37 0 (m 0 0 45) 0
theorem fI_at (f : Int32 → Int32) (j x : Int32) : fI f j x j = x := by unfold fI; rw [if_pos rfl]
theorem push12_31 (m : Cm) (op first : Int32) : push12 m op first 31 0 (m 0 0 45) = m 0 0 60 := fI_at _ _ _
theorem push12_32 (m : Cm) (op first : Int32) : push12 m op first 32 0 (m 0 0 45) = op := fI_at _ _ _
theorem push12_33 (m : Cm) (op first : Int32) : push12 m op first 33 0 (m 0 0 45) = 0 := fI_at _ _ _
theorem push12_34 (m : Cm) (op first : Int32) : push12 m op first 34 0 (m 0 0 45) = -1 := fI_at _ _ _
theorem push12_35 (m : Cm) (op first : Int32) : push12 m op first 35 0 (m 0 0 45) = first := fI_at _ _ _
theorem isFormed_t {m : Cm} {op fn first : Int32} (hk : Ok12 m) (hC : Ct12 m) (hT : Tx12 m (m 0 0 60)) (hN : Nx12 m (m 0 0 60) first) (ho : vp_in op 26) (h : f12_isFormed m op fn first = true) : (lst12 op).toInt ≤ (CN12 m (m 0 0 60) first : Int) ∧ (CN12 m (m 0 0 60) first : Int) ≤ (mst12 op).toInt ∧ (op = 15 ∨ op = 16 → f12_isName m (m 0 0 60) first = true) ∧ (op = 18 ∨ op = 19 → ¬ f12_goodAt m (m 0 0 60) first = -1) ∧ (op = 20 → ¬ f12_goodAt m (m 0 0 60) (f12_following m (m 0 0 60) first) = -1) ∧ (op = 17 → f12_isName m (m 0 0 60) first = true ∧ f12_opOf m (f12_nameAt m (m 0 0 60) first) = -1 ∧ f12_goodAt m (m 0 0 60) first = -1 ∧ f12_isParts m (m 0 0 60) (f12_following m (m 0 0 60) first) = true) := by
  have hne : ¬ op = 26 := by intro z; rw [z, vp_in_iff] at ho; exact absurd ho (by decide)
  unfold f12_isFormed at h
  simp only [bnd, jn] at h
  rw [if_neg hne] at h
  by_cases c1 : f12_countFrom m (m 0 0 60) first < m 29 0 op
  · rw [if_pos c1] at h; cases h
  · rw [if_neg c1] at h
    have h1 := isFormed_1 hk hC hT hN ho c1
    by_cases c2 : f12_countFrom m (m 0 0 60) first ≤ m 30 0 op
    · have h2 : (CN12 m (m 0 0 60) first : Int) ≤ (mst12 op).toInt := by
        have := c2
        rw [(hC op ho).2.2] at this
        simp only [i32le] at this
        rw [countFrom_eq hk hk.scr hT hN] at this
        exact this
      refine ⟨h1, h2, ?_⟩
      rw [if_pos c2] at h
      refine ⟨fun z => ?_, fun z => ?_, fun z => ?_, fun z => ?_⟩
      · rcases z with z | z <;> subst z <;> simpa using h
      · rcases z with z | z <;> subst z <;> simpa using h
      · subst z; simpa using h
      · subst z
        simp only [if_neg (show ¬ (17 : Int32) = 15 by decide), if_neg (show ¬ (17 : Int32) = 16 by decide), if_neg (show ¬ (17 : Int32) = 18 by decide), if_neg (show ¬ (17 : Int32) = 19 by decide), if_neg (show ¬ (17 : Int32) = 20 by decide), if_true] at h
        by_cases d1 : f12_isName m (m 0 0 60) first = true
        · rw [if_pos d1] at h
          by_cases d2 : f12_opOf m (f12_nameAt m (m 0 0 60) first) = -1
          · rw [if_pos d2] at h
            by_cases d3 : f12_goodAt m (m 0 0 60) first = -1
            · rw [if_pos d3] at h
              by_cases d4 : f12_isParts m (m 0 0 60) (f12_following m (m 0 0 60) first) = true
              · exact ⟨d1, d2, d3, d4⟩
              · rw [if_neg d4] at h; simp at h
            · rw [if_neg d3] at h; simp at h
          · rw [if_neg d2] at h; simp at h
        · rw [if_neg d1] at h; simp at h
    · rw [if_neg c2] at h; cases h
theorem u3_s {m : Cm} {k j x : Int32} (h : ¬ k = j) : u3 m 0 0 j x 0 0 k = m 0 0 k := by
  show fI (m 0 0) j x k = _
  unfold fI; rw [if_neg h]
theorem Ix12_eq {m m' : Cm} (h : m' 2 = m 2 ∧ m' 3 = m 3) (s i : Int32) : Ix12 m' s i = Ix12 m s i := by unfold Ix12; rw [h.2]
theorem Nx12_eq {m m' : Cm} (h : m' 2 = m 2 ∧ m' 3 = m 3) (s i : Int32) : Nx12 m' s i = Nx12 m s i := by unfold Nx12; rw [Ix12_eq h]
theorem Tx12_eq {m m' : Cm} (h : m' 2 = m 2 ∧ m' 3 = m 3) (s : Int32) : Tx12 m' s = Tx12 m s := propext ⟨fun t => t.fr ⟨h.1.symm, h.2.symm⟩, fun t => t.fr h⟩
/-- a list that is laid on the pile anew has what it needs -/
theorem advP_new {m m' : Cm} {s op first d : Int32} (h2 : m' 2 = m 2 ∧ m' 3 = m 3) (e31 : m' 31 0 d = s) (e32 : m' 32 0 d = op) (e33 : m' 33 0 d = 0) (e34 : m' 34 0 d = -1) (e35 : m' 35 0 d = first) (ht : (m' 0 0 49).toInt ≤ 97) (hT : Tx12 m s) (hF : 9 ≤ op.toInt ∧ op.toInt ≤ 20 → Ix12 m s first) (h12 : op = 12 ∨ op = 17 ∨ 18 ≤ op.toInt ∧ op.toInt ≤ 20 → Ix12 m s (f12_following m s first)) (h17 : op = 17 → CN12 m s (f12_nextAt m s (f12_following m s first + 1)) ≤ 3) (hg : op = 20 → ¬ f12_goodAt m s (f12_following m s first) = -1) (hg2 : op = 18 ∨ op = 19 → ¬ f12_goodAt m s first = -1) : AdvP m' d := by
  have hz : ¬ (0 : Int32) = 1 := by decide
  have hn1 : ∀ i : Int32, Ix12 m s i → ¬ i = -1 := fun i hi z => by rw [z] at hi; exact absurd hi.1 (by decide)
  unfold AdvP AdvQ
  rw [e31, e32, e33, e34, e35]
  simp only [following_fr h2, goodAt_fr h2, nextAt_fr h2, CN12_fr h2, Ix12_eq h2, Nx12_eq h2, Tx12_eq h2]
  refine ⟨hT, fun _ h => absurd h hz, fun h => ⟨hF ⟨h.1, by omega⟩, fun h' => hn1 _ (h12 (Or.inl h'))⟩, fun h => ⟨hF ⟨by omega, by omega⟩, Or.inl rfl⟩, fun h => ⟨fun _ => hF ⟨by omega, by omega⟩, fun h' => absurd trivial h', by omega⟩, fun h => ⟨hF ⟨by omega, by omega⟩, fun h' => ⟨h12 (Or.inr (Or.inl h')), h17 h'⟩⟩, fun h => ⟨hF ⟨by omega, by omega⟩, h12 (Or.inr (Or.inr h)), hg, fun h' => hg2 ?_⟩, fun _ h => absurd trivial h, fun _ => ⟨fun _ h => absurd trivial h, ht⟩, fun _ h => absurd trivial h⟩
  by_cases c : op = 18
  · exact Or.inl c
  · refine Or.inr ?_
    simp only [i32eq, t32_18, t32_19, t32_20] at *; omega
theorem advP_45 {m : Cm} {d x : Int32} (h : AdvP m d) : AdvP (u3 m 0 0 45 x) d := by
  have e : ∀ g : Nat, ¬ g = 0 → (u3 m 0 0 45 x) g = m g := fun g hg => u3_ne _ _ _ hg
  have e49 : (u3 m 0 0 45 x) 0 0 49 = m 0 0 49 := u3_s (by decide)
  have h2 : (u3 m 0 0 45 x) 2 = m 2 ∧ (u3 m 0 0 45 x) 3 = m 3 := ⟨e 2 (by decide), e 3 (by decide)⟩
  unfold AdvP AdvQ at h ⊢
  simp only [following_fr h2, goodAt_fr h2, nextAt_fr h2, CN12_fr h2, Ix12_eq h2, Nx12_eq h2, Tx12_eq h2, e 31 (by decide), e 32 (by decide), e 33 (by decide), e 34 (by decide), e 35 (by decide), e 41 (by decide), e 42 (by decide), e49]
  exact h
theorem push12_2 (m : Cm) (op first : Int32) : push12 m op first 2 = m 2 ∧ push12 m op first 3 = m 3 := by
  unfold push12
  constructor <;> rw [u3_ne _ _ _ (by decide), u3_ne _ _ _ (by decide), u3_ne _ _ _ (by decide), u3_ne _ _ _ (by decide), u3_ne _ _ _ (by decide), u3_ne _ _ _ (by decide)]
theorem push12_0 (m : Cm) (op first : Int32) : push12 m op first 0 = m 0 := by
  unfold push12
  rw [u3_ne _ _ _ (by decide), u3_ne _ _ _ (by decide), u3_ne _ _ _ (by decide), u3_ne _ _ _ (by decide), u3_ne _ _ _ (by decide), u3_ne _ _ _ (by decide)]
theorem isParts_lp80 {m : Cm} {s : Int32} {x9 : Int32 × Bool × Int32} {K : Bool → Bool} : ∀ (k : Nat) (x : Int32 × Bool), f12_isParts_lp80 m s x9 K k x = true → ∃ y, K y = true ∧ (y = true → x.2 = true) := by
  intro k
  induction k with
  | zero => intro x h; exact absurd (show (false : Bool) = true from h) (by decide)
  | succ k ih =>
    intro x h
    rw [f12_isParts_lp80_s] at h
    by_cases c1 : x.1 = x9.1
    · rw [if_pos c1] at h; exact ⟨_, h, id⟩
    · rw [if_neg c1] at h
      by_cases c2 : x.2 = true
      · rw [if_pos c2] at h
        simp only [bnd, jn] at h
        split at h
        · obtain ⟨y, hy, _⟩ := ih _ h; exact ⟨y, hy, fun _ => c2⟩
        · obtain ⟨y, hy, _⟩ := ih _ h; exact ⟨y, hy, fun _ => c2⟩
      · rw [if_neg c2] at h; exact ⟨_, h, id⟩
theorem isParts_lp38_f (m : Cm) (s a : Int32) (k : Nat) (n c : Int32) : f12_isParts_lp38 m s a k (n, false, c) = false := by
  cases k with
  | zero => rfl
  | succ k =>
    rw [f12_isParts_lp38_s]
    split
    · rfl
    · rfl
theorem isParts_lp38 {m : Cm} {s a : Int32} (hk : Ok12 m) (hs : vp_in s 8) (hT : Tx12 m s) : ∀ (k : Nat) (n c : Int32) (b : Bool), Nx12 m s n → 0 ≤ c.toInt → c.toInt ≤ 3 → f12_isParts_lp38 m s a k (n, b, c) = true → b = true ∧ c.toInt + (CN12 m s n : Int) ≤ 3 := by
  intro k
  induction k with
  | zero => intro n c b _ _ _ h; exact absurd (show (false : Bool) = true from h) (by decide)
  | succ k ih =>
    intro n c b hN h0 h3 h
    cases b with
    | false => rw [isParts_lp38_f] at h; exact absurd h (by decide)
    | true =>
      rw [f12_isParts_lp38_s] at h
      by_cases c1 : n = -1
      · refine ⟨rfl, ?_⟩
        rw [c1, CN12_none]; omega
      · have hI := hN.resolve_left c1
        have hc := CN12_s hk hs hT hI
        simp only [bnd, jn] at h
        rw [if_neg c1, if_pos trivial] at h
        refine ⟨rfl, ?_⟩
        have fin : ∀ (v : Bool), f12_isParts_lp80 m s (n, true, c) (fun y30 => f12_isParts_lp38 m s a k (f12_following m s n, y30, c + 1)) 123 (f12_nextAt m s (a + 1), v) = true → v = true ∧ f12_isParts_lp38 m s a k (f12_following m s n, true, c + 1) = true := by
          intro v hv
          obtain ⟨y, hy, hb⟩ := isParts_lp80 _ _ hv
          cases y with
          | false => rw [isParts_lp38_f] at hy; exact absurd hy (by decide)
          | true => exact ⟨hb rfl, hy⟩
        by_cases c3 : f12_isName m s n = true
        · rw [if_pos c3] at h
          by_cases c4 : 3 ≤ c
          · rw [if_pos c4] at h; exact absurd (fin _ h).1 (by decide)
          · rw [if_neg c4] at h
            simp only [i32le, t32_3] at c4
            have e1 : (c + 1).toInt = c.toInt + 1 := inc_t h0 (by omega)
            have := (ih _ _ _ (following_n hk hs hT hI) (by omega) (by omega) (fin _ h).2).2
            omega
        · rw [if_neg c3] at h; exact absurd (fin _ h).1 (by decide)
/-- a list that is an inner list of names has up to three -/
theorem isParts_cn {m : Cm} {s a : Int32} (hk : Ok12 m) (hs : vp_in s 8) (hT : Tx12 m s) (hI : Ix12 m s a) (h : f12_isParts m s a = true) : CN12 m s (f12_nextAt m s (a + 1)) ≤ 3 := by
  have hN : Nx12 m s (f12_nextAt m s (a + 1)) := by
    have h1 := hI.1; have h2 := hI.2; have h3 := (hk.len _ hs).2
    exact nextAt_n hk hs (by rw [inc_t h1 (by omega)]; omega) (by rw [inc_t h1 (by omega)]; omega)
  unfold f12_isParts at h
  simp only [bnd, jn] at h
  by_cases c : f12_signAt m s a = 40
  · rw [if_pos c] at h
    simp only [if_true] at h
    have := (isParts_lp38 hk hs hT _ _ _ _ hN (by decide) (by decide) h).2
    rw [t32_0] at this
    have e : (0 : Int) + (CN12 m s (f12_nextAt m s (a + 1)) : Int) ≤ 3 := this
    omega
  · rw [if_neg c] at h
    simp only [Bool.false_eq_true, if_false] at h
    exact absurd ((isParts_lp38_f m s a 123 (-1) 0).symm.trans h) (by decide)
theorem lst12_2 {j : Int32} (h : j = 12 ∨ j = 17 ∨ 18 ≤ j.toInt ∧ j.toInt ≤ 20) : 2 ≤ (lst12 j).toInt := by
  have hj : vp_in j 26 := by
    rw [vp_in_iff]
    rcases h with h | h | h
    · subst h; decide
    · subst h; decide
    · omega
  refine in26 (P := fun j => (j = 12 ∨ j = 17 ∨ 18 ≤ j.toInt ∧ j.toInt ≤ 20) → 2 ≤ (lst12 j).toInt) ?_ hj h
  decide +kernel
theorem advP_push {m : Cm} {op fn first : Int32} (hk : Ok12 m) (hC : Ct12 m) (hT : Tx12 m (m 0 0 60)) (hN : Nx12 m (m 0 0 60) first) (ho : vp_in op 26) (h : f12_isFormed m op fn first = true) (ht : (m 0 0 49).toInt ≤ 97) : AdvP (push12 m op first) (m 0 0 45) := by
  obtain ⟨h1, h2, h3, h4, h5, h6⟩ := isFormed_t hk hC hT hN ho h
  have hF : 9 ≤ op.toInt ∧ op.toInt ≤ 20 → Ix12 m (m 0 0 60) first := fun z => CN12_pos hN (by
    have := lst12_1 ho (by intro z'; subst z'; simp only [t32_24] at z; omega) (by intro z'; subst z'; simp only [t32_25] at z; omega)
    omega)
  have hS : op = 12 ∨ op = 17 ∨ 18 ≤ op.toInt ∧ op.toInt ≤ 20 → Ix12 m (m 0 0 60) (f12_following m (m 0 0 60) first) := fun z => CN12_2 hk hk.scr hT hN (by have := lst12_2 z; omega)
  exact advP_new (push12_2 m op first) (push12_31 m op first) (push12_32 m op first) (push12_33 m op first) (push12_34 m op first) (push12_35 m op first) (by rw [push12_0]; exact ht) hT hF hS (fun z => isParts_cn hk hk.scr hT (hS (Or.inr (Or.inl z))) (h6 z).2.2.2) h5 h4
theorem advP_keep {m : Cm} {fn first d : Int32} (hp : Ok12 (push12 m 26 first)) (hT : Tx12 m (m 0 0 60)) (hf : vp_in fn 8) (ht : (m 0 0 49).toInt ≤ 97) : AdvP (f12_keep (push12 m 26 first) d fn) (m 0 0 45) := by
  have kg : ∀ g : Nat, (¬ g = 42 ∧ ¬ g = 43) ∧ ¬ g = 44 ∧ ¬ g = 45 → f12_keep (push12 m 26 first) d fn g = push12 m 26 first g := fun g h => keep_g hp d fn hf h.1.1 h.1.2 h.2.1 h.2.2
  have e2 := push12_2 m 26 first
  refine advP_new (m := m) (s := m 0 0 60) (op := 26) (first := first) ⟨by rw [kg 2 (by decide)]; exact e2.1, by rw [kg 3 (by decide)]; exact e2.2⟩ (by rw [kg 31 (by decide)]; exact push12_31 _ _ _) (by rw [kg 32 (by decide)]; exact push12_32 _ _ _) (by rw [kg 33 (by decide)]; exact push12_33 _ _ _) (by rw [kg 34 (by decide)]; exact push12_34 _ _ _) (by rw [kg 35 (by decide)]; exact push12_35 _ _ _) (by rw [kg 0 (by decide), push12_0]; exact ht) hT ?_ ?_ ?_ ?_ ?_ <;> (intro z; exact absurd z (by decide))
def f12_open (m : Cm) : Cm := bnd (f12_nextAt m (m 0 0 60) ((m 0 0 61) + 1)) (fun (r1 : Int32) => bnd (f12_isName m (m 0 0 60) r1) (fun (r2 : Bool) => if r2 = true then bnd (f12_nameAt m (m 0 0 60) r1) (fun (r4 : Int32) => bnd (f12_opOf m r4) (fun (r5 : Int32) => jn (fun (v6 : Int32) => jn (fun (v11 : Int32) => bnd (f12_following m (m 0 0 60) r1) (fun (r14 : Int32) => if v11 = (-1) then bnd (u3 m 0 0 63 3) (fun (m40 : Cm) => m40) else bnd (f12_isFormed m v11 v6 r14) (fun (r16 : Bool) => if r16 = true then bnd (u3 m 31 0 (m 0 0 45) (m 0 0 60)) (fun (m18 : Cm) => bnd (u3 m18 32 0 (m 0 0 45) v11) (fun (m20 : Cm) => bnd (u3 m20 33 0 (m 0 0 45) 0) (fun (m22 : Cm) => bnd (u3 m22 35 0 (m 0 0 45) r14) (fun (m24 : Cm) => bnd (u3 m24 34 0 (m 0 0 45) (-1)) (fun (m26 : Cm) => bnd (u3 m26 37 0 (m 0 0 45) 0) (fun (m28 : Cm) => jn (fun (v30 : Cm) => bnd (u3 v30 0 0 45 ((v30 0 0 45) + 1)) (fun (m35 : Cm) => bnd (f12_advance m35 (((v30 0 0 45) + 1) - 1)) (fun (r37 : Cm) => r37))) (fun K31 => if v11 = 26 then bnd (f12_keep m28 (m 0 0 45) v6) (fun (r33 : Cm) => K31 r33) else K31 m28))))))) else bnd (u3 m 0 0 63 4) (fun (m38 : Cm) => m38)))) (fun K12 => if v6 = (-1) then K12 r5 else K12 26)) (fun K7 => if r5 = (-1) then bnd (f12_nameAt m (m 0 0 60) r1) (fun (r9 : Int32) => bnd (f12_functionOf m r9) (fun (r10 : Int32) => K7 r10)) else K7 (-1)))) else bnd (u3 m 0 0 63 4) (fun (m42 : Cm) => m42)))
set_option maxHeartbeats 4000000 in
set_option maxRecDepth 100000 in
theorem mc_X12_open (l : Launch) (D : va_G) (ta : wTa) (ad : wAd) (M : Wm) (hok : Ok12 (M 12)) (hT : Tx12 (M 12) ((M 12) 0 0 60)) (hI : Ix12 (M 12) ((M 12) 0 0 60) ((M 12) 0 0 61)) (hd : ((M 12) 0 0 45).toInt < 30) (hC : Ct12 (M 12)) (htop : ((M 12) 0 0 49).toInt ≤ 97) : MC l D ta ad yX12_open cX12_open 5 none 7 [.ref (ad 12 0 0)] M (fvc M 12 (f12_open (M 12))) := by
  refine MC.of (fvc M 12) (f12_open (M 12)) rfl (by decide) (Nat.le_of_ble_eq_true rfl) (fun p e s m args below meth c cx hr => ?_)
  unfold f12_open
  refine mw_sub (lv' := [(0, .ref (ad 12 0 0))]) [0] rfl ?_
  refine mw_eqM (uW_self M 12) ?_
  have u_scr : vp_in ((M 12) 0 0 60) 8 := hok.scr
  have u_d0 : 0 ≤ ((M 12) 0 0 45).toInt := hok.d0
  have ok0 : OkT (M 12) (M 12) := ⟨hok, rfl, rfl⟩
  have hdv : vp_in ((M 12) 0 0 45) 32 := (by have := hok.d0; rw [vp_in_iff]; omega)
  refine mw_aload_n cx (q := 1) 0 rfl rfl dX12_open_0 rfl ?_
  refine mw_aload_n cx (q := 2) 0 rfl rfl dX12_open_1 rfl ?_
  refine mw_get cx (q := 5) (v := .int ((M 12) 0 0 60)) gf_X12_242 rfl rfl vi_12_0 dX12_open_2 rfl ?_
  refine mw_aload_n cx (q := 6) 0 rfl rfl dX12_open_5 rfl ?_
  refine mw_get cx (q := 9) (v := .int ((M 12) 0 0 61)) gf_X12_245 rfl rfl vi_12_0 dX12_open_6 rfl ?_
  refine mw_iconst cx (q := 10) (v := 1) dX12_open_9 rfl rfl ?_
  refine mw_iadd cx (q := 11) dX12_open_10 rfl ?_
  refine mw_bnd (fun r1 er1 => ?_)
  refine mw_callV cx (q := 14) (d := 1) (As := [.int ((M 12) 0 0 60), .int (((M 12) 0 0 61) + 1)]) (z := fip (uW M 12 (M 12)) r1) (st := []) (st1 := [.int r1]) (M' := (uW M 12 (M 12))) (by rw [er1]; exact mc_X12_nextAt l D ta ad (uW M 12 (M 12)) ((M 12) 0 0 60) (((M 12) 0 0 61) + 1) (ok0.1) u_scr (by have h1 := hI.1; have h2 := hI.2; have h3 := (hok.len _ hok.scr).2; rw [inc_t h1 (by omega)]; omega) (by have h1 := hI.1; have h2 := hI.2; have h3 := (hok.len _ hok.scr).2; rw [inc_t h1 (by omega)]; omega)) cv_X12_198 rfl rfl rfl vi_12_0 ⟨Nat.le_of_ble_eq_true rfl, Nat.le_of_ble_eq_true rfl⟩ ⟨Nat.le_refl _, Nat.le_refl _⟩ (by simp [Value.category]) rfl rfl rfl dX12_open_11 rfl ?_
  have qr10 : Nx12 (M 12) ((M 12) 0 0 60) r1 := (by rw [er1]; exact nextAt_n (ok0.1) u_scr (by have h1 := hI.1; have h2 := hI.2; have h3 := (hok.len _ hok.scr).2; rw [inc_t h1 (by omega)]; omega) (by have h1 := hI.1; have h2 := hI.2; have h3 := (hok.len _ hok.scr).2; rw [inc_t h1 (by omega)]; omega))
  refine mw_istore_n cx (q := 15) (lv' := [(1, .int r1), (0, .ref (ad 12 0 0))]) rfl rfl (by decide) dX12_open_14 rfl ?_
  refine mw_aload_n cx (q := 16) 1 rfl rfl dX12_open_15 rfl ?_
  refine mw_aload_n cx (q := 17) 1 rfl rfl dX12_open_16 rfl ?_
  refine mw_get cx (q := 20) (v := .int ((M 12) 0 0 60)) gf_X12_242 rfl rfl vi_12_0 dX12_open_17 rfl ?_
  refine mw_iload_n cx (q := 21) 0 rfl rfl dX12_open_20 rfl ?_
  refine mw_bnd (fun r2 er2 => ?_)
  refine mw_callV cx (q := 24) (d := 2) (As := [.int ((M 12) 0 0 60), .int r1]) (z := fzp (uW M 12 (M 12)) r2) (st := []) (st1 := [.int (b2i r2)]) (M' := (uW M 12 (M 12))) (by rw [er2]; exact mc_X12_isName l D ta ad (uW M 12 (M 12)) ((M 12) 0 0 60) r1 (ok0.1) u_scr qr10) cv_X12_207 rfl rfl rfl vi_12_0 ⟨Nat.le_of_ble_eq_true rfl, Nat.le_of_ble_eq_true rfl⟩ ⟨Nat.le_refl _, Nat.le_refl _⟩ (by simp [Value.category]) rfl rfl rfl dX12_open_21 rfl ?_
  have qr20 : r2 = true → Ix12 (M 12) ((M 12) 0 0 60) r1 := (fun hq => isName_i qr10 (er2.symm.trans hq))
  refine mw_ifb_ne cx (tgt := 33) (q := 27) dX12_open_24 (by decide) rfl (fun h3 => ?_) (fun h3 => ?_)
  · refine mw_aload_n cx (q := 34) 1 rfl rfl dX12_open_33 rfl ?_
    refine mw_aload_n cx (q := 35) 1 rfl rfl dX12_open_34 rfl ?_
    refine mw_aload_n cx (q := 36) 1 rfl rfl dX12_open_35 rfl ?_
    refine mw_get cx (q := 39) (v := .int ((M 12) 0 0 60)) gf_X12_242 rfl rfl vi_12_0 dX12_open_36 rfl ?_
    refine mw_iload_n cx (q := 40) 0 rfl rfl dX12_open_39 rfl ?_
    refine mw_bnd (fun r4 er4 => ?_)
    refine mw_callV cx (q := 43) (d := 2) (As := [.int ((M 12) 0 0 60), .int r1]) (z := fip (uW M 12 (M 12)) r4) (st := [.ref (ad 12 0 0)]) (st1 := [.int r4, .ref (ad 12 0 0)]) (M' := (uW M 12 (M 12))) (by rw [er4]; exact mc_X12_nameAt l D ta ad (uW M 12 (M 12)) ((M 12) 0 0 60) r1 (ok0.1) u_scr (qr20 h3)) cv_X12_211 rfl rfl rfl vi_12_0 ⟨Nat.le_of_ble_eq_true rfl, Nat.le_of_ble_eq_true rfl⟩ ⟨Nat.le_refl _, Nat.le_refl _⟩ (by simp [Value.category]) rfl rfl rfl dX12_open_40 rfl ?_
    refine mw_bnd (fun r5 er5 => ?_)
    refine mw_callV cx (q := 46) (d := 0) (As := [.int r4]) (z := fip (uW M 12 (M 12)) r5) (st := []) (st1 := [.int r5]) (M' := (uW M 12 (M 12))) (by rw [er5]; exact mc_X12_opOf l D ta ad (uW M 12 (M 12)) r4) cv_X12_277 rfl rfl rfl vi_12_0 ⟨Nat.le_of_ble_eq_true rfl, Nat.le_of_ble_eq_true rfl⟩ ⟨Nat.le_refl _, Nat.le_refl _⟩ (by simp [Value.category]) rfl rfl rfl dX12_open_43 rfl ?_
    have qr50 : ¬ r5 = (-1) → vp_in r5 26 := (by rw [er5]; exact opOf_in)
    have hop : ¬ r5 = (-1) → vp_in r5 26 := (by rw [er5]; exact opOf_in)
    refine mw_istore_n cx (q := 47) (lv' := [(2, .int r5), (1, .int r1), (0, .ref (ad 12 0 0))]) rfl rfl (by decide) dX12_open_46 rfl ?_
    refine mw_iload_n cx (q := 48) 0 rfl rfl dX12_open_47 rfl ?_
    refine mw_iconst cx (q := 49) (v := (-1)) dX12_open_48 rfl rfl ?_
    refine mw_jnP (P := fun (v6 : Int32) => (¬ v6 = (-1) → vp_in v6 8)) (Mj := fun (v6 : Int32) => (uW M 12 (M 12))) (pj := 69) (lj := fun (v6 : Int32) => [(0, .ref (ad 12 0 0)), (1, .int r1), (2, .int r5)]) (sj := fun (v6 : Int32) => [.int v6]) (fun v6 jv6 => ?_) (fun K7 hK7 => ?_)
    · have jv6_0 := jv6
      refine mw_istore_n cx (q := 70) (lv' := [(3, .int v6), (0, .ref (ad 12 0 0)), (1, .int r1), (2, .int r5)]) rfl rfl (by decide) dX12_open_69 rfl ?_
      refine mw_iload_n cx (q := 71) 0 rfl rfl dX12_open_70 rfl ?_
      refine mw_iconst cx (q := 72) (v := (-1)) dX12_open_71 rfl rfl ?_
      refine mw_jnP (P := fun (v11 : Int32) => (¬ v11 = (-1) → vp_in v11 27) ∧ (v11 = 26 → vp_in v6 8)) (Mj := fun (v11 : Int32) => (uW M 12 (M 12))) (pj := 81) (lj := fun (v11 : Int32) => [(0, .ref (ad 12 0 0)), (1, .int r1), (3, .int v6)]) (sj := fun (v11 : Int32) => [.int v11]) (fun v11 jv11 => ?_) (fun K12 hK12 => ?_)
      · obtain ⟨jv11_0, jv11_1⟩ := jv11
        refine mw_istore_n cx (q := 82) (lv' := [(2, .int v11), (0, .ref (ad 12 0 0)), (1, .int r1), (3, .int v6)]) rfl rfl (by decide) dX12_open_81 rfl ?_
        refine mw_aload_n cx (q := 83) 1 rfl rfl dX12_open_82 rfl ?_
        refine mw_aload_n cx (q := 84) 1 rfl rfl dX12_open_83 rfl ?_
        refine mw_get cx (q := 87) (v := .int ((M 12) 0 0 60)) gf_X12_242 rfl rfl vi_12_0 dX12_open_84 rfl ?_
        refine mw_iload_n cx (q := 88) 2 rfl rfl dX12_open_87 rfl ?_
        refine mw_bnd (fun r14 er14 => ?_)
        refine mw_callV cx (q := 91) (d := 3) (As := [.int ((M 12) 0 0 60), .int r1]) (z := fip (uW M 12 (M 12)) r14) (st := []) (st1 := [.int r14]) (M' := (uW M 12 (M 12))) (by rw [er14]; exact mc_X12_following l D ta ad (uW M 12 (M 12)) ((M 12) 0 0 60) r1 (ok0.1) u_scr hT (qr20 h3)) cv_X12_201 rfl rfl rfl vi_12_0 ⟨Nat.le_of_ble_eq_true rfl, Nat.le_of_ble_eq_true rfl⟩ ⟨Nat.le_refl _, Nat.le_refl _⟩ (by simp [Value.category]) rfl rfl rfl dX12_open_88 rfl ?_
        have qr140 : Nx12 (M 12) ((M 12) 0 0 60) r14 := (by rw [er14]; exact following_n (ok0.1) u_scr hT (qr20 h3))
        have hnx : Nx12 (M 12) ((M 12) 0 0 60) r14 := (by rw [er14]; exact following_n hok hok.scr hT (qr20 h3))
        refine mw_istore cx (q := 93) (lv' := [(4, .int r14), (2, .int v11), (0, .ref (ad 12 0 0)), (1, .int r1), (3, .int v6)]) rfl (by decide) dX12_open_91 rfl ?_
        refine mw_iload_n cx (q := 94) 1 rfl rfl dX12_open_93 rfl ?_
        refine mw_iconst cx (q := 95) (v := (-1)) dX12_open_94 rfl rfl ?_
        refine mw_icmp_ne cx (tgt := 106) (q := 98) dX12_open_95 (by decide) rfl (fun h15 => ?_) (fun h15 => ?_)
        · refine mw_aload_n cx (q := 107) 2 rfl rfl dX12_open_106 rfl ?_
          refine mw_iload_n cx (q := 108) 1 rfl rfl dX12_open_107 rfl ?_
          refine mw_iload_n cx (q := 109) 4 rfl rfl dX12_open_108 rfl ?_
          refine mw_iload cx (q := 111) 0 rfl dX12_open_109 rfl ?_
          refine mw_bnd (fun r16 er16 => ?_)
          refine mw_callV cx (q := 114) (d := 5) (As := [.int v11, .int v6, .int r14]) (z := fzp (uW M 12 (M 12)) r16) (st := []) (st1 := [.int (b2i r16)]) (M' := (uW M 12 (M 12))) (by rw [er16]; exact mc_X12_isFormed l D ta ad (uW M 12 (M 12)) v11 v6 r14 (ok0.1) hT qr140 (jv11_0 h15) jv11_1 hC) cv_X12_286 rfl rfl rfl vi_12_0 ⟨Nat.le_of_ble_eq_true rfl, Nat.le_of_ble_eq_true rfl⟩ ⟨Nat.le_refl _, Nat.le_refl _⟩ (by simp [Value.category]) rfl rfl rfl dX12_open_111 rfl ?_
          have hfm : r16 = true → f12_isFormed (M 12) v11 v6 r14 = true := (fun hq => er16.symm.trans hq)
          refine mw_ifb_ne cx (tgt := 125) (q := 117) dX12_open_114 (by decide) rfl (fun h17 => ?_) (fun h17 => ?_)
          · refine mw_aload_n cx (q := 126) 2 rfl rfl dX12_open_125 rfl ?_
            refine mw_get cx (q := 129) (v := .ref (ad 12 31 0)) gf_X12_98 rfl rfl vi_12_0 dX12_open_126 rfl ?_
            refine mw_aload_n cx (q := 130) 2 rfl rfl dX12_open_129 rfl ?_
            refine mw_get cx (q := 133) (v := .int ((M 12) 0 0 45)) gf_X12_235 rfl rfl vi_12_0 dX12_open_130 rfl ?_
            refine mw_aload_n cx (q := 134) 2 rfl rfl dX12_open_133 rfl ?_
            refine mw_get cx (q := 137) (v := .int ((M 12) 0 0 60)) gf_X12_242 rfl rfl vi_12_0 dX12_open_134 rfl ?_
            refine mw_iastC cx (q := 138) (fun _ => rfl) (by decide) vi_12_31 hdv (by decide) dX12_open_137 rfl (fun m18 em18 => ?_)
            have ok19 : OkT (M 12) m18 := (by rw [em18]; exact okT_g31 ok0 hok.scr)
            refine mw_aload_n cx (q := 139) 2 rfl rfl dX12_open_138 rfl ?_
            refine mw_get cx (q := 142) (v := .ref (ad 12 32 0)) gf_X12_101 rfl rfl vi_12_0 dX12_open_139 rfl ?_
            refine mw_aload_n cx (q := 143) 2 rfl rfl dX12_open_142 rfl ?_
            refine mw_get cx (q := 146) (v := .int ((M 12) 0 0 45)) gf_X12_235 rfl (by rw [em18]; rfl) vi_12_0 dX12_open_143 rfl ?_
            refine mw_iload_n cx (q := 147) 1 rfl rfl dX12_open_146 rfl ?_
            refine mw_iastC cx (q := 148) (fun _ => rfl) (by decide) vi_12_32 hdv (by decide) dX12_open_147 rfl (fun m20 em20 => ?_)
            have ok21 : OkT (M 12) m20 := (by rw [em20]; exact okT_g32 ok19 (jv11_0 h15))
            refine mw_aload_n cx (q := 149) 2 rfl rfl dX12_open_148 rfl ?_
            refine mw_get cx (q := 152) (v := .ref (ad 12 33 0)) gf_X12_104 rfl rfl vi_12_0 dX12_open_149 rfl ?_
            refine mw_aload_n cx (q := 153) 2 rfl rfl dX12_open_152 rfl ?_
            refine mw_get cx (q := 156) (v := .int ((M 12) 0 0 45)) gf_X12_235 rfl (by rw [em20, em18]; rfl) vi_12_0 dX12_open_153 rfl ?_
            refine mw_iconst cx (q := 157) (v := 0) dX12_open_156 rfl rfl ?_
            refine mw_iastC cx (q := 158) (fun _ => rfl) (by decide) vi_12_33 hdv (by decide) dX12_open_157 rfl (fun m22 em22 => ?_)
            have ok23 : OkT (M 12) m22 := (by rw [em22]; exact okT_putA ok21 (by decide))
            refine mw_aload_n cx (q := 159) 2 rfl rfl dX12_open_158 rfl ?_
            refine mw_get cx (q := 162) (v := .ref (ad 12 35 0)) gf_X12_110 rfl rfl vi_12_0 dX12_open_159 rfl ?_
            refine mw_aload_n cx (q := 163) 2 rfl rfl dX12_open_162 rfl ?_
            refine mw_get cx (q := 166) (v := .int ((M 12) 0 0 45)) gf_X12_235 rfl (by rw [em22, em20, em18]; rfl) vi_12_0 dX12_open_163 rfl ?_
            refine mw_iload cx (q := 168) 0 rfl dX12_open_166 rfl ?_
            refine mw_iastC cx (q := 169) (fun _ => rfl) (by decide) vi_12_35 hdv (by decide) dX12_open_168 rfl (fun m24 em24 => ?_)
            have ok25 : OkT (M 12) m24 := (by rw [em24]; exact okT_putA ok23 (by decide))
            refine mw_aload_n cx (q := 170) 2 rfl rfl dX12_open_169 rfl ?_
            refine mw_get cx (q := 173) (v := .ref (ad 12 34 0)) gf_X12_107 rfl rfl vi_12_0 dX12_open_170 rfl ?_
            refine mw_aload_n cx (q := 174) 2 rfl rfl dX12_open_173 rfl ?_
            refine mw_get cx (q := 177) (v := .int ((M 12) 0 0 45)) gf_X12_235 rfl (by rw [em24, em22, em20, em18]; rfl) vi_12_0 dX12_open_174 rfl ?_
            refine mw_iconst cx (q := 178) (v := (-1)) dX12_open_177 rfl rfl ?_
            refine mw_iastC cx (q := 179) (fun _ => rfl) (by decide) vi_12_34 hdv (by decide) dX12_open_178 rfl (fun m26 em26 => ?_)
            have ok27 : OkT (M 12) m26 := (by rw [em26]; exact okT_putA ok25 (by decide))
            refine mw_aload_n cx (q := 180) 2 rfl rfl dX12_open_179 rfl ?_
            refine mw_get cx (q := 183) (v := .ref (ad 12 37 0)) gf_X12_116 rfl rfl vi_12_0 dX12_open_180 rfl ?_
            refine mw_aload_n cx (q := 184) 2 rfl rfl dX12_open_183 rfl ?_
            refine mw_get cx (q := 187) (v := .int ((M 12) 0 0 45)) gf_X12_235 rfl (by rw [em26, em24, em22, em20, em18]; rfl) vi_12_0 dX12_open_184 rfl ?_
            refine mw_iconst cx (q := 188) (v := 0) dX12_open_187 rfl rfl ?_
            refine mw_iastC cx (q := 189) (fun _ => rfl) (by decide) vi_12_37 hdv (by decide) dX12_open_188 rfl (fun m28 em28 => ?_)
            have ok29 : OkT (M 12) m28 := (by rw [em28]; exact okT_putA ok27 (by decide))
            refine mw_iload_n cx (q := 190) 1 rfl rfl dX12_open_189 rfl ?_
            refine mw_bipush cx (q := 192) (v := 26) dX12_open_190 rfl rfl ?_
            refine mw_jnP (P := fun (v30 : Cm) => (AdvP v30 ((M 12) 0 0 45)) ∧ ((v30 0 0 45) = ((M 12) 0 0 45)) ∧ (OkT (M 12) v30)) (Mj := fun (v30 : Cm) => (uW M 12 v30)) (pj := 204) (lj := fun (v30 : Cm) => [(0, .ref (ad 12 0 0))]) (sj := fun (v30 : Cm) => []) (fun v30 jv30 => ?_) (fun K31 hK31 => ?_)
            · obtain ⟨jv30_0, jv30_1, jv30_2⟩ := jv30
              refine mw_aload_n cx (q := 205) 0 rfl rfl dX12_open_204 rfl ?_
              refine mw_dup cx (q := 206) dX12_open_205 rfl rfl ?_
              refine mw_get cx (q := 209) (v := .int (v30 0 0 45)) gf_X12_235 rfl rfl vi_12_0 dX12_open_206 rfl ?_
              refine mw_iconst cx (q := 210) (v := 1) dX12_open_209 rfl rfl ?_
              refine mw_iadd cx (q := 211) dX12_open_210 rfl ?_
              refine mw_putC cx (q := 214) 45 gf_X12_235 pf_X12_45 (int_fit _) rfl (Nat.le_of_ble_eq_true rfl) rfl vi_12_0 (by decide) dX12_open_211 rfl (fun m35 em35 => ?_)
              have ok36 : OkT (M 12) m35 := (by rw [em35]; exact okT_s45 jv30_2 (by rw [jv30_1, inc_t hok.d0 (by omega)]; have := hok.d0; omega))
              refine mw_aload_n cx (q := 215) 0 rfl rfl dX12_open_214 rfl ?_
              refine mw_aload_n cx (q := 216) 0 rfl rfl dX12_open_215 rfl ?_
              refine mw_get cx (q := 219) (v := .int ((v30 0 0 45) + 1)) gf_X12_235 rfl (by rw [em35]; rfl) vi_12_0 dX12_open_216 rfl ?_
              refine mw_iconst cx (q := 220) (v := 1) dX12_open_219 rfl rfl ?_
              refine mw_isub cx (q := 221) dX12_open_220 rfl ?_
              refine mw_bnd (fun r37 er37 => ?_)
              refine mw_callV cx (q := 224) (d := 6) (As := [.int (((v30 0 0 45) + 1) - 1)]) (z := fvc (uW M 12 m35) 12 r37) (st := []) (st1 := []) (M' := uW M 12 r37) (by rw [er37]; exact mc_X12_advance l D ta ad (uW M 12 m35) (((v30 0 0 45) + 1) - 1) (ok36.1) (by rw [Int32.add_sub_cancel, jv30_1]; exact hdv) (by rw [Int32.add_sub_cancel, jv30_1, em35]; exact advP_45 jv30_0)) cv_X12_293 rfl rfl rfl vi_12_0 ⟨Nat.le_of_ble_eq_true rfl, Nat.le_of_ble_eq_true rfl⟩ ⟨Nat.le_refl _, Nat.le_refl _⟩ (by simp [Value.category]) rfl rfl (by exact uW_uW _ _ _ _) dX12_open_221 rfl ?_
              exact mw_vret cx hr rfl dX12_open_224
            · refine mw_icmp_ne cx (tgt := 204) (q := 195) dX12_open_192 (by decide) rfl (fun h32 => ?_) (fun h32 => ?_)
              · refine mw_sub [2] rfl ?_
                exact hK31 m28 ⟨(by rw [em28, em26, em24, em22, em20, em18]; exact advP_push hok hC hT hnx (by (try simp only [vp_in_iff, i32lt, i32le, i32eq, i32add, i32sub, i32mul, i32neg, t32_0, t32_1, t32_8, t32_26, t32_27, t32_60, t32_61] at jv11_0 jv11_1 h15 hfm h17 ok19 ok21 ok23 ok25 ok27 ok29 h32 hT hI u_scr ok0 qr10 qr20 h3 jv6_0 qr140 hnx hok hC ⊢); omega) (hfm (by assumption)) htop), (by rw [em28, em26, em24, em22, em20, em18]; rfl), ok29⟩
              · refine mw_aload_n cx (q := 196) 2 rfl rfl dX12_open_195 rfl ?_
                refine mw_aload_n cx (q := 197) 2 rfl rfl dX12_open_196 rfl ?_
                refine mw_get cx (q := 200) (v := .int ((M 12) 0 0 45)) gf_X12_235 rfl (by rw [em28, em26, em24, em22, em20, em18]; rfl) vi_12_0 dX12_open_197 rfl ?_
                refine mw_iload_n cx (q := 201) 4 rfl rfl dX12_open_200 rfl ?_
                refine mw_bnd (fun r33 er33 => ?_)
                refine mw_callV cx (q := 204) (d := 0) (As := [.int ((M 12) 0 0 45), .int v6]) (z := fvc (uW M 12 m28) 12 r33) (st := []) (st1 := []) (M' := uW M 12 r33) (by rw [er33]; exact mc_X12_keep l D ta ad (uW M 12 m28) ((M 12) 0 0 45) v6 hdv (jv11_1 h32)) cv_X12_289 rfl rfl rfl vi_12_0 ⟨Nat.le_of_ble_eq_true rfl, Nat.le_of_ble_eq_true rfl⟩ ⟨Nat.le_refl _, Nat.le_refl _⟩ (by simp [Value.category]) rfl rfl (by exact uW_uW _ _ _ _) dX12_open_201 rfl ?_
                have ok34 : OkT (M 12) r33 := (by rw [er33]; exact okT_f12_keep ok29 ((M 12) 0 0 45) v6 hdv (jv11_1 h32))
                have hkp : AdvP r33 ((M 12) 0 0 45) := (by rw [er33, em28, em26, em24, em22, em20, em18, show v11 = 26 by assumption]; exact advP_keep (by rw [em28, em26, em24, em22, em20, em18, show v11 = 26 by assumption] at ok29; exact ok29.1) hT (jv11_1 h32) htop)
                have hk45 : (r33 0 0 45) = ((M 12) 0 0 45) := (by rw [er33, keep_g ok29.1 _ _ (jv11_1 h32) (by decide) (by decide) (by decide) (by decide), em28, em26, em24, em22, em20, em18]; rfl)
                refine mw_sub [2] rfl ?_
                exact hK31 r33 ⟨hkp, hk45, ok34⟩
          · refine mw_aload_n cx (q := 118) 2 rfl rfl dX12_open_117 rfl ?_
            refine mw_iconst cx (q := 119) (v := 4) dX12_open_118 rfl rfl ?_
            refine mw_putC cx (q := 122) 63 gf_X12_257 pf_X12_63 (int_fit _) rfl (Nat.le_of_ble_eq_true rfl) rfl vi_12_0 (by decide) dX12_open_119 rfl (fun m38 em38 => ?_)
            have ok39 : OkT (M 12) m38 := (by rw [em38]; exact okT_put0 ok0 (by decide))
            refine mw_goto cx (tgt := 224) dX12_open_122 (by decide) ?_
            exact mw_vret cx hr rfl dX12_open_224
        · refine mw_aload_n cx (q := 99) 2 rfl rfl dX12_open_98 rfl ?_
          refine mw_iconst cx (q := 100) (v := 3) dX12_open_99 rfl rfl ?_
          refine mw_putC cx (q := 103) 63 gf_X12_257 pf_X12_63 (int_fit _) rfl (Nat.le_of_ble_eq_true rfl) rfl vi_12_0 (by decide) dX12_open_100 rfl (fun m40 em40 => ?_)
          have ok41 : OkT (M 12) m40 := (by rw [em40]; exact okT_put0 ok0 (by decide))
          refine mw_goto cx (tgt := 224) dX12_open_103 (by decide) ?_
          exact mw_vret cx hr rfl dX12_open_224
      · refine mw_icmp_ne cx (tgt := 79) (q := 75) dX12_open_72 (by decide) rfl (fun h13 => ?_) (fun h13 => ?_)
        · refine mw_bipush cx (q := 81) (v := 26) dX12_open_79 rfl rfl ?_
          refine mw_sub [1, 2, 0] rfl ?_
          exact hK12 26 ⟨(by intro hz; first | exact absurd hz (by decide) | exact (vin_lit (by decide))), (by intro hz; first | exact (by assumption : ¬ _ = (-1 : Int32) → vp_in _ 8) (by assumption) | (have h9 := hop (by rw [hz]; decide); rw [hz, vp_in_iff] at h9; exact absurd h9 (by decide)))⟩
        · refine mw_iload_n cx (q := 76) 3 rfl rfl dX12_open_75 rfl ?_
          refine mw_goto cx (tgt := 81) dX12_open_76 (by decide) ?_
          refine mw_sub [1, 2, 0] rfl ?_
          exact hK12 r5 ⟨(by intro hz; first | exact absurd hz (by decide) | exact (by (try simp only [vp_in_iff, i32lt, i32le, i32eq, i32add, i32sub, i32mul, i32neg, t32_1, t32_26, t32_27] at qr50 hop hz ⊢); omega)), (by intro hz; first | exact (by assumption : ¬ _ = (-1 : Int32) → vp_in _ 8) (by assumption) | (have h9 := hop (by rw [hz]; decide); rw [hz, vp_in_iff] at h9; exact absurd h9 (by decide)))⟩
    · refine mw_icmp_ne cx (tgt := 68) (q := 52) dX12_open_49 (by decide) rfl (fun h8 => ?_) (fun h8 => ?_)
      · refine mw_iconst cx (q := 69) (v := (-1)) dX12_open_68 rfl rfl ?_
        refine mw_sub [2, 1, 0] rfl ?_
        exact hK7 (-1) (by intro hz; first | exact absurd hz (by decide) | exact (by (try simp only [vp_in_iff, i32lt, i32le, i32eq, i32add, i32sub, i32mul, i32neg, t32_1, t32_8]); omega))
      · refine mw_aload_n cx (q := 53) 2 rfl rfl dX12_open_52 rfl ?_
        refine mw_aload_n cx (q := 54) 2 rfl rfl dX12_open_53 rfl ?_
        refine mw_aload_n cx (q := 55) 2 rfl rfl dX12_open_54 rfl ?_
        refine mw_get cx (q := 58) (v := .int ((M 12) 0 0 60)) gf_X12_242 rfl rfl vi_12_0 dX12_open_55 rfl ?_
        refine mw_iload_n cx (q := 59) 1 rfl rfl dX12_open_58 rfl ?_
        refine mw_bnd (fun r9 er9 => ?_)
        refine mw_callV cx (q := 62) (d := 2) (As := [.int ((M 12) 0 0 60), .int r1]) (z := fip (uW M 12 (M 12)) r9) (st := [.ref (ad 12 0 0)]) (st1 := [.int r9, .ref (ad 12 0 0)]) (M' := (uW M 12 (M 12))) (by rw [er9]; exact mc_X12_nameAt l D ta ad (uW M 12 (M 12)) ((M 12) 0 0 60) r1 (ok0.1) u_scr (qr20 h3)) cv_X12_211 rfl rfl rfl vi_12_0 ⟨Nat.le_of_ble_eq_true rfl, Nat.le_of_ble_eq_true rfl⟩ ⟨Nat.le_refl _, Nat.le_refl _⟩ (by simp [Value.category]) rfl rfl rfl dX12_open_59 rfl ?_
        refine mw_bnd (fun r10 er10 => ?_)
        refine mw_callV cx (q := 65) (d := 0) (As := [.int r9]) (z := fip (uW M 12 (M 12)) r10) (st := []) (st1 := [.int r10]) (M' := (uW M 12 (M 12))) (by rw [er10]; exact mc_X12_functionOf l D ta ad (uW M 12 (M 12)) r9 (ok0.1)) cv_X12_283 rfl rfl rfl vi_12_0 ⟨Nat.le_of_ble_eq_true rfl, Nat.le_of_ble_eq_true rfl⟩ ⟨Nat.le_refl _, Nat.le_refl _⟩ (by simp [Value.category]) rfl rfl rfl dX12_open_62 rfl ?_
        have qr100 : ¬ r10 = (-1) → vp_in r10 8 := (by rw [er10]; exact functionOf_in ok0.1)
        have hfn : ¬ r10 = (-1) → vp_in r10 8 := (by rw [er10]; exact functionOf_in hok)
        refine mw_goto cx (tgt := 69) dX12_open_65 (by decide) ?_
        refine mw_sub [2, 1, 0] rfl ?_
        exact hK7 r10 qr100
  · refine mw_aload_n cx (q := 28) 1 rfl rfl dX12_open_27 rfl ?_
    refine mw_iconst cx (q := 29) (v := 4) dX12_open_28 rfl rfl ?_
    refine mw_putC cx (q := 32) 63 gf_X12_257 pf_X12_63 (int_fit _) rfl (Nat.le_of_ble_eq_true rfl) rfl vi_12_0 (by decide) dX12_open_29 rfl (fun m42 em42 => ?_)
    have ok43 : OkT (M 12) m42 := (by rw [em42]; exact okT_put0 ok0 (by decide))
    exact mw_vret cx hr rfl dX12_open_32
