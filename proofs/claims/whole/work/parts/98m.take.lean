/-! the reference's taking up, with what is known when it runs -/
set_option maxHeartbeats 4000000 in
set_option maxRecDepth 100000 in
theorem mc_X12_takeUpW (l : Launch) (D : va_G) (ta : wTa) (ad : wAd) (M : Wm) (p1 : Int32) (p2 : Int32) (hok : Ok12 (M 12)) (hR : (f12_isOrder (M 12) p1 = true ∧ f12_in p2 1 1000 = true ∧ ((M 12) 17 0 p1 = 2 ∨ (M 12) 17 0 p1 = 3)) → RunOk (u3 (u3 (M 12) 0 0 0 0) 16 0 p1 p2) p1) : MC l D ta ad yX12_takeUp cX12_takeUp 5 (some .int) 11 [.ref (ad 12 0 0), .int p1, .int p2] M (fic M 12 (f12_takeUp (M 12) p1 p2)) := by
  refine MC.of (fic M 12) (f12_takeUp (M 12) p1 p2) rfl (by decide) (Nat.le_of_ble_eq_true rfl) (fun p e s m args below meth c cx hr => ?_)
  unfold f12_takeUp
  refine mw_sub (lv' := [(0, .ref (ad 12 0 0)), (1, .int p1), (2, .int p2)]) [0, 1, 2] rfl ?_
  refine mw_eqM (uW_self M 12) ?_
  have ok0 : OkT (M 12) (M 12) := ⟨hok, rfl, rfl⟩
  refine mw_aload_n cx (q := 1) 0 rfl rfl dX12_takeUp_0 rfl ?_
  refine mw_iload_n cx (q := 2) 1 rfl rfl dX12_takeUp_1 rfl ?_
  refine mw_bnd (fun r1 er1 => ?_)
  refine mw_callV cx (q := 5) (d := 1) (As := [.int p1]) (z := fzp (uW M 12 (M 12)) r1) (st := []) (st1 := [.int (b2i r1)]) (M' := (uW M 12 (M 12))) (by rw [er1]; exact mc_X12_isOrder l D ta ad (uW M 12 (M 12)) p1) cv_X12_371 rfl rfl rfl vi_12_0 ⟨Nat.le_of_ble_eq_true rfl, Nat.le_of_ble_eq_true rfl⟩ ⟨Nat.le_refl _, Nat.le_refl _⟩ (by simp [Value.category]) rfl rfl rfl dX12_takeUp_2 rfl ?_
  have qr10 : r1 = true → vp_in p1 60 := (fun hq => isOrder_t ok0.1 (er1.symm.trans hq))
  refine mw_istore_n cx (q := 6) (lv' := [(3, .int (b2i r1)), (0, .ref (ad 12 0 0)), (1, .int p1), (2, .int p2)]) rfl rfl (by decide) dX12_takeUp_5 rfl ?_
  refine mw_iload_n cx (q := 7) 0 rfl rfl dX12_takeUp_6 rfl ?_
  refine mw_jnP (P := fun (v2 : Bool) => (v2 = true → ((M 12) 17 0 p1 = 2 ∨ (M 12) 17 0 p1 = 3))) (Mj := fun (v2 : Bool) => (uW M 12 (M 12))) (pj := 35) (lj := fun (v2 : Bool) => [(0, .ref (ad 12 0 0)), (1, .int p1), (2, .int p2), (3, .int (b2i r1))]) (sj := fun (v2 : Bool) => [.int (b2i v2)]) (fun v2 jv2 => ?_) (fun K3 hK3 => ?_)
  · refine mw_istore cx (q := 37) (lv' := [(4, .int (b2i v2)), (0, .ref (ad 12 0 0)), (1, .int p1), (2, .int p2), (3, .int (b2i r1))]) rfl (by decide) dX12_takeUp_35 rfl ?_
    refine mw_aload_n cx (q := 38) 1 rfl rfl dX12_takeUp_37 rfl ?_
    refine mw_iload_n cx (q := 39) 4 rfl rfl dX12_takeUp_38 rfl ?_
    refine mw_jnP (P := fun (v7 : Int32) => (v7 = 0 → vp_in p1 60 ∧ (f12_isOrder (M 12) p1 = true ∧ f12_in p2 1 1000 = true ∧ ((M 12) 17 0 p1 = 2 ∨ (M 12) 17 0 p1 = 3)))) (Mj := fun (v7 : Int32) => (uW M 12 (M 12))) (pj := 71) (lj := fun (v7 : Int32) => [(0, .ref (ad 12 0 0)), (1, .int p1), (2, .int p2)]) (sj := fun (v7 : Int32) => [.int v7, .ref (ad 12 0 0)]) (fun v7 jv7 => ?_) (fun K8 hK8 => ?_)
    · have jv7_0 := jv7
      refine mw_bnd (fun r13 er13 => ?_)
      refine mw_callV cx (q := 74) (d := 0) (As := [.int v7]) (z := fzc (uW M 12 (M 12)) 12 r13) (st := []) (st1 := [.int (b2i r13.1)]) (M' := uW M 12 r13.2) (by rw [er13]; exact mc_X12_goesWell l D ta ad (uW M 12 (M 12)) v7) cv_X12_181 rfl rfl rfl vi_12_0 ⟨Nat.le_of_ble_eq_true rfl, Nat.le_of_ble_eq_true rfl⟩ ⟨Nat.le_refl _, Nat.le_refl _⟩ (by simp [Value.category]) rfl rfl (by exact uW_uW _ _ _ _) dX12_takeUp_71 rfl ?_
      have ok14 : OkT (M 12) r13.2 := (by rw [er13]; exact okT_f12_goesWell ok0 v7)
      have qr130 : r13.1 = true → v7 = 0 := (fun hq => goesWell_t ((congrArg Prod.fst er13).symm.trans hq))
      have hgm : r13.1 = true → r13.2 = u3 (M 12) 0 0 0 0 := (fun hq => by rw [er13, goesWell_m, goesWell_t ((congrArg Prod.fst er13).symm.trans hq)])
      refine mw_ifb_ne cx (tgt := 79) (q := 77) dX12_takeUp_74 (by decide) rfl (fun h15 => ?_) (fun h15 => ?_)
      · refine mw_aload_n cx (q := 80) 0 rfl rfl dX12_takeUp_79 rfl ?_
        refine mw_get cx (q := 83) (v := .ref (ad 12 16 0)) gf_X12_48 rfl rfl vi_12_0 dX12_takeUp_80 rfl ?_
        refine mw_iload_n cx (q := 84) 1 rfl rfl dX12_takeUp_83 rfl ?_
        refine mw_iload_n cx (q := 85) 2 rfl rfl dX12_takeUp_84 rfl ?_
        refine mw_iastC cx (q := 86) (fun _ => rfl) (by decide) vi_12_16 (jv7_0 (qr130 h15)).1 (by decide) dX12_takeUp_85 rfl (fun m16 em16 => ?_)
        have ok17 : OkT (M 12) m16 := (by rw [em16]; exact okT_putA ok14 (by decide))
        refine mw_aload_n cx (q := 87) 0 rfl rfl dX12_takeUp_86 rfl ?_
        refine mw_iload_n cx (q := 88) 1 rfl rfl dX12_takeUp_87 rfl ?_
        refine mw_bnd (fun r18 er18 => ?_)
        refine mw_callV cx (q := 91) (d := 10) (As := [.int p1]) (z := fvc (uW M 12 m16) 12 r18) (st := []) (st1 := []) (M' := uW M 12 r18) (by rw [er18]; exact mc_X12_run l D ta ad (uW M 12 m16) p1 (ok17.1) (jv7_0 (qr130 h15)).1 (by show RunOk m16 p1; rw [em16, hgm (by assumption)]; exact hR (jv7_0 (qr130 h15)).2)) cv_X12_368 rfl rfl rfl vi_12_0 ⟨Nat.le_of_ble_eq_true rfl, Nat.le_of_ble_eq_true rfl⟩ ⟨Nat.le_refl _, Nat.le_refl _⟩ (by simp [Value.category]) rfl rfl (by exact uW_uW _ _ _ _) dX12_takeUp_88 rfl ?_
        refine mw_aload_n cx (q := 92) 0 rfl rfl dX12_takeUp_91 rfl ?_
        refine mw_get cx (q := 95) (v := .ref (ad 12 17 0)) gf_X12_51 rfl rfl vi_12_0 dX12_takeUp_92 rfl ?_
        refine mw_iload_n cx (q := 96) 1 rfl rfl dX12_takeUp_95 rfl ?_
        refine mw_iald cx (q := 97) (w := (r18 17 0 p1)) rfl (fun _ => rfl) vi_12_17 (jv7_0 (qr130 h15)).1 dX12_takeUp_96 rfl ?_
        exact mw_iret cx hr rfl dX12_takeUp_97
      · refine mw_iconst cx (q := 78) (v := 0) dX12_takeUp_77 rfl rfl ?_
        exact mw_iret cx hr rfl dX12_takeUp_78
    · refine mw_ifb_ne cx (tgt := 46) (q := 42) dX12_takeUp_39 (by decide) rfl (fun h9 => ?_) (fun h9 => ?_)
      · refine mw_iload_n cx (q := 47) 3 rfl rfl dX12_takeUp_46 rfl ?_
        refine mw_iconst cx (q := 48) (v := 1) dX12_takeUp_47 rfl rfl ?_
        refine mw_sipush cx (q := 51) (v := 1000) dX12_takeUp_48 rfl rfl ?_
        refine mw_bnd (fun r10 er10 => ?_)
        refine mw_callS cx (q := 54) (d := 0) (As := [.int p2, .int 1, .int 1000]) (z := fzp (uW M 12 (M 12)) r10) (st := [.ref (ad 12 0 0)]) (st1 := [.int (b2i r10), .ref (ad 12 0 0)]) (M' := (uW M 12 (M 12))) (by rw [er10]; exact mc_X12_in l D ta ad (uW M 12 (M 12)) p2 1 1000) cv_X12_167 ⟨Nat.le_of_ble_eq_true rfl, Nat.le_of_ble_eq_true rfl⟩ ⟨Nat.le_refl _, Nat.le_refl _⟩ (by simp [Value.category]) rfl rfl rfl dX12_takeUp_51 rfl ?_
        have qr100 : r10 = true → 1 ≤ p2.toInt ∧ p2.toInt ≤ 1000 := (fun hq => in_i (er10.symm.trans hq))
        refine mw_ifb_ne cx (tgt := 61) (q := 57) dX12_takeUp_54 (by decide) rfl (fun h11 => ?_) (fun h11 => ?_)
        · refine mw_iload cx (q := 63) 0 rfl dX12_takeUp_61 rfl ?_
          refine mw_ifb_eq cx (tgt := 70) (q := 66) dX12_takeUp_63 (by decide) rfl (fun h12 => ?_) (fun h12 => ?_)
          · refine mw_iconst cx (q := 71) (v := 3) dX12_takeUp_70 rfl rfl ?_
            refine mw_sub [1, 2, 3] rfl ?_
            exact hK8 3 (by intro hz; exact absurd hz (by decide))
          · refine mw_iconst cx (q := 67) (v := 0) dX12_takeUp_66 rfl rfl ?_
            refine mw_goto cx (tgt := 71) dX12_takeUp_67 (by decide) ?_
            refine mw_sub [1, 2, 3] rfl ?_
            exact hK8 0 (fun _ => ⟨qr10 h9, er1.symm.trans h9, er10.symm.trans h11, jv2 (by cases v2 <;> first | rfl | simp_all)⟩)
        · refine mw_iconst cx (q := 58) (v := 2) dX12_takeUp_57 rfl rfl ?_
          refine mw_goto cx (tgt := 71) dX12_takeUp_58 (by decide) ?_
          refine mw_sub [1, 2, 3] rfl ?_
          exact hK8 2 (by intro hz; exact absurd hz (by decide))
      · refine mw_iconst cx (q := 43) (v := 1) dX12_takeUp_42 rfl rfl ?_
        refine mw_goto cx (tgt := 71) dX12_takeUp_43 (by decide) ?_
        refine mw_sub [1, 2, 3] rfl ?_
        exact hK8 1 (by intro hz; exact absurd hz (by decide))
  · refine mw_ifb_eq cx (tgt := 34) (q := 10) dX12_takeUp_7 (by decide) rfl (fun h4 => ?_) (fun h4 => ?_)
    · refine mw_iconst cx (q := 35) (v := 0) dX12_takeUp_34 rfl rfl ?_
      refine mw_sub [1, 2, 3, 0] rfl ?_
      exact hK3 false (by intro hz; exact absurd hz (by decide))
    · refine mw_aload_n cx (q := 11) 1 rfl rfl dX12_takeUp_10 rfl ?_
      refine mw_get cx (q := 14) (v := .ref (ad 12 17 0)) gf_X12_51 rfl rfl vi_12_0 dX12_takeUp_11 rfl ?_
      refine mw_iload_n cx (q := 15) 2 rfl rfl dX12_takeUp_14 rfl ?_
      refine mw_iald cx (q := 16) (w := ((M 12) 17 0 p1)) rfl (fun _ => rfl) vi_12_17 (qr10 h4) dX12_takeUp_15 rfl ?_
      refine mw_iconst cx (q := 17) (v := 2) dX12_takeUp_16 rfl rfl ?_
      refine mw_icmp_eq cx (tgt := 30) (q := 20) dX12_takeUp_17 (by decide) rfl (fun h5 => ?_) (fun h5 => ?_)
      · refine mw_iconst cx (q := 31) (v := 1) dX12_takeUp_30 rfl rfl ?_
        refine mw_goto cx (tgt := 35) dX12_takeUp_31 (by decide) ?_
        refine mw_sub [1, 2, 3, 0] rfl ?_
        exact hK3 true (fun _ => Or.inl (by assumption))
      · refine mw_aload_n cx (q := 21) 1 rfl rfl dX12_takeUp_20 rfl ?_
        refine mw_get cx (q := 24) (v := .ref (ad 12 17 0)) gf_X12_51 rfl rfl vi_12_0 dX12_takeUp_21 rfl ?_
        refine mw_iload_n cx (q := 25) 2 rfl rfl dX12_takeUp_24 rfl ?_
        refine mw_iald cx (q := 26) (w := ((M 12) 17 0 p1)) rfl (fun _ => rfl) vi_12_17 (qr10 h4) dX12_takeUp_25 rfl ?_
        refine mw_iconst cx (q := 27) (v := 3) dX12_takeUp_26 rfl rfl ?_
        refine mw_icmp_ne cx (tgt := 34) (q := 30) dX12_takeUp_27 (by decide) rfl (fun h6 => ?_) (fun h6 => ?_)
        · refine mw_iconst cx (q := 35) (v := 0) dX12_takeUp_34 rfl rfl ?_
          refine mw_sub [1, 2, 3, 0] rfl ?_
          exact hK3 false (by intro hz; exact absurd hz (by decide))
        · refine mw_iconst cx (q := 31) (v := 1) dX12_takeUp_30 rfl rfl ?_
          refine mw_goto cx (tgt := 35) dX12_takeUp_31 (by decide) ?_
          refine mw_sub [1, 2, 3, 0] rfl ?_
          exact hK3 true (fun _ => Or.inr (by first | assumption | simp_all))
