def f1_receive (m : Cm) (p1 : Int32) (p2 : Int32) : (Int32 × Cm) := bnd (u3 m 2 0 p1 ((m 2 0 p1) + p2)) (fun (m1 : Cm) => bnd (u3 m1 8 0 p1 ((m 8 0 p1) + p2)) (fun (m2 : Cm) => ((m2 8 0 p1), m2)))
set_option maxHeartbeats 4000000 in
set_option maxRecDepth 100000 in
theorem mc_X1_receive (l : Launch) (D : va_G) (ta : wTa) (ad : wAd) (M : Wm) (p1 : Int32) (p2 : Int32) (hp1 : vp_in p1 8) : MC l D ta ad yX1_receive cX1_receive 3 (some .int) 0 [.ref (ad 1 0 0), .int p1, .int p2] M (fic M 1 (f1_receive (M 1) p1 p2)) := by
  refine MC.of (fic M 1) (f1_receive (M 1) p1 p2) rfl (by decide) (Nat.le_of_ble_eq_true rfl) (fun p e s m args below meth c cx hr => ?_)
  unfold f1_receive
  refine mw_sub (lv' := [(0, .ref (ad 1 0 0)), (1, .int p1), (2, .int p2)]) [0, 1, 2] rfl ?_
  refine mw_eqM (uW_self M 1) ?_
  refine mw_aload_n cx (q := 1) 0 rfl rfl dX1_receive_0 rfl ?_
  refine mw_get cx (q := 4) (v := .ref (ad 1 2 0)) gf_X1_16 rfl rfl vi_1_0 dX1_receive_1 rfl ?_
  refine mw_iload_n cx (q := 5) 1 rfl rfl dX1_receive_4 rfl ?_
  refine mw_dup2 cx (q := 6) dX1_receive_5 rfl rfl rfl ?_
  refine mw_iald cx (q := 7) (w := ((M 1) 2 0 p1)) rfl (fun _ => rfl) vi_1_2 hp1 dX1_receive_6 rfl ?_
  refine mw_iload_n cx (q := 8) 2 rfl rfl dX1_receive_7 rfl ?_
  refine mw_iadd cx (q := 9) dX1_receive_8 rfl ?_
  refine mw_iastC cx (q := 10) (fun _ => rfl) (by decide) vi_1_2 hp1 (by decide) dX1_receive_9 rfl (fun m1 em1 => ?_)
  refine mw_aload_n cx (q := 11) 0 rfl rfl dX1_receive_10 rfl ?_
  refine mw_get cx (q := 14) (v := .ref (ad 1 1 0)) gf_X1_11 rfl rfl vi_1_0 dX1_receive_11 rfl ?_
  refine mw_iconst cx (q := 15) (v := 0) dX1_receive_14 rfl rfl ?_
  refine mw_aald cx (q := 16) (fun _ => rfl) rfl rfl vi_1_1 (vin_lit (by decide)) dX1_receive_15 rfl ?_
  refine mw_iload_n cx (q := 17) 1 rfl rfl dX1_receive_16 rfl ?_
  refine mw_dup2 cx (q := 18) dX1_receive_17 rfl rfl rfl ?_
  refine mw_iald cx (q := 19) (w := ((M 1) 8 0 p1)) (by rw [em1]; rfl) (fun _ => rfl) (vin_lit (by decide)) hp1 dX1_receive_18 rfl ?_
  refine mw_iload_n cx (q := 20) 2 rfl rfl dX1_receive_19 rfl ?_
  refine mw_iadd cx (q := 21) dX1_receive_20 rfl ?_
  refine mw_iastC cx (q := 22) (fun _ => rfl) (by decide) (vin_lit (by decide)) hp1 (by decide) dX1_receive_21 rfl (fun m2 em2 => ?_)
  refine mw_aload_n cx (q := 23) 0 rfl rfl dX1_receive_22 rfl ?_
  refine mw_get cx (q := 26) (v := .ref (ad 1 1 0)) gf_X1_11 rfl rfl vi_1_0 dX1_receive_23 rfl ?_
  refine mw_iconst cx (q := 27) (v := 0) dX1_receive_26 rfl rfl ?_
  refine mw_aald cx (q := 28) (fun _ => rfl) rfl rfl vi_1_1 (vin_lit (by decide)) dX1_receive_27 rfl ?_
  refine mw_iload_n cx (q := 29) 1 rfl rfl dX1_receive_28 rfl ?_
  refine mw_iald cx (q := 30) (w := (m2 8 0 p1)) rfl (fun _ => rfl) (vin_lit (by decide)) hp1 dX1_receive_29 rfl ?_
  exact mw_iret cx hr rfl dX1_receive_30
def f1_stockOf (m : Cm) (p1 : Int32) (p2 : Int32) : Int32 := (m 8 (p1 + 1) p2)
set_option maxHeartbeats 4000000 in
set_option maxRecDepth 100000 in
theorem mc_X1_stockOf (l : Launch) (D : va_G) (ta : wTa) (ad : wAd) (M : Wm) (p1 : Int32) (p2 : Int32) (ho1 : vp_in (p1 + 1) 5) (hp2 : vp_in p2 8) : MC l D ta ad yX1_stockOf cX1_stockOf 3 (some .int) 0 [.ref (ad 1 0 0), .int p1, .int p2] M (fip M (f1_stockOf (M 1) p1 p2)) := by
  refine MC.of (fip M) (f1_stockOf (M 1) p1 p2) rfl (by decide) (Nat.le_of_ble_eq_true rfl) (fun p e s m args below meth c cx hr => ?_)
  unfold f1_stockOf
  refine mw_sub (lv' := [(0, .ref (ad 1 0 0)), (1, .int p1), (2, .int p2)]) [0, 1, 2] rfl ?_
  refine mw_aload_n cx (q := 1) 0 rfl rfl dX1_stockOf_0 rfl ?_
  refine mw_get cx (q := 4) (v := .ref (ad 1 1 0)) gf_X1_11 rfl rfl vi_1_0 dX1_stockOf_1 rfl ?_
  refine mw_iload_n cx (q := 5) 1 rfl rfl dX1_stockOf_4 rfl ?_
  refine mw_iconst cx (q := 6) (v := 1) dX1_stockOf_5 rfl rfl ?_
  refine mw_iadd cx (q := 7) dX1_stockOf_6 rfl ?_
  refine mw_aald cx (q := 8) (fun _ => rfl) rfl rfl vi_1_1 ho1 dX1_stockOf_7 rfl ?_
  refine mw_iload_n cx (q := 9) 2 rfl rfl dX1_stockOf_8 rfl ?_
  refine mw_iald cx (q := 10) (w := ((M 1) 8 (p1 + 1) p2)) rfl (fun _ => rfl) ho1 hp2 dX1_stockOf_9 rfl ?_
  exact mw_iret cx hr rfl dX1_stockOf_10
def f1_stockTold_lp19 (m : Cm) (p1 : Int32) (p2 : Int32) : Nat → (Int32 × Int32) → Int32
  | 0, x4 => 0
  | n5 + 1, x4 => if (m 0 0 7) ≤ x4.1 then x4.2 else jn (fun (v7 : Int32) => bnd (x4.1 + 1) (fun (v18 : Int32) => f1_stockTold_lp19 m p1 p2 n5 (v18, v7))) (fun K8 => if (m 5 0 x4.1) = p2 then jn (fun (v10 : Int32) => bnd ((x4.2 + v10)) (fun (v13 : Int32) => jn (fun (v14 : Int32) => bnd ((v13 - v14)) (fun (v17 : Int32) => K8 v17)) (fun K15 => if (m 3 0 x4.1) = p1 then K15 (m 6 0 x4.1) else K15 0))) (fun K11 => if (m 4 0 x4.1) = p1 then K11 (m 6 0 x4.1) else K11 0) else K8 x4.2)
theorem f1_stockTold_lp19_s (m : Cm) (p1 : Int32) (p2 : Int32) (n5 : Nat) (x4 : Int32 × Int32) : f1_stockTold_lp19 m p1 p2 (n5 + 1) x4 = if (m 0 0 7) ≤ x4.1 then x4.2 else jn (fun (v7 : Int32) => bnd (x4.1 + 1) (fun (v18 : Int32) => f1_stockTold_lp19 m p1 p2 n5 (v18, v7))) (fun K8 => if (m 5 0 x4.1) = p2 then jn (fun (v10 : Int32) => bnd ((x4.2 + v10)) (fun (v13 : Int32) => jn (fun (v14 : Int32) => bnd ((v13 - v14)) (fun (v17 : Int32) => K8 v17)) (fun K15 => if (m 3 0 x4.1) = p1 then K15 (m 6 0 x4.1) else K15 0))) (fun K11 => if (m 4 0 x4.1) = p1 then K11 (m 6 0 x4.1) else K11 0) else K8 x4.2) := rfl
def f1_stockTold (m : Cm) (p1 : Int32) (p2 : Int32) : Int32 := jn (fun (v1 : Int32) => f1_stockTold_lp19 m p1 p2 3001 (0, v1)) (fun K2 => if p1 = (-1) then K2 (m 2 0 p2) else K2 0)
set_option maxHeartbeats 4000000 in
set_option maxRecDepth 100000 in
theorem mc_X1_stockTold (l : Launch) (D : va_G) (ta : wTa) (ad : wAd) (M : Wm) (p1 : Int32) (p2 : Int32) (hp2 : vp_in p2 8) (hc0 : 0 ≤ ((M 1) 0 0 7).toInt) (hc1 : ((M 1) 0 0 7).toInt ≤ 3000) : MC l D ta ad yX1_stockTold cX1_stockTold 5 (some .int) 0 [.ref (ad 1 0 0), .int p1, .int p2] M (fip M (f1_stockTold (M 1) p1 p2)) := by
  refine MC.of (fip M) (f1_stockTold (M 1) p1 p2) rfl (by decide) (Nat.le_of_ble_eq_true rfl) (fun p e s m args below meth c cx hr => ?_)
  unfold f1_stockTold
  refine mw_sub (lv' := [(0, .ref (ad 1 0 0)), (1, .int p1), (2, .int p2)]) [0, 1, 2] rfl ?_
  refine mw_iload_n cx (q := 1) 1 rfl rfl dX1_stockTold_0 rfl ?_
  refine mw_iconst cx (q := 2) (v := (-1)) dX1_stockTold_1 rfl rfl ?_
  refine mw_jn (Mj := fun (v1 : Int32) => M) (pj := 15) (lj := fun (v1 : Int32) => [(0, .ref (ad 1 0 0)), (1, .int p1), (2, .int p2)]) (sj := fun (v1 : Int32) => [.int v1]) (fun v1 => ?_) (fun K2 hK2 => ?_)
  · refine mw_istore_n cx (q := 16) (lv' := [(3, .int v1), (0, .ref (ad 1 0 0)), (1, .int p1), (2, .int p2)]) rfl rfl (by decide) dX1_stockTold_15 rfl ?_
    refine mw_iconst cx (q := 17) (v := 0) dX1_stockTold_16 rfl rfl ?_
    refine mw_istore cx (q := 19) (lv' := [(4, .int 0), (3, .int v1), (0, .ref (ad 1 0 0)), (1, .int p1), (2, .int p2)]) rfl (by decide) dX1_stockTold_17 rfl ?_
    refine mw_loop (F := f1_stockTold_lp19 (M 1) p1 p2) (I := fun (x4 : Int32 × Int32) => (0 ≤ (x4.1).toInt) ∧ ((x4.1).toInt ≤ ((M 1) 0 0 7).toInt)) (μ := fun (x4 : Int32 × Int32) => (((M 1) 0 0 7).toInt - (x4.1).toInt).toNat) (Mx := fun (x4 : Int32 × Int32) => M) (px := 19) (lx := fun (x4 : Int32 × Int32) => [(4, .int x4.1), (3, .int x4.2), (0, .ref (ad 1 0 0)), (1, .int p1), (2, .int p2)]) (fun n5 x4 ivx4 ih => ?_) 3001 (0, v1) ⟨(by simp only [vp_in_iff, i32lt, i32le, i32eq, i32add, i32sub, i32mul, i32neg, t32_0]; omega), (by simp only [vp_in_iff, i32lt, i32le, i32eq, i32add, i32sub, i32mul, i32neg, t32_0, t32_7, t32_3000] at hc0 hc1 ⊢; omega)⟩ (by simp only [vp_in_iff, i32lt, i32le, i32eq, i32add, i32sub, i32mul, i32neg, t32_0, t32_7, t32_3000] at hc0 hc1 ⊢; omega)
    obtain ⟨ivx4_0, ivx4_1⟩ := ivx4
    refine mw_eqS (f1_stockTold_lp19_s (M 1) p1 p2 n5 x4) ?_
    refine mw_iload cx (q := 21) 0 rfl dX1_stockTold_19 rfl ?_
    refine mw_aload_n cx (q := 22) 2 rfl rfl dX1_stockTold_21 rfl ?_
    refine mw_get cx (q := 25) (v := .int ((M 1) 0 0 7)) gf_X1_35 rfl rfl vi_1_0 dX1_stockTold_22 rfl ?_
    refine mw_icmp_ge cx (tgt := 95) (q := 28) dX1_stockTold_25 (by decide) rfl (fun h6 => ?_) (fun h6 => ?_)
    · refine mw_iload_n cx (q := 96) 1 rfl rfl dX1_stockTold_95 rfl ?_
      exact mw_iret cx hr rfl dX1_stockTold_96
    · refine mw_aload_n cx (q := 29) 2 rfl rfl dX1_stockTold_28 rfl ?_
      refine mw_get cx (q := 32) (v := .ref (ad 1 5 0)) gf_X1_26 rfl rfl vi_1_0 dX1_stockTold_29 rfl ?_
      refine mw_iload cx (q := 34) 0 rfl dX1_stockTold_32 rfl ?_
      refine mw_iald cx (q := 35) (w := ((M 1) 5 0 x4.1)) rfl (fun _ => rfl) vi_1_5 (by simp only [vp_in_iff, i32lt, i32le, i32eq, i32add, i32sub, i32mul, i32neg, t32_0, t32_7, t32_3000] at ivx4_0 ivx4_1 h6 hc0 hc1 ⊢; omega) dX1_stockTold_34 rfl ?_
      refine mw_iload_n cx (q := 36) 4 rfl rfl dX1_stockTold_35 rfl ?_
      refine mw_jn (Mj := fun (v7 : Int32) => M) (pj := 89) (lj := fun (v7 : Int32) => [(0, .ref (ad 1 0 0)), (1, .int p1), (2, .int p2), (3, .int v7), (4, .int x4.1)]) (sj := fun (v7 : Int32) => []) (fun v7 => ?_) (fun K8 hK8 => ?_)
      · refine mw_bnd (fun v18 ev18 => ?_)
        refine mw_iinc cx (q := 92) (v := v18) (lv' := [(4, .int v18), (0, .ref (ad 1 0 0)), (1, .int p1), (2, .int p2), (3, .int v7)]) 4 rfl (by rw [ev18]; rfl) rfl (by decide) dX1_stockTold_89 rfl ?_
        refine mw_goto cx (tgt := 19) dX1_stockTold_92 (by decide) ?_
        refine mw_sub [0, 4, 1, 2, 3] rfl ?_
        exact ih (v18, v7) ⟨(by simp only [vp_in_iff, i32lt, i32le, i32eq, i32add, i32sub, i32mul, i32neg, t32_0, t32_1, t32_7, t32_3000] at ev18 ivx4_0 ivx4_1 h6 hc0 hc1 ⊢; omega), (by simp only [vp_in_iff, i32lt, i32le, i32eq, i32add, i32sub, i32mul, i32neg, t32_0, t32_1, t32_7, t32_3000] at hc0 hc1 ivx4_1 h6 ev18 ivx4_0 ⊢; omega)⟩ (by simp only [vp_in_iff, i32lt, i32le, i32eq, i32add, i32sub, i32mul, i32neg, t32_0, t32_1, t32_7, t32_3000] at hc0 hc1 ivx4_0 ivx4_1 h6 ev18 ⊢; omega)
      · refine mw_icmp_ne cx (tgt := 89) (q := 39) dX1_stockTold_36 (by decide) rfl (fun h9 => ?_) (fun h9 => ?_)
        · refine mw_sub [2, 3, 4, 1, 0] rfl ?_
          exact hK8 x4.2
        · refine mw_iload_n cx (q := 40) 1 rfl rfl dX1_stockTold_39 rfl ?_
          refine mw_aload_n cx (q := 41) 2 rfl rfl dX1_stockTold_40 rfl ?_
          refine mw_get cx (q := 44) (v := .ref (ad 1 4 0)) gf_X1_23 rfl rfl vi_1_0 dX1_stockTold_41 rfl ?_
          refine mw_iload cx (q := 46) 0 rfl dX1_stockTold_44 rfl ?_
          refine mw_iald cx (q := 47) (w := ((M 1) 4 0 x4.1)) rfl (fun _ => rfl) vi_1_4 (by simp only [vp_in_iff, i32lt, i32le, i32eq, i32add, i32sub, i32mul, i32neg, t32_0, t32_5, t32_7, t32_8, t32_3000] at ivx4_0 ivx4_1 h6 h9 hp2 hc0 hc1 ⊢; omega) dX1_stockTold_46 rfl ?_
          refine mw_iload_n cx (q := 48) 3 rfl rfl dX1_stockTold_47 rfl ?_
          refine mw_jn (Mj := fun (v10 : Int32) => M) (pj := 62) (lj := fun (v10 : Int32) => [(0, .ref (ad 1 0 0)), (1, .int p1), (2, .int p2), (4, .int x4.1)]) (sj := fun (v10 : Int32) => [.int v10, .int x4.2]) (fun v10 => ?_) (fun K11 hK11 => ?_)
          · refine mw_iadd cx (q := 63) dX1_stockTold_62 rfl ?_
            refine mw_bndT (fun v13 ev13 => ?_)
            refine mw_istore_n cx (q := 64) (lv' := [(3, .int v13), (0, .ref (ad 1 0 0)), (1, .int p1), (2, .int p2), (4, .int x4.1)]) rfl rfl (by decide) dX1_stockTold_63 rfl ?_
            refine mw_iload_n cx (q := 65) 0 rfl rfl dX1_stockTold_64 rfl ?_
            refine mw_aload_n cx (q := 66) 1 rfl rfl dX1_stockTold_65 rfl ?_
            refine mw_get cx (q := 69) (v := .ref (ad 1 3 0)) gf_X1_20 rfl rfl vi_1_0 dX1_stockTold_66 rfl ?_
            refine mw_iload cx (q := 71) 4 rfl dX1_stockTold_69 rfl ?_
            refine mw_iald cx (q := 72) (w := ((M 1) 3 0 x4.1)) rfl (fun _ => rfl) vi_1_3 (by simp only [vp_in_iff, i32lt, i32le, i32eq, i32add, i32sub, i32mul, i32neg, t32_0, t32_5, t32_7, t32_8, t32_3000] at ivx4_0 ivx4_1 h6 h9 hp2 hc0 hc1 ⊢; omega) dX1_stockTold_71 rfl ?_
            refine mw_iload_n cx (q := 73) 2 rfl rfl dX1_stockTold_72 rfl ?_
            refine mw_jn (Mj := fun (v14 : Int32) => M) (pj := 87) (lj := fun (v14 : Int32) => [(0, .ref (ad 1 0 0)), (1, .int p1), (2, .int p2), (4, .int x4.1)]) (sj := fun (v14 : Int32) => [.int v14, .int v13]) (fun v14 => ?_) (fun K15 hK15 => ?_)
            · refine mw_isub cx (q := 88) dX1_stockTold_87 rfl ?_
              refine mw_bndT (fun v17 ev17 => ?_)
              refine mw_istore_n cx (q := 89) (lv' := [(3, .int v17), (0, .ref (ad 1 0 0)), (1, .int p1), (2, .int p2), (4, .int x4.1)]) rfl rfl (by decide) dX1_stockTold_88 rfl ?_
              refine mw_sub [1, 2, 3, 0, 4] rfl ?_
              exact hK8 v17
            · refine mw_icmp_ne cx (tgt := 86) (q := 76) dX1_stockTold_73 (by decide) rfl (fun h16 => ?_) (fun h16 => ?_)
              · refine mw_iconst cx (q := 87) (v := 0) dX1_stockTold_86 rfl rfl ?_
                refine mw_sub [1, 2, 3, 4] rfl ?_
                exact hK15 0
              · refine mw_aload_n cx (q := 77) 1 rfl rfl dX1_stockTold_76 rfl ?_
                refine mw_get cx (q := 80) (v := .ref (ad 1 6 0)) gf_X1_29 rfl rfl vi_1_0 dX1_stockTold_77 rfl ?_
                refine mw_iload cx (q := 82) 4 rfl dX1_stockTold_80 rfl ?_
                refine mw_iald cx (q := 83) (w := ((M 1) 6 0 x4.1)) rfl (fun _ => rfl) vi_1_6 (by simp only [vp_in_iff, i32lt, i32le, i32eq, i32add, i32sub, i32mul, i32neg, t32_0, t32_3, t32_5, t32_7, t32_8, t32_3000] at ivx4_0 ivx4_1 h6 h9 h16 hp2 hc0 hc1 ⊢; omega) dX1_stockTold_82 rfl ?_
                refine mw_goto cx (tgt := 87) dX1_stockTold_83 (by decide) ?_
                refine mw_sub [1, 2, 3, 4] rfl ?_
                exact hK15 ((M 1) 6 0 x4.1)
          · refine mw_icmp_ne cx (tgt := 61) (q := 51) dX1_stockTold_48 (by decide) rfl (fun h12 => ?_) (fun h12 => ?_)
            · refine mw_iconst cx (q := 62) (v := 0) dX1_stockTold_61 rfl rfl ?_
              refine mw_sub [2, 3, 4, 0] rfl ?_
              exact hK11 0
            · refine mw_aload_n cx (q := 52) 2 rfl rfl dX1_stockTold_51 rfl ?_
              refine mw_get cx (q := 55) (v := .ref (ad 1 6 0)) gf_X1_29 rfl rfl vi_1_0 dX1_stockTold_52 rfl ?_
              refine mw_iload cx (q := 57) 0 rfl dX1_stockTold_55 rfl ?_
              refine mw_iald cx (q := 58) (w := ((M 1) 6 0 x4.1)) rfl (fun _ => rfl) vi_1_6 (by simp only [vp_in_iff, i32lt, i32le, i32eq, i32add, i32sub, i32mul, i32neg, t32_0, t32_4, t32_5, t32_7, t32_8, t32_3000] at ivx4_0 ivx4_1 h6 h9 h12 hp2 hc0 hc1 ⊢; omega) dX1_stockTold_57 rfl ?_
              refine mw_goto cx (tgt := 62) dX1_stockTold_58 (by decide) ?_
              refine mw_sub [2, 3, 4, 0] rfl ?_
              exact hK11 ((M 1) 6 0 x4.1)
  · refine mw_icmp_ne cx (tgt := 14) (q := 5) dX1_stockTold_2 (by decide) rfl (fun h3 => ?_) (fun h3 => ?_)
    · refine mw_iconst cx (q := 15) (v := 0) dX1_stockTold_14 rfl rfl ?_
      exact hK2 0
    · refine mw_aload_n cx (q := 6) 0 rfl rfl dX1_stockTold_5 rfl ?_
      refine mw_get cx (q := 9) (v := .ref (ad 1 2 0)) gf_X1_16 rfl rfl vi_1_0 dX1_stockTold_6 rfl ?_
      refine mw_iload_n cx (q := 10) 2 rfl rfl dX1_stockTold_9 rfl ?_
      refine mw_iald cx (q := 11) (w := ((M 1) 2 0 p2)) rfl (fun _ => rfl) vi_1_2 hp2 dX1_stockTold_10 rfl ?_
      refine mw_goto cx (tgt := 15) dX1_stockTold_11 (by decide) ?_
      exact hK2 ((M 1) 2 0 p2)
def f1_leftStoreBy_lp5 (m : Cm) (p1 : Int32) (p2 : Int32) : Nat → (Int32 × Int32) → Int32
  | 0, x1 => 0
  | n2 + 1, x1 => if (m 0 0 7) ≤ x1.1 then x1.2 else jn (fun (v4 : Int32) => bnd (x1.1 + 1) (fun (v16 : Int32) => f1_leftStoreBy_lp5 m p1 p2 n2 (v16, v4))) (fun K5 => if (m 7 0 x1.1) = p1 then if (m 5 0 x1.1) = p2 then jn (fun (v8 : Int32) => bnd ((x1.2 + v8)) (fun (v11 : Int32) => jn (fun (v12 : Int32) => bnd ((v11 - v12)) (fun (v15 : Int32) => K5 v15)) (fun K13 => if (m 4 0 x1.1) = (-1) then K13 (m 6 0 x1.1) else K13 0))) (fun K9 => if (m 3 0 x1.1) = (-1) then K9 (m 6 0 x1.1) else K9 0) else K5 x1.2 else K5 x1.2)
theorem f1_leftStoreBy_lp5_s (m : Cm) (p1 : Int32) (p2 : Int32) (n2 : Nat) (x1 : Int32 × Int32) : f1_leftStoreBy_lp5 m p1 p2 (n2 + 1) x1 = if (m 0 0 7) ≤ x1.1 then x1.2 else jn (fun (v4 : Int32) => bnd (x1.1 + 1) (fun (v16 : Int32) => f1_leftStoreBy_lp5 m p1 p2 n2 (v16, v4))) (fun K5 => if (m 7 0 x1.1) = p1 then if (m 5 0 x1.1) = p2 then jn (fun (v8 : Int32) => bnd ((x1.2 + v8)) (fun (v11 : Int32) => jn (fun (v12 : Int32) => bnd ((v11 - v12)) (fun (v15 : Int32) => K5 v15)) (fun K13 => if (m 4 0 x1.1) = (-1) then K13 (m 6 0 x1.1) else K13 0))) (fun K9 => if (m 3 0 x1.1) = (-1) then K9 (m 6 0 x1.1) else K9 0) else K5 x1.2 else K5 x1.2) := rfl
def f1_leftStoreBy (m : Cm) (p1 : Int32) (p2 : Int32) : Int32 := f1_leftStoreBy_lp5 m p1 p2 3001 (0, 0)
set_option maxHeartbeats 4000000 in
set_option maxRecDepth 100000 in
theorem mc_X1_leftStoreBy (l : Launch) (D : va_G) (ta : wTa) (ad : wAd) (M : Wm) (p1 : Int32) (p2 : Int32) (hc0 : 0 ≤ ((M 1) 0 0 7).toInt) (hc1 : ((M 1) 0 0 7).toInt ≤ 3000) : MC l D ta ad yX1_leftStoreBy cX1_leftStoreBy 5 (some .int) 0 [.ref (ad 1 0 0), .int p1, .int p2] M (fip M (f1_leftStoreBy (M 1) p1 p2)) := by
  refine MC.of (fip M) (f1_leftStoreBy (M 1) p1 p2) rfl (by decide) (Nat.le_of_ble_eq_true rfl) (fun p e s m args below meth c cx hr => ?_)
  unfold f1_leftStoreBy
  refine mw_sub (lv' := [(0, .ref (ad 1 0 0)), (1, .int p1), (2, .int p2)]) [0, 1, 2] rfl ?_
  refine mw_iconst cx (q := 1) (v := 0) dX1_leftStoreBy_0 rfl rfl ?_
  refine mw_istore_n cx (q := 2) (lv' := [(3, .int 0), (0, .ref (ad 1 0 0)), (1, .int p1), (2, .int p2)]) rfl rfl (by decide) dX1_leftStoreBy_1 rfl ?_
  refine mw_iconst cx (q := 3) (v := 0) dX1_leftStoreBy_2 rfl rfl ?_
  refine mw_istore cx (q := 5) (lv' := [(4, .int 0), (3, .int 0), (0, .ref (ad 1 0 0)), (1, .int p1), (2, .int p2)]) rfl (by decide) dX1_leftStoreBy_3 rfl ?_
  refine mw_loop (F := f1_leftStoreBy_lp5 (M 1) p1 p2) (I := fun (x1 : Int32 × Int32) => (0 ≤ (x1.1).toInt) ∧ ((x1.1).toInt ≤ ((M 1) 0 0 7).toInt)) (μ := fun (x1 : Int32 × Int32) => (((M 1) 0 0 7).toInt - (x1.1).toInt).toNat) (Mx := fun (x1 : Int32 × Int32) => M) (px := 5) (lx := fun (x1 : Int32 × Int32) => [(4, .int x1.1), (3, .int x1.2), (0, .ref (ad 1 0 0)), (1, .int p1), (2, .int p2)]) (fun n2 x1 ivx1 ih => ?_) 3001 (0, 0) ⟨(by simp only [vp_in_iff, i32lt, i32le, i32eq, i32add, i32sub, i32mul, i32neg, t32_0]; omega), (by simp only [vp_in_iff, i32lt, i32le, i32eq, i32add, i32sub, i32mul, i32neg, t32_0, t32_7, t32_3000] at hc0 hc1 ⊢; omega)⟩ (by simp only [vp_in_iff, i32lt, i32le, i32eq, i32add, i32sub, i32mul, i32neg, t32_0, t32_7, t32_3000] at hc0 hc1 ⊢; omega)
  obtain ⟨ivx1_0, ivx1_1⟩ := ivx1
  refine mw_eqS (f1_leftStoreBy_lp5_s (M 1) p1 p2 n2 x1) ?_
  refine mw_iload cx (q := 7) 0 rfl dX1_leftStoreBy_5 rfl ?_
  refine mw_aload_n cx (q := 8) 2 rfl rfl dX1_leftStoreBy_7 rfl ?_
  refine mw_get cx (q := 11) (v := .int ((M 1) 0 0 7)) gf_X1_35 rfl rfl vi_1_0 dX1_leftStoreBy_8 rfl ?_
  refine mw_icmp_ge cx (tgt := 92) (q := 14) dX1_leftStoreBy_11 (by decide) rfl (fun h3 => ?_) (fun h3 => ?_)
  · refine mw_iload_n cx (q := 93) 1 rfl rfl dX1_leftStoreBy_92 rfl ?_
    exact mw_iret cx hr rfl dX1_leftStoreBy_93
  · refine mw_aload_n cx (q := 15) 2 rfl rfl dX1_leftStoreBy_14 rfl ?_
    refine mw_get cx (q := 18) (v := .ref (ad 1 7 0)) gf_X1_32 rfl rfl vi_1_0 dX1_leftStoreBy_15 rfl ?_
    refine mw_iload cx (q := 20) 0 rfl dX1_leftStoreBy_18 rfl ?_
    refine mw_iald cx (q := 21) (w := ((M 1) 7 0 x1.1)) rfl (fun _ => rfl) vi_1_7 (by simp only [vp_in_iff, i32lt, i32le, i32eq, i32add, i32sub, i32mul, i32neg, t32_0, t32_7, t32_3000] at ivx1_0 ivx1_1 h3 hc0 hc1 ⊢; omega) dX1_leftStoreBy_20 rfl ?_
    refine mw_iload_n cx (q := 22) 3 rfl rfl dX1_leftStoreBy_21 rfl ?_
    refine mw_jn (Mj := fun (v4 : Int32) => M) (pj := 86) (lj := fun (v4 : Int32) => [(0, .ref (ad 1 0 0)), (1, .int p1), (2, .int p2), (3, .int v4), (4, .int x1.1)]) (sj := fun (v4 : Int32) => []) (fun v4 => ?_) (fun K5 hK5 => ?_)
    · refine mw_bnd (fun v16 ev16 => ?_)
      refine mw_iinc cx (q := 89) (v := v16) (lv' := [(4, .int v16), (0, .ref (ad 1 0 0)), (1, .int p1), (2, .int p2), (3, .int v4)]) 4 rfl (by rw [ev16]; rfl) rfl (by decide) dX1_leftStoreBy_86 rfl ?_
      refine mw_goto cx (tgt := 5) dX1_leftStoreBy_89 (by decide) ?_
      refine mw_sub [0, 4, 1, 2, 3] rfl ?_
      exact ih (v16, v4) ⟨(by simp only [vp_in_iff, i32lt, i32le, i32eq, i32add, i32sub, i32mul, i32neg, t32_0, t32_1, t32_7, t32_3000] at ev16 ivx1_0 ivx1_1 h3 hc0 hc1 ⊢; omega), (by simp only [vp_in_iff, i32lt, i32le, i32eq, i32add, i32sub, i32mul, i32neg, t32_0, t32_1, t32_7, t32_3000] at hc0 hc1 ivx1_1 h3 ev16 ivx1_0 ⊢; omega)⟩ (by simp only [vp_in_iff, i32lt, i32le, i32eq, i32add, i32sub, i32mul, i32neg, t32_0, t32_1, t32_7, t32_3000] at hc0 hc1 ivx1_0 ivx1_1 h3 ev16 ⊢; omega)
    · refine mw_icmp_ne cx (tgt := 86) (q := 25) dX1_leftStoreBy_22 (by decide) rfl (fun h6 => ?_) (fun h6 => ?_)
      · refine mw_sub [2, 3, 4, 1, 0] rfl ?_
        exact hK5 x1.2
      · refine mw_aload_n cx (q := 26) 2 rfl rfl dX1_leftStoreBy_25 rfl ?_
        refine mw_get cx (q := 29) (v := .ref (ad 1 5 0)) gf_X1_26 rfl rfl vi_1_0 dX1_leftStoreBy_26 rfl ?_
        refine mw_iload cx (q := 31) 0 rfl dX1_leftStoreBy_29 rfl ?_
        refine mw_iald cx (q := 32) (w := ((M 1) 5 0 x1.1)) rfl (fun _ => rfl) vi_1_5 (by simp only [vp_in_iff, i32lt, i32le, i32eq, i32add, i32sub, i32mul, i32neg, t32_0, t32_7, t32_3000] at ivx1_0 ivx1_1 h3 h6 hc0 hc1 ⊢; omega) dX1_leftStoreBy_31 rfl ?_
        refine mw_iload_n cx (q := 33) 4 rfl rfl dX1_leftStoreBy_32 rfl ?_
        refine mw_icmp_ne cx (tgt := 86) (q := 36) dX1_leftStoreBy_33 (by decide) rfl (fun h7 => ?_) (fun h7 => ?_)
        · refine mw_sub [2, 3, 4, 1, 0] rfl ?_
          exact hK5 x1.2
        · refine mw_iload_n cx (q := 37) 1 rfl rfl dX1_leftStoreBy_36 rfl ?_
          refine mw_aload_n cx (q := 38) 2 rfl rfl dX1_leftStoreBy_37 rfl ?_
          refine mw_get cx (q := 41) (v := .ref (ad 1 3 0)) gf_X1_20 rfl rfl vi_1_0 dX1_leftStoreBy_38 rfl ?_
          refine mw_iload cx (q := 43) 0 rfl dX1_leftStoreBy_41 rfl ?_
          refine mw_iald cx (q := 44) (w := ((M 1) 3 0 x1.1)) rfl (fun _ => rfl) vi_1_3 (by simp only [vp_in_iff, i32lt, i32le, i32eq, i32add, i32sub, i32mul, i32neg, t32_0, t32_5, t32_7, t32_3000] at ivx1_0 ivx1_1 h3 h6 h7 hc0 hc1 ⊢; omega) dX1_leftStoreBy_43 rfl ?_
          refine mw_iconst cx (q := 45) (v := (-1)) dX1_leftStoreBy_44 rfl rfl ?_
          refine mw_jn (Mj := fun (v8 : Int32) => M) (pj := 59) (lj := fun (v8 : Int32) => [(0, .ref (ad 1 0 0)), (1, .int p1), (2, .int p2), (4, .int x1.1)]) (sj := fun (v8 : Int32) => [.int v8, .int x1.2]) (fun v8 => ?_) (fun K9 hK9 => ?_)
          · refine mw_iadd cx (q := 60) dX1_leftStoreBy_59 rfl ?_
            refine mw_bndT (fun v11 ev11 => ?_)
            refine mw_istore_n cx (q := 61) (lv' := [(3, .int v11), (0, .ref (ad 1 0 0)), (1, .int p1), (2, .int p2), (4, .int x1.1)]) rfl rfl (by decide) dX1_leftStoreBy_60 rfl ?_
            refine mw_iload_n cx (q := 62) 0 rfl rfl dX1_leftStoreBy_61 rfl ?_
            refine mw_aload_n cx (q := 63) 1 rfl rfl dX1_leftStoreBy_62 rfl ?_
            refine mw_get cx (q := 66) (v := .ref (ad 1 4 0)) gf_X1_23 rfl rfl vi_1_0 dX1_leftStoreBy_63 rfl ?_
            refine mw_iload cx (q := 68) 4 rfl dX1_leftStoreBy_66 rfl ?_
            refine mw_iald cx (q := 69) (w := ((M 1) 4 0 x1.1)) rfl (fun _ => rfl) vi_1_4 (by simp only [vp_in_iff, i32lt, i32le, i32eq, i32add, i32sub, i32mul, i32neg, t32_0, t32_5, t32_7, t32_3000] at ivx1_0 ivx1_1 h3 h6 h7 hc0 hc1 ⊢; omega) dX1_leftStoreBy_68 rfl ?_
            refine mw_iconst cx (q := 70) (v := (-1)) dX1_leftStoreBy_69 rfl rfl ?_
            refine mw_jn (Mj := fun (v12 : Int32) => M) (pj := 84) (lj := fun (v12 : Int32) => [(0, .ref (ad 1 0 0)), (1, .int p1), (2, .int p2), (4, .int x1.1)]) (sj := fun (v12 : Int32) => [.int v12, .int v11]) (fun v12 => ?_) (fun K13 hK13 => ?_)
            · refine mw_isub cx (q := 85) dX1_leftStoreBy_84 rfl ?_
              refine mw_bndT (fun v15 ev15 => ?_)
              refine mw_istore_n cx (q := 86) (lv' := [(3, .int v15), (0, .ref (ad 1 0 0)), (1, .int p1), (2, .int p2), (4, .int x1.1)]) rfl rfl (by decide) dX1_leftStoreBy_85 rfl ?_
              refine mw_sub [1, 2, 3, 0, 4] rfl ?_
              exact hK5 v15
            · refine mw_icmp_ne cx (tgt := 83) (q := 73) dX1_leftStoreBy_70 (by decide) rfl (fun h14 => ?_) (fun h14 => ?_)
              · refine mw_iconst cx (q := 84) (v := 0) dX1_leftStoreBy_83 rfl rfl ?_
                refine mw_sub [1, 2, 3, 4] rfl ?_
                exact hK13 0
              · refine mw_aload_n cx (q := 74) 1 rfl rfl dX1_leftStoreBy_73 rfl ?_
                refine mw_get cx (q := 77) (v := .ref (ad 1 6 0)) gf_X1_29 rfl rfl vi_1_0 dX1_leftStoreBy_74 rfl ?_
                refine mw_iload cx (q := 79) 4 rfl dX1_leftStoreBy_77 rfl ?_
                refine mw_iald cx (q := 80) (w := ((M 1) 6 0 x1.1)) rfl (fun _ => rfl) vi_1_6 (by simp only [vp_in_iff, i32lt, i32le, i32eq, i32add, i32sub, i32mul, i32neg, t32_0, t32_1, t32_4, t32_5, t32_7, t32_3000] at ivx1_0 ivx1_1 h3 h6 h7 h14 hc0 hc1 ⊢; omega) dX1_leftStoreBy_79 rfl ?_
                refine mw_goto cx (tgt := 84) dX1_leftStoreBy_80 (by decide) ?_
                refine mw_sub [1, 2, 3, 4] rfl ?_
                exact hK13 ((M 1) 6 0 x1.1)
          · refine mw_icmp_ne cx (tgt := 58) (q := 48) dX1_leftStoreBy_45 (by decide) rfl (fun h10 => ?_) (fun h10 => ?_)
            · refine mw_iconst cx (q := 59) (v := 0) dX1_leftStoreBy_58 rfl rfl ?_
              refine mw_sub [2, 3, 4, 0] rfl ?_
              exact hK9 0
            · refine mw_aload_n cx (q := 49) 2 rfl rfl dX1_leftStoreBy_48 rfl ?_
              refine mw_get cx (q := 52) (v := .ref (ad 1 6 0)) gf_X1_29 rfl rfl vi_1_0 dX1_leftStoreBy_49 rfl ?_
              refine mw_iload cx (q := 54) 0 rfl dX1_leftStoreBy_52 rfl ?_
              refine mw_iald cx (q := 55) (w := ((M 1) 6 0 x1.1)) rfl (fun _ => rfl) vi_1_6 (by simp only [vp_in_iff, i32lt, i32le, i32eq, i32add, i32sub, i32mul, i32neg, t32_0, t32_1, t32_3, t32_5, t32_7, t32_3000] at ivx1_0 ivx1_1 h3 h6 h7 h10 hc0 hc1 ⊢; omega) dX1_leftStoreBy_54 rfl ?_
              refine mw_goto cx (tgt := 59) dX1_leftStoreBy_55 (by decide) ?_
              refine mw_sub [2, 3, 4, 0] rfl ?_
              exact hK9 ((M 1) 6 0 x1.1)
def f1_isFull (m : Cm) : Bool := if (m 0 0 7) < 3000 then false else true
set_option maxHeartbeats 4000000 in
set_option maxRecDepth 100000 in
theorem mc_X1_isFull (l : Launch) (D : va_G) (ta : wTa) (ad : wAd) (M : Wm) : MC l D ta ad yX1_isFull cX1_isFull 1 (some .boolean) 0 [.ref (ad 1 0 0)] M (fzp M (f1_isFull (M 1))) := by
  refine MC.of (fzp M) (f1_isFull (M 1)) rfl (by decide) (Nat.le_of_ble_eq_true rfl) (fun p e s m args below meth c cx hr => ?_)
  unfold f1_isFull
  refine mw_sub (lv' := [(0, .ref (ad 1 0 0))]) [0] rfl ?_
  refine mw_aload_n cx (q := 1) 0 rfl rfl dX1_isFull_0 rfl ?_
  refine mw_get cx (q := 4) (v := .int ((M 1) 0 0 7)) gf_X1_35 rfl rfl vi_1_0 dX1_isFull_1 rfl ?_
  refine mw_sipush cx (q := 7) (v := 3000) dX1_isFull_4 rfl rfl ?_
  refine mw_icmp_lt cx (tgt := 14) (q := 10) dX1_isFull_7 (by decide) rfl (fun h1 => ?_) (fun h1 => ?_)
  · refine mw_iconst cx (q := 15) (v := 0) dX1_isFull_14 rfl rfl ?_
    exact mw_zret cx hr rfl rfl dX1_isFull_15
  · refine mw_iconst cx (q := 11) (v := 1) dX1_isFull_10 rfl rfl ?_
    refine mw_goto cx (tgt := 15) dX1_isFull_11 (by decide) ?_
    exact mw_zret cx hr rfl rfl dX1_isFull_15
def f1_move (m : Cm) (p1 : Int32) (p2 : Int32) (p3 : Int32) (p4 : Int32) (p5 : Int32) : Cm := if 3000 ≤ (m 0 0 7) then m else bnd (u3 m 3 0 (m 0 0 7) p1) (fun (m2 : Cm) => bnd (u3 m2 4 0 (m 0 0 7) p2) (fun (m3 : Cm) => bnd (u3 m3 5 0 (m 0 0 7) p3) (fun (m4 : Cm) => bnd (u3 m4 6 0 (m 0 0 7) p4) (fun (m5 : Cm) => bnd (u3 m5 7 0 (m 0 0 7) p5) (fun (m6 : Cm) => bnd (u3 m6 0 0 7 ((m 0 0 7) + 1)) (fun (m7 : Cm) => bnd (u3 m7 8 (p1 + 1) p3 ((m 8 (p1 + 1) p3) - p4)) (fun (m8 : Cm) => bnd (u3 m8 8 (p2 + 1) p3 ((m8 8 (p2 + 1) p3) + p4)) (fun (m9 : Cm) => m9))))))))
set_option maxHeartbeats 4000000 in
set_option maxRecDepth 100000 in
theorem mc_X1_move (l : Launch) (D : va_G) (ta : wTa) (ad : wAd) (M : Wm) (p1 : Int32) (p2 : Int32) (p3 : Int32) (p4 : Int32) (p5 : Int32) (hc0 : 0 ≤ ((M 1) 0 0 7).toInt) (hc1 : ((M 1) 0 0 7).toInt ≤ 3000) (ho1 : vp_in (p1 + 1) 5) (ho2 : vp_in (p2 + 1) 5) (hp3 : vp_in p3 8) : MC l D ta ad yX1_move cX1_move 6 none 0 [.ref (ad 1 0 0), .int p1, .int p2, .int p3, .int p4, .int p5] M (fvc M 1 (f1_move (M 1) p1 p2 p3 p4 p5)) := by
  refine MC.of (fvc M 1) (f1_move (M 1) p1 p2 p3 p4 p5) rfl (by decide) (Nat.le_of_ble_eq_true rfl) (fun p e s m args below meth c cx hr => ?_)
  unfold f1_move
  refine mw_sub (lv' := [(0, .ref (ad 1 0 0)), (1, .int p1), (2, .int p2), (3, .int p3), (4, .int p4), (5, .int p5)]) [0, 1, 2, 3, 4, 5] rfl ?_
  refine mw_eqM (uW_self M 1) ?_
  refine mw_aload_n cx (q := 1) 0 rfl rfl dX1_move_0 rfl ?_
  refine mw_get cx (q := 4) (v := .int ((M 1) 0 0 7)) gf_X1_35 rfl rfl vi_1_0 dX1_move_1 rfl ?_
  refine mw_sipush cx (q := 7) (v := 3000) dX1_move_4 rfl rfl ?_
  refine mw_icmp_ge cx (tgt := 102) (q := 10) dX1_move_7 (by decide) rfl (fun h1 => ?_) (fun h1 => ?_)
  · exact mw_vret cx hr rfl dX1_move_102
  · refine mw_aload_n cx (q := 11) 0 rfl rfl dX1_move_10 rfl ?_
    refine mw_get cx (q := 14) (v := .ref (ad 1 3 0)) gf_X1_20 rfl rfl vi_1_0 dX1_move_11 rfl ?_
    refine mw_aload_n cx (q := 15) 0 rfl rfl dX1_move_14 rfl ?_
    refine mw_get cx (q := 18) (v := .int ((M 1) 0 0 7)) gf_X1_35 rfl rfl vi_1_0 dX1_move_15 rfl ?_
    refine mw_iload_n cx (q := 19) 1 rfl rfl dX1_move_18 rfl ?_
    refine mw_iastC cx (q := 20) (fun _ => rfl) (by decide) vi_1_3 (by simp only [vp_in_iff, i32lt, i32le, i32eq, i32add, i32sub, i32mul, i32neg, t32_0, t32_7, t32_3000] at hc0 hc1 h1 ⊢; omega) (by decide) dX1_move_19 rfl (fun m2 em2 => ?_)
    refine mw_aload_n cx (q := 21) 0 rfl rfl dX1_move_20 rfl ?_
    refine mw_get cx (q := 24) (v := .ref (ad 1 4 0)) gf_X1_23 rfl rfl vi_1_0 dX1_move_21 rfl ?_
    refine mw_aload_n cx (q := 25) 0 rfl rfl dX1_move_24 rfl ?_
    refine mw_get cx (q := 28) (v := .int ((M 1) 0 0 7)) gf_X1_35 rfl (by rw [em2]; rfl) vi_1_0 dX1_move_25 rfl ?_
    refine mw_iload_n cx (q := 29) 2 rfl rfl dX1_move_28 rfl ?_
    refine mw_iastC cx (q := 30) (fun _ => rfl) (by decide) vi_1_4 (by simp only [vp_in_iff, i32lt, i32le, i32eq, i32add, i32sub, i32mul, i32neg, t32_0, t32_7, t32_3000] at hc0 hc1 h1 ⊢; omega) (by decide) dX1_move_29 rfl (fun m3 em3 => ?_)
    refine mw_aload_n cx (q := 31) 0 rfl rfl dX1_move_30 rfl ?_
    refine mw_get cx (q := 34) (v := .ref (ad 1 5 0)) gf_X1_26 rfl rfl vi_1_0 dX1_move_31 rfl ?_
    refine mw_aload_n cx (q := 35) 0 rfl rfl dX1_move_34 rfl ?_
    refine mw_get cx (q := 38) (v := .int ((M 1) 0 0 7)) gf_X1_35 rfl (by rw [em3, em2]; rfl) vi_1_0 dX1_move_35 rfl ?_
    refine mw_iload_n cx (q := 39) 3 rfl rfl dX1_move_38 rfl ?_
    refine mw_iastC cx (q := 40) (fun _ => rfl) (by decide) vi_1_5 (by simp only [vp_in_iff, i32lt, i32le, i32eq, i32add, i32sub, i32mul, i32neg, t32_0, t32_7, t32_3000] at hc0 hc1 h1 ⊢; omega) (by decide) dX1_move_39 rfl (fun m4 em4 => ?_)
    refine mw_aload_n cx (q := 41) 0 rfl rfl dX1_move_40 rfl ?_
    refine mw_get cx (q := 44) (v := .ref (ad 1 6 0)) gf_X1_29 rfl rfl vi_1_0 dX1_move_41 rfl ?_
    refine mw_aload_n cx (q := 45) 0 rfl rfl dX1_move_44 rfl ?_
    refine mw_get cx (q := 48) (v := .int ((M 1) 0 0 7)) gf_X1_35 rfl (by rw [em4, em3, em2]; rfl) vi_1_0 dX1_move_45 rfl ?_
    refine mw_iload cx (q := 50) 4 rfl dX1_move_48 rfl ?_
    refine mw_iastC cx (q := 51) (fun _ => rfl) (by decide) vi_1_6 (by simp only [vp_in_iff, i32lt, i32le, i32eq, i32add, i32sub, i32mul, i32neg, t32_0, t32_7, t32_3000] at hc0 hc1 h1 ⊢; omega) (by decide) dX1_move_50 rfl (fun m5 em5 => ?_)
    refine mw_aload_n cx (q := 52) 0 rfl rfl dX1_move_51 rfl ?_
    refine mw_get cx (q := 55) (v := .ref (ad 1 7 0)) gf_X1_32 rfl rfl vi_1_0 dX1_move_52 rfl ?_
    refine mw_aload_n cx (q := 56) 0 rfl rfl dX1_move_55 rfl ?_
    refine mw_get cx (q := 59) (v := .int ((M 1) 0 0 7)) gf_X1_35 rfl (by rw [em5, em4, em3, em2]; rfl) vi_1_0 dX1_move_56 rfl ?_
    refine mw_iload cx (q := 61) 5 rfl dX1_move_59 rfl ?_
    refine mw_iastC cx (q := 62) (fun _ => rfl) (by decide) vi_1_7 (by simp only [vp_in_iff, i32lt, i32le, i32eq, i32add, i32sub, i32mul, i32neg, t32_0, t32_7, t32_3000] at hc0 hc1 h1 ⊢; omega) (by decide) dX1_move_61 rfl (fun m6 em6 => ?_)
    refine mw_aload_n cx (q := 63) 0 rfl rfl dX1_move_62 rfl ?_
    refine mw_dup cx (q := 64) dX1_move_63 rfl rfl ?_
    refine mw_get cx (q := 67) (v := .int ((M 1) 0 0 7)) gf_X1_35 rfl (by rw [em6, em5, em4, em3, em2]; rfl) vi_1_0 dX1_move_64 rfl ?_
    refine mw_iconst cx (q := 68) (v := 1) dX1_move_67 rfl rfl ?_
    refine mw_iadd cx (q := 69) dX1_move_68 rfl ?_
    refine mw_putC cx (q := 72) 7 gf_X1_35 pf_X1_7 (int_fit _) rfl (Nat.le_of_ble_eq_true rfl) rfl vi_1_0 (by decide) dX1_move_69 rfl (fun m7 em7 => ?_)
    refine mw_aload_n cx (q := 73) 0 rfl rfl dX1_move_72 rfl ?_
    refine mw_get cx (q := 76) (v := .ref (ad 1 1 0)) gf_X1_11 rfl rfl vi_1_0 dX1_move_73 rfl ?_
    refine mw_iload_n cx (q := 77) 1 rfl rfl dX1_move_76 rfl ?_
    refine mw_iconst cx (q := 78) (v := 1) dX1_move_77 rfl rfl ?_
    refine mw_iadd cx (q := 79) dX1_move_78 rfl ?_
    refine mw_aald cx (q := 80) (fun _ => rfl) rfl rfl vi_1_1 ho1 dX1_move_79 rfl ?_
    refine mw_iload_n cx (q := 81) 3 rfl rfl dX1_move_80 rfl ?_
    refine mw_dup2 cx (q := 82) dX1_move_81 rfl rfl rfl ?_
    refine mw_iald cx (q := 83) (w := ((M 1) 8 (p1 + 1) p3)) (by rw [em7, em6, em5, em4, em3, em2]; rfl) (fun _ => rfl) ho1 hp3 dX1_move_82 rfl ?_
    refine mw_iload cx (q := 85) 4 rfl dX1_move_83 rfl ?_
    refine mw_isub cx (q := 86) dX1_move_85 rfl ?_
    refine mw_iastC cx (q := 87) (fun _ => rfl) (by decide) ho1 hp3 (by decide) dX1_move_86 rfl (fun m8 em8 => ?_)
    refine mw_aload_n cx (q := 88) 0 rfl rfl dX1_move_87 rfl ?_
    refine mw_get cx (q := 91) (v := .ref (ad 1 1 0)) gf_X1_11 rfl rfl vi_1_0 dX1_move_88 rfl ?_
    refine mw_iload_n cx (q := 92) 2 rfl rfl dX1_move_91 rfl ?_
    refine mw_iconst cx (q := 93) (v := 1) dX1_move_92 rfl rfl ?_
    refine mw_iadd cx (q := 94) dX1_move_93 rfl ?_
    refine mw_aald cx (q := 95) (fun _ => rfl) rfl rfl vi_1_1 ho2 dX1_move_94 rfl ?_
    refine mw_iload_n cx (q := 96) 3 rfl rfl dX1_move_95 rfl ?_
    refine mw_dup2 cx (q := 97) dX1_move_96 rfl rfl rfl ?_
    refine mw_iald cx (q := 98) (w := (m8 8 (p2 + 1) p3)) rfl (fun _ => rfl) ho2 hp3 dX1_move_97 rfl ?_
    refine mw_iload cx (q := 100) 4 rfl dX1_move_98 rfl ?_
    refine mw_iadd cx (q := 101) dX1_move_100 rfl ?_
    refine mw_iastC cx (q := 102) (fun _ => rfl) (by decide) ho2 hp3 (by decide) dX1_move_101 rfl (fun m9 em9 => ?_)
    exact mw_vret cx hr rfl dX1_move_102
def f1_undoTo_lp7 (p1 : Int32) : Nat → (Int32 × Cm) → Cm
  | 0, x2 => x2.2
  | n3 + 1, x2 => if x2.1 < p1 then x2.2 else if x2.1 < 0 then x2.2 else bnd (u3 x2.2 8 ((x2.2 4 0 x2.1) + 1) (x2.2 5 0 x2.1) ((x2.2 8 ((x2.2 4 0 x2.1) + 1) (x2.2 5 0 x2.1)) - (x2.2 6 0 x2.1))) (fun (m6 : Cm) => bnd (u3 m6 8 ((x2.2 3 0 x2.1) + 1) (x2.2 5 0 x2.1) ((m6 8 ((x2.2 3 0 x2.1) + 1) (x2.2 5 0 x2.1)) + (x2.2 6 0 x2.1))) (fun (m7 : Cm) => bnd (u3 m7 0 0 7 x2.1) (fun (m8 : Cm) => bnd (x2.1 + (-1)) (fun (v9 : Int32) => f1_undoTo_lp7 p1 n3 (v9, m8)))))
theorem f1_undoTo_lp7_s (p1 : Int32) (n3 : Nat) (x2 : Int32 × Cm) : f1_undoTo_lp7 p1 (n3 + 1) x2 = if x2.1 < p1 then x2.2 else if x2.1 < 0 then x2.2 else bnd (u3 x2.2 8 ((x2.2 4 0 x2.1) + 1) (x2.2 5 0 x2.1) ((x2.2 8 ((x2.2 4 0 x2.1) + 1) (x2.2 5 0 x2.1)) - (x2.2 6 0 x2.1))) (fun (m6 : Cm) => bnd (u3 m6 8 ((x2.2 3 0 x2.1) + 1) (x2.2 5 0 x2.1) ((m6 8 ((x2.2 3 0 x2.1) + 1) (x2.2 5 0 x2.1)) + (x2.2 6 0 x2.1))) (fun (m7 : Cm) => bnd (u3 m7 0 0 7 x2.1) (fun (m8 : Cm) => bnd (x2.1 + (-1)) (fun (v9 : Int32) => f1_undoTo_lp7 p1 n3 (v9, m8))))) := rfl
def f1_undoTo (m : Cm) (p1 : Int32) : Cm := bnd (((m 0 0 7) - 1)) (fun (v1 : Int32) => f1_undoTo_lp7 p1 3001 (v1, m))
set_option maxHeartbeats 4000000 in
set_option maxRecDepth 100000 in
theorem mc_X1_undoTo (l : Launch) (D : va_G) (ta : wTa) (ad : wAd) (M : Wm) (p1 : Int32) (hc0 : 0 ≤ ((M 1) 0 0 7).toInt) (hc1 : ((M 1) 0 0 7).toInt ≤ 3000) (hok : ∀ j : Int32, vp_in j 3000 → vp_in ((M 1) 3 0 j + 1) 5 ∧ vp_in ((M 1) 4 0 j + 1) 5 ∧ vp_in ((M 1) 5 0 j) 8) : MC l D ta ad yX1_undoTo cX1_undoTo 3 none 0 [.ref (ad 1 0 0), .int p1] M (fvc M 1 (f1_undoTo (M 1) p1)) := by
  refine MC.of (fvc M 1) (f1_undoTo (M 1) p1) rfl (by decide) (Nat.le_of_ble_eq_true rfl) (fun p e s m args below meth c cx hr => ?_)
  unfold f1_undoTo
  refine mw_sub (lv' := [(0, .ref (ad 1 0 0)), (1, .int p1)]) [0, 1] rfl ?_
  refine mw_eqM (uW_self M 1) ?_
  refine mw_aload_n cx (q := 1) 0 rfl rfl dX1_undoTo_0 rfl ?_
  refine mw_get cx (q := 4) (v := .int ((M 1) 0 0 7)) gf_X1_35 rfl rfl vi_1_0 dX1_undoTo_1 rfl ?_
  refine mw_iconst cx (q := 5) (v := 1) dX1_undoTo_4 rfl rfl ?_
  refine mw_isub cx (q := 6) dX1_undoTo_5 rfl ?_
  refine mw_bndT (fun v1 ev1 => ?_)
  refine mw_istore_n cx (q := 7) (lv' := [(2, .int v1), (0, .ref (ad 1 0 0)), (1, .int p1)]) rfl rfl (by decide) dX1_undoTo_6 rfl ?_
  refine mw_loop (F := f1_undoTo_lp7 p1) (I := fun (x2 : Int32 × Cm) => (-1 ≤ (x2.1).toInt) ∧ ((x2.1).toInt < 3000) ∧ (∀ j : Int32, vp_in j 3000 → vp_in (x2.2 3 0 j + 1) 5 ∧ vp_in (x2.2 4 0 j + 1) 5 ∧ vp_in (x2.2 5 0 j) 8)) (μ := fun (x2 : Int32 × Cm) => ((x2.1).toInt + 1).toNat) (Mx := fun (x2 : Int32 × Cm) => (uW M 1 x2.2)) (px := 7) (lx := fun (x2 : Int32 × Cm) => [(2, .int x2.1), (0, .ref (ad 1 0 0)), (1, .int p1)]) (fun n3 x2 ivx2 ih => ?_) 3001 (v1, (M 1)) ⟨(by simp only [vp_in_iff, i32lt, i32le, i32eq, i32add, i32sub, i32mul, i32neg, t32_0, t32_1, t32_7, t32_3000] at ev1 hc0 hc1 ⊢; omega), (by simp only [vp_in_iff, i32lt, i32le, i32eq, i32add, i32sub, i32mul, i32neg, t32_0, t32_1, t32_7, t32_3000] at ev1 hc0 hc1 ⊢; omega), hok⟩ (by simp only [vp_in_iff, i32lt, i32le, i32eq, i32add, i32sub, i32mul, i32neg, t32_0, t32_1, t32_7, t32_3000] at ev1 hc0 hc1 ⊢; omega)
  obtain ⟨ivx2_0, ivx2_1, ivx2_2⟩ := ivx2
  refine mw_eqS (f1_undoTo_lp7_s p1 n3 x2) ?_
  refine mw_iload_n cx (q := 8) 0 rfl rfl dX1_undoTo_7 rfl ?_
  refine mw_iload_n cx (q := 9) 2 rfl rfl dX1_undoTo_8 rfl ?_
  refine mw_icmp_lt cx (tgt := 85) (q := 12) dX1_undoTo_9 (by decide) rfl (fun h4 => ?_) (fun h4 => ?_)
  · exact mw_vret cx hr rfl dX1_undoTo_85
  · refine mw_iload_n cx (q := 13) 0 rfl rfl dX1_undoTo_12 rfl ?_
    refine mw_if_lt cx (tgt := 85) (q := 16) dX1_undoTo_13 (by decide) rfl (fun h5 => ?_) (fun h5 => ?_)
    · exact mw_vret cx hr rfl dX1_undoTo_85
    · refine mw_aload_n cx (q := 17) 1 rfl rfl dX1_undoTo_16 rfl ?_
      refine mw_get cx (q := 20) (v := .ref (ad 1 1 0)) gf_X1_11 rfl rfl vi_1_0 dX1_undoTo_17 rfl ?_
      refine mw_aload_n cx (q := 21) 1 rfl rfl dX1_undoTo_20 rfl ?_
      refine mw_get cx (q := 24) (v := .ref (ad 1 4 0)) gf_X1_23 rfl rfl vi_1_0 dX1_undoTo_21 rfl ?_
      refine mw_iload_n cx (q := 25) 0 rfl rfl dX1_undoTo_24 rfl ?_
      refine mw_iald cx (q := 26) (w := (x2.2 4 0 x2.1)) rfl (fun _ => rfl) vi_1_4 (by simp only [vp_in_iff, i32lt, i32le, i32eq, i32add, i32sub, i32mul, i32neg, t32_0, t32_1, t32_3000] at ivx2_0 ivx2_1 h4 h5 ⊢; omega) dX1_undoTo_25 rfl ?_
      refine mw_iconst cx (q := 27) (v := 1) dX1_undoTo_26 rfl rfl ?_
      refine mw_iadd cx (q := 28) dX1_undoTo_27 rfl ?_
      refine mw_aald cx (q := 29) (fun _ => rfl) rfl rfl vi_1_1 ((ivx2_2 _ (by simp only [vp_in_iff, i32lt, i32le, i32eq, i32add, i32sub, i32mul, i32neg, t32_0, t32_1, t32_3000] at ivx2_0 ivx2_1 h4 h5 ⊢; omega)).2.1) dX1_undoTo_28 rfl ?_
      refine mw_aload_n cx (q := 30) 1 rfl rfl dX1_undoTo_29 rfl ?_
      refine mw_get cx (q := 33) (v := .ref (ad 1 5 0)) gf_X1_26 rfl rfl vi_1_0 dX1_undoTo_30 rfl ?_
      refine mw_iload_n cx (q := 34) 0 rfl rfl dX1_undoTo_33 rfl ?_
      refine mw_iald cx (q := 35) (w := (x2.2 5 0 x2.1)) rfl (fun _ => rfl) vi_1_5 (by simp only [vp_in_iff, i32lt, i32le, i32eq, i32add, i32sub, i32mul, i32neg, t32_0, t32_1, t32_3000] at ivx2_0 ivx2_1 h4 h5 ⊢; omega) dX1_undoTo_34 rfl ?_
      refine mw_dup2 cx (q := 36) dX1_undoTo_35 rfl rfl rfl ?_
      refine mw_iald cx (q := 37) (w := (x2.2 8 ((x2.2 4 0 x2.1) + 1) (x2.2 5 0 x2.1))) rfl (fun _ => rfl) (show vp_in ((x2.2 4 0 x2.1) + 1) 5 from ((ivx2_2 _ (by simp only [vp_in_iff, i32lt, i32le, i32eq, i32add, i32sub, i32mul, i32neg, t32_0, t32_1, t32_3000] at ivx2_0 ivx2_1 h4 h5 ⊢; omega)).2.1)) ((ivx2_2 _ (by simp only [vp_in_iff, i32lt, i32le, i32eq, i32add, i32sub, i32mul, i32neg, t32_0, t32_1, t32_3000] at ivx2_0 ivx2_1 h4 h5 ⊢; omega)).2.2) dX1_undoTo_36 rfl ?_
      refine mw_aload_n cx (q := 38) 1 rfl rfl dX1_undoTo_37 rfl ?_
      refine mw_get cx (q := 41) (v := .ref (ad 1 6 0)) gf_X1_29 rfl rfl vi_1_0 dX1_undoTo_38 rfl ?_
      refine mw_iload_n cx (q := 42) 0 rfl rfl dX1_undoTo_41 rfl ?_
      refine mw_iald cx (q := 43) (w := (x2.2 6 0 x2.1)) rfl (fun _ => rfl) vi_1_6 (by simp only [vp_in_iff, i32lt, i32le, i32eq, i32add, i32sub, i32mul, i32neg, t32_0, t32_1, t32_3000] at ivx2_0 ivx2_1 h4 h5 ⊢; omega) dX1_undoTo_42 rfl ?_
      refine mw_isub cx (q := 44) dX1_undoTo_43 rfl ?_
      refine mw_iastC cx (q := 45) (fun _ => rfl) (by decide) (show vp_in ((x2.2 4 0 x2.1) + 1) 5 from ((ivx2_2 _ (by simp only [vp_in_iff, i32lt, i32le, i32eq, i32add, i32sub, i32mul, i32neg, t32_0, t32_1, t32_3000] at ivx2_0 ivx2_1 h4 h5 ⊢; omega)).2.1)) ((ivx2_2 _ (by simp only [vp_in_iff, i32lt, i32le, i32eq, i32add, i32sub, i32mul, i32neg, t32_0, t32_1, t32_3000] at ivx2_0 ivx2_1 h4 h5 ⊢; omega)).2.2) (by decide) dX1_undoTo_44 rfl (fun m6 em6 => ?_)
      refine mw_aload_n cx (q := 46) 1 rfl rfl dX1_undoTo_45 rfl ?_
      refine mw_get cx (q := 49) (v := .ref (ad 1 1 0)) gf_X1_11 rfl rfl vi_1_0 dX1_undoTo_46 rfl ?_
      refine mw_aload_n cx (q := 50) 1 rfl rfl dX1_undoTo_49 rfl ?_
      refine mw_get cx (q := 53) (v := .ref (ad 1 3 0)) gf_X1_20 rfl rfl vi_1_0 dX1_undoTo_50 rfl ?_
      refine mw_iload_n cx (q := 54) 0 rfl rfl dX1_undoTo_53 rfl ?_
      refine mw_iald cx (q := 55) (w := (x2.2 3 0 x2.1)) (by rw [em6]; rfl) (fun _ => rfl) vi_1_3 (by simp only [vp_in_iff, i32lt, i32le, i32eq, i32add, i32sub, i32mul, i32neg, t32_0, t32_1, t32_3000] at ivx2_0 ivx2_1 h4 h5 ⊢; omega) dX1_undoTo_54 rfl ?_
      refine mw_iconst cx (q := 56) (v := 1) dX1_undoTo_55 rfl rfl ?_
      refine mw_iadd cx (q := 57) dX1_undoTo_56 rfl ?_
      refine mw_aald cx (q := 58) (fun _ => rfl) rfl rfl vi_1_1 ((ivx2_2 _ (by simp only [vp_in_iff, i32lt, i32le, i32eq, i32add, i32sub, i32mul, i32neg, t32_0, t32_1, t32_3000] at ivx2_0 ivx2_1 h4 h5 ⊢; omega)).1) dX1_undoTo_57 rfl ?_
      refine mw_aload_n cx (q := 59) 1 rfl rfl dX1_undoTo_58 rfl ?_
      refine mw_get cx (q := 62) (v := .ref (ad 1 5 0)) gf_X1_26 rfl rfl vi_1_0 dX1_undoTo_59 rfl ?_
      refine mw_iload_n cx (q := 63) 0 rfl rfl dX1_undoTo_62 rfl ?_
      refine mw_iald cx (q := 64) (w := (x2.2 5 0 x2.1)) (by rw [em6]; rfl) (fun _ => rfl) vi_1_5 (by simp only [vp_in_iff, i32lt, i32le, i32eq, i32add, i32sub, i32mul, i32neg, t32_0, t32_1, t32_3000] at ivx2_0 ivx2_1 h4 h5 ⊢; omega) dX1_undoTo_63 rfl ?_
      refine mw_dup2 cx (q := 65) dX1_undoTo_64 rfl rfl rfl ?_
      refine mw_iald cx (q := 66) (w := (m6 8 ((x2.2 3 0 x2.1) + 1) (x2.2 5 0 x2.1))) rfl (fun _ => rfl) (show vp_in ((x2.2 3 0 x2.1) + 1) 5 from ((ivx2_2 _ (by simp only [vp_in_iff, i32lt, i32le, i32eq, i32add, i32sub, i32mul, i32neg, t32_0, t32_1, t32_3000] at ivx2_0 ivx2_1 h4 h5 ⊢; omega)).1)) ((ivx2_2 _ (by simp only [vp_in_iff, i32lt, i32le, i32eq, i32add, i32sub, i32mul, i32neg, t32_0, t32_1, t32_3000] at ivx2_0 ivx2_1 h4 h5 ⊢; omega)).2.2) dX1_undoTo_65 rfl ?_
      refine mw_aload_n cx (q := 67) 1 rfl rfl dX1_undoTo_66 rfl ?_
      refine mw_get cx (q := 70) (v := .ref (ad 1 6 0)) gf_X1_29 rfl rfl vi_1_0 dX1_undoTo_67 rfl ?_
      refine mw_iload_n cx (q := 71) 0 rfl rfl dX1_undoTo_70 rfl ?_
      refine mw_iald cx (q := 72) (w := (x2.2 6 0 x2.1)) (by rw [em6]; rfl) (fun _ => rfl) vi_1_6 (by simp only [vp_in_iff, i32lt, i32le, i32eq, i32add, i32sub, i32mul, i32neg, t32_0, t32_1, t32_3000] at ivx2_0 ivx2_1 h4 h5 ⊢; omega) dX1_undoTo_71 rfl ?_
      refine mw_iadd cx (q := 73) dX1_undoTo_72 rfl ?_
      refine mw_iastC cx (q := 74) (fun _ => rfl) (by decide) (show vp_in ((x2.2 3 0 x2.1) + 1) 5 from ((ivx2_2 _ (by simp only [vp_in_iff, i32lt, i32le, i32eq, i32add, i32sub, i32mul, i32neg, t32_0, t32_1, t32_3000] at ivx2_0 ivx2_1 h4 h5 ⊢; omega)).1)) ((ivx2_2 _ (by simp only [vp_in_iff, i32lt, i32le, i32eq, i32add, i32sub, i32mul, i32neg, t32_0, t32_1, t32_3000] at ivx2_0 ivx2_1 h4 h5 ⊢; omega)).2.2) (by decide) dX1_undoTo_73 rfl (fun m7 em7 => ?_)
      refine mw_aload_n cx (q := 75) 1 rfl rfl dX1_undoTo_74 rfl ?_
      refine mw_iload_n cx (q := 76) 0 rfl rfl dX1_undoTo_75 rfl ?_
      refine mw_putC cx (q := 79) 7 gf_X1_35 pf_X1_7 (int_fit _) rfl (Nat.le_of_ble_eq_true rfl) rfl vi_1_0 (by decide) dX1_undoTo_76 rfl (fun m8 em8 => ?_)
      refine mw_bnd (fun v9 ev9 => ?_)
      refine mw_iinc cx (q := 82) (v := v9) (lv' := [(2, .int v9), (0, .ref (ad 1 0 0)), (1, .int p1)]) 0 rfl (by rw [ev9]; rfl) rfl (by decide) dX1_undoTo_79 rfl ?_
      refine mw_goto cx (tgt := 7) dX1_undoTo_82 (by decide) ?_
      exact ih (v9, m8) ⟨(by simp only [vp_in_iff, i32lt, i32le, i32eq, i32add, i32sub, i32mul, i32neg, t32_0, t32_1, t32_3000] at ev9 ivx2_0 ivx2_1 h4 h5 ⊢; omega), (by simp only [vp_in_iff, i32lt, i32le, i32eq, i32add, i32sub, i32mul, i32neg, t32_0, t32_1, t32_3000] at ev9 ivx2_0 ivx2_1 h4 h5 ⊢; omega), (by rw [em8, em7, em6]; exact ivx2_2)⟩ (by simp only [vp_in_iff, i32lt, i32le, i32eq, i32add, i32sub, i32mul, i32neg, t32_0, t32_1, t32_3000] at ivx2_0 ivx2_1 h4 h5 ev9 ⊢; omega)
