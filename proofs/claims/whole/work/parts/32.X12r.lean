theorem dec_b {x y : Int32} (hy : 0 ≤ y.toInt) (h : ¬ x ≤ y) (h1 : x.toInt ≤ 3000) : 0 ≤ (x - 1).toInt ∧ (x - 1).toInt ≤ 3000 ∧ (x - 1).toInt = x.toInt - 1 := by
  simp only [i32le] at h
  rw [i32subn (by rw [t32_1]; omega) (by rw [t32_1]; omega), t32_1]; omega
theorem dec_v {x y : Int32} (hy : 0 ≤ y.toInt) (h : ¬ x ≤ y) (h1 : x.toInt ≤ 3000) : vp_in (x - 1) 3000 := by
  have := dec_b hy h h1
  simp only [i32le] at h
  rw [vp_in_iff]; omega
def f12_undo_lp0 (p1 : Int32) (K2 : Cm → Cm) : Nat → Cm → Cm
  | 0, x1 => x1
  | n3 + 1, x1 => if (x1 0 0 21) ≤ p1 then K2 x1 else bnd (u3 x1 0 0 21 ((x1 0 0 21) - 1)) (fun (m5 : Cm) => bnd (u3 m5 4 0 ((8 * (x1 23 0 ((x1 0 0 21) - 1))) + (x1 25 0 ((x1 0 0 21) - 1))) ((x1 4 0 ((8 * (x1 23 0 ((x1 0 0 21) - 1))) + (x1 25 0 ((x1 0 0 21) - 1)))) + (x1 26 0 ((x1 0 0 21) - 1)))) (fun (m7 : Cm) => bnd (u3 m7 4 0 ((8 * (x1 24 0 ((x1 0 0 21) - 1))) + (x1 25 0 ((x1 0 0 21) - 1))) ((m7 4 0 ((8 * (x1 24 0 ((x1 0 0 21) - 1))) + (x1 25 0 ((x1 0 0 21) - 1)))) - (x1 26 0 ((x1 0 0 21) - 1)))) (fun (m9 : Cm) => f12_undo_lp0 p1 K2 n3 m9)))
theorem f12_undo_lp0_s (p1 : Int32) (K2 : Cm → Cm) (n3 : Nat) (x1 : Cm) : f12_undo_lp0 p1 K2 (n3 + 1) x1 = if (x1 0 0 21) ≤ p1 then K2 x1 else bnd (u3 x1 0 0 21 ((x1 0 0 21) - 1)) (fun (m5 : Cm) => bnd (u3 m5 4 0 ((8 * (x1 23 0 ((x1 0 0 21) - 1))) + (x1 25 0 ((x1 0 0 21) - 1))) ((x1 4 0 ((8 * (x1 23 0 ((x1 0 0 21) - 1))) + (x1 25 0 ((x1 0 0 21) - 1)))) + (x1 26 0 ((x1 0 0 21) - 1)))) (fun (m7 : Cm) => bnd (u3 m7 4 0 ((8 * (x1 24 0 ((x1 0 0 21) - 1))) + (x1 25 0 ((x1 0 0 21) - 1))) ((m7 4 0 ((8 * (x1 24 0 ((x1 0 0 21) - 1))) + (x1 25 0 ((x1 0 0 21) - 1)))) - (x1 26 0 ((x1 0 0 21) - 1)))) (fun (m9 : Cm) => f12_undo_lp0 p1 K2 n3 m9))) := rfl
def f12_undo_lp101  : Nat → (Int32 × Cm) → Cm
  | 0, x12 => x12.2
  | n13 + 1, x12 => if (x12.2 0 0 11) ≤ x12.1 then x12.2 else bnd (u3 x12.2 17 0 x12.1 4) (fun (m15 : Cm) => bnd (x12.1 + 1) (fun (v17 : Int32) => f12_undo_lp101 n13 (v17, m15)))
theorem f12_undo_lp101_s  (n13 : Nat) (x12 : Int32 × Cm) : f12_undo_lp101 (n13 + 1) x12 = if (x12.2 0 0 11) ≤ x12.1 then x12.2 else bnd (u3 x12.2 17 0 x12.1 4) (fun (m15 : Cm) => bnd (x12.1 + 1) (fun (v17 : Int32) => f12_undo_lp101 n13 (v17, m15))) := rfl
def f12_undo (m : Cm) (p1 : Int32) (p2 : Int32) : Cm := jn (fun (y11 : Cm) => f12_undo_lp101 (62 + 0 * (p1).toInt.toNat) (p2, y11)) (fun K2 => f12_undo_lp0 p1 K2 (3002 + 0 * (p1).toInt.toNat) m)
set_option maxHeartbeats 4000000 in
set_option maxRecDepth 100000 in
theorem mc_X12_undo (l : Launch) (D : va_G) (ta : wTa) (ad : wAd) (M : Wm) (p1 : Int32) (p2 : Int32) (hok : Ok12 (M 12)) (hp1 : 0 ≤ p1.toInt) (hp2 : 0 ≤ p2.toInt) : MC l D ta ad yX12_undo cX12_undo 4 none 0 [.ref (ad 12 0 0), .int p1, .int p2] M (fvc M 12 (f12_undo (M 12) p1 p2)) := by
  refine MC.of (fvc M 12) (f12_undo (M 12) p1 p2) rfl (by decide) (Nat.le_of_ble_eq_true rfl) (fun p e s m args below meth c cx hr => ?_)
  unfold f12_undo
  refine mw_sub (lv' := [(0, .ref (ad 12 0 0)), (1, .int p1), (2, .int p2)]) [0, 1, 2] rfl ?_
  refine mw_eqM (uW_self M 12) ?_
  have ok0 : OkT (M 12) (M 12) := ⟨hok, rfl, rfl⟩
  refine mw_jnP (P := fun (y11 : Cm) => (OkT (M 12) y11)) (Mj := fun (y11 : Cm) => (uW M 12 y11)) (pj := 99) (lj := fun (y11 : Cm) => [(0, .ref (ad 12 0 0)), (2, .int p2)]) (sj := fun (y11 : Cm) => []) (fun y11 jy11 => ?_) (fun K2 hK2 => ?_)
  · have jy11_0 := jy11
    refine mw_iload_n cx (q := 100) 1 rfl rfl dX12_undo_99 rfl ?_
    refine mw_istore_n cx (q := 101) (lv' := [(3, .int p2), (0, .ref (ad 12 0 0)), (2, .int p2)]) rfl rfl (by decide) dX12_undo_100 rfl ?_
    refine mw_sub [0, 1] rfl ?_
    refine mw_loop (F := f12_undo_lp101) (I := fun (x12 : Int32 × Cm) => (0 ≤ (x12.1).toInt) ∧ (OkT (M 12) x12.2)) (μ := fun (x12 : Int32 × Cm) => (61 - (x12.1).toInt).toNat) (Mx := fun (x12 : Int32 × Cm) => (uW M 12 x12.2)) (px := 101) (lx := fun (x12 : Int32 × Cm) => [(3, .int x12.1), (0, .ref (ad 12 0 0))]) (fun n13 x12 ivx12 ih => ?_) (62 + 0 * (p1).toInt.toNat) (p2, y11) ⟨hp2, jy11_0⟩ (by (try simp only [vp_in_iff, i32lt, i32le, i32eq, i32add, i32sub, i32mul, i32neg, t32_0, t32_61, t32_62] at hp1 hp2 ⊢); omega)
    obtain ⟨ivx12_0, ivx12_1⟩ := ivx12
    refine mw_eqS (f12_undo_lp101_s n13 x12) ?_
    refine mw_iload_n cx (q := 102) 0 rfl rfl dX12_undo_101 rfl ?_
    refine mw_aload_n cx (q := 103) 1 rfl rfl dX12_undo_102 rfl ?_
    refine mw_get cx (q := 106) (v := .int (x12.2 0 0 11)) gf_X12_352 rfl rfl vi_12_0 dX12_undo_103 rfl ?_
    refine mw_icmp_ge cx (tgt := 122) (q := 109) dX12_undo_106 (by decide) rfl (fun h14 => ?_) (fun h14 => ?_)
    · exact mw_vret cx hr rfl dX12_undo_122
    · refine mw_aload_n cx (q := 110) 1 rfl rfl dX12_undo_109 rfl ?_
      refine mw_get cx (q := 113) (v := .ref (ad 12 17 0)) gf_X12_51 rfl rfl vi_12_0 dX12_undo_110 rfl ?_
      refine mw_iload_n cx (q := 114) 0 rfl rfl dX12_undo_113 rfl ?_
      refine mw_iconst cx (q := 115) (v := 4) dX12_undo_114 rfl rfl ?_
      refine mw_iastC cx (q := 116) (fun _ => rfl) (by decide) vi_12_17 (by have h1 := (ivx12_1).1.o1; have hz := h14; have h0 := ivx12_0; simp only [i32le] at hz; rw [vp_in_iff]; omega) (by decide) dX12_undo_115 rfl (fun m15 em15 => ?_)
      have ok16 : OkT (M 12) m15 := (by rw [em15]; exact okT_putA ivx12_1 (by decide))
      refine mw_bnd (fun v17 ev17 => ?_)
      refine mw_iinc cx (q := 119) (v := v17) (lv' := [(3, .int v17), (0, .ref (ad 12 0 0))]) 0 rfl (by rw [ev17]; rfl) rfl (by decide) dX12_undo_116 rfl ?_
      refine mw_goto cx (tgt := 101) dX12_undo_119 (by decide) ?_
      exact ih (v17, m15) ⟨(by have h1 := (ivx12_1).1.o1; have hz := h14; have h0 := ivx12_0; simp only [i32le] at hz; rw [ev17, inc_t h0 (by omega)]; omega), ok16⟩ (by have h1 := (ivx12_1).1.o1; have hz := h14; have h0 := ivx12_0; simp only [i32le] at hz; rw [ev17, inc_t h0 (by omega)]; omega)
  · refine mw_loop (F := f12_undo_lp0 p1 K2) (I := fun (x1 : Cm) => OkT (M 12) x1) (μ := fun (x1 : Cm) => ((x1 0 0 21).toInt - (p1).toInt).toNat) (Mx := fun (x1 : Cm) => (uW M 12 x1)) (px := 0) (lx := fun (x1 : Cm) => [(0, .ref (ad 12 0 0)), (1, .int p1), (2, .int p2)]) (fun n3 x1 ivx1 ih => ?_) (3002 + 0 * (p1).toInt.toNat) (M 12) ok0 (by have h0 := hok.m0; have h1 := hok.m1; omega)
    have ivx1_0 := ivx1
    refine mw_eqS (f12_undo_lp0_s p1 K2 n3 x1) ?_
    refine mw_aload_n cx (q := 1) 0 rfl rfl dX12_undo_0 rfl ?_
    refine mw_get cx (q := 4) (v := .int (x1 0 0 21)) gf_X12_346 rfl rfl vi_12_0 dX12_undo_1 rfl ?_
    refine mw_iload_n cx (q := 5) 1 rfl rfl dX12_undo_4 rfl ?_
    refine mw_icmp_le cx (tgt := 99) (q := 8) dX12_undo_5 (by decide) rfl (fun h4 => ?_) (fun h4 => ?_)
    · refine mw_sub [0, 2] rfl ?_
      exact hK2 x1 ivx1_0
    · refine mw_aload_n cx (q := 9) 0 rfl rfl dX12_undo_8 rfl ?_
      refine mw_dup cx (q := 10) dX12_undo_9 rfl rfl ?_
      refine mw_get cx (q := 13) (v := .int (x1 0 0 21)) gf_X12_346 rfl rfl vi_12_0 dX12_undo_10 rfl ?_
      refine mw_iconst cx (q := 14) (v := 1) dX12_undo_13 rfl rfl ?_
      refine mw_isub cx (q := 15) dX12_undo_14 rfl ?_
      refine mw_putC cx (q := 18) 21 gf_X12_346 pf_X12_21 (int_fit _) rfl (Nat.le_of_ble_eq_true rfl) rfl vi_12_0 (by decide) dX12_undo_15 rfl (fun m5 em5 => ?_)
      have ok6 : OkT (M 12) m5 := (by rw [em5]; exact okT_s21 ivx1_0 ⟨(dec_b hp1 (by assumption) (ivx1_0).1.m1).1, (dec_b hp1 (by assumption) (ivx1_0).1.m1).2.1⟩)
      have hdb : 0 ≤ ((x1 0 0 21) - 1).toInt ∧ ((x1 0 0 21) - 1).toInt ≤ 3000 ∧ ((x1 0 0 21) - 1).toInt = (x1 0 0 21).toInt - 1 := (dec_b hp1 (by assumption) (ivx1_0.1.m1))
      have hdv : vp_in ((x1 0 0 21) - 1) 3000 := (dec_v hp1 (by assumption) (ivx1_0.1.m1))
      refine mw_aload_n cx (q := 19) 0 rfl rfl dX12_undo_18 rfl ?_
      refine mw_get cx (q := 22) (v := .ref (ad 12 4 0)) gf_X12_16 rfl rfl vi_12_0 dX12_undo_19 rfl ?_
      refine mw_bipush cx (q := 24) (v := 8) dX12_undo_22 rfl rfl ?_
      refine mw_aload_n cx (q := 25) 0 rfl rfl dX12_undo_24 rfl ?_
      refine mw_get cx (q := 28) (v := .ref (ad 12 23 0)) gf_X12_66 rfl rfl vi_12_0 dX12_undo_25 rfl ?_
      refine mw_aload_n cx (q := 29) 0 rfl rfl dX12_undo_28 rfl ?_
      refine mw_get cx (q := 32) (v := .int ((x1 0 0 21) - 1)) gf_X12_346 rfl (by rw [em5]; rfl) vi_12_0 dX12_undo_29 rfl ?_
      refine mw_iald cx (q := 33) (w := (x1 23 0 ((x1 0 0 21) - 1))) (by rw [em5]; rfl) (fun _ => rfl) vi_12_23 hdv dX12_undo_32 rfl ?_
      refine mw_imul cx (q := 34) dX12_undo_33 rfl ?_
      refine mw_aload_n cx (q := 35) 0 rfl rfl dX12_undo_34 rfl ?_
      refine mw_get cx (q := 38) (v := .ref (ad 12 25 0)) gf_X12_72 rfl rfl vi_12_0 dX12_undo_35 rfl ?_
      refine mw_aload_n cx (q := 39) 0 rfl rfl dX12_undo_38 rfl ?_
      refine mw_get cx (q := 42) (v := .int ((x1 0 0 21) - 1)) gf_X12_346 rfl (by rw [em5]; rfl) vi_12_0 dX12_undo_39 rfl ?_
      refine mw_iald cx (q := 43) (w := (x1 25 0 ((x1 0 0 21) - 1))) (by rw [em5]; rfl) (fun _ => rfl) vi_12_25 hdv dX12_undo_42 rfl ?_
      refine mw_iadd cx (q := 44) dX12_undo_43 rfl ?_
      refine mw_dup2 cx (q := 45) dX12_undo_44 rfl rfl rfl ?_
      refine mw_iald cx (q := 46) (w := (x1 4 0 ((8 * (x1 23 0 ((x1 0 0 21) - 1))) + (x1 25 0 ((x1 0 0 21) - 1))))) (by rw [em5]; rfl) (fun _ => rfl) vi_12_4 (idx8_40 (ivx1_0.1.mF _ hdv) (ivx1_0.1.mG _ hdv)) dX12_undo_45 rfl ?_
      refine mw_aload_n cx (q := 47) 0 rfl rfl dX12_undo_46 rfl ?_
      refine mw_get cx (q := 50) (v := .ref (ad 12 26 0)) gf_X12_75 rfl rfl vi_12_0 dX12_undo_47 rfl ?_
      refine mw_aload_n cx (q := 51) 0 rfl rfl dX12_undo_50 rfl ?_
      refine mw_get cx (q := 54) (v := .int ((x1 0 0 21) - 1)) gf_X12_346 rfl (by rw [em5]; rfl) vi_12_0 dX12_undo_51 rfl ?_
      refine mw_iald cx (q := 55) (w := (x1 26 0 ((x1 0 0 21) - 1))) (by rw [em5]; rfl) (fun _ => rfl) vi_12_26 hdv dX12_undo_54 rfl ?_
      refine mw_iadd cx (q := 56) dX12_undo_55 rfl ?_
      refine mw_iastC cx (q := 57) (fun _ => rfl) (by decide) vi_12_4 (idx8_40 (ivx1_0.1.mF _ hdv) (ivx1_0.1.mG _ hdv)) (by decide) dX12_undo_56 rfl (fun m7 em7 => ?_)
      have ok8 : OkT (M 12) m7 := (by rw [em7]; exact okT_putA ok6 (by decide))
      refine mw_aload_n cx (q := 58) 0 rfl rfl dX12_undo_57 rfl ?_
      refine mw_get cx (q := 61) (v := .ref (ad 12 4 0)) gf_X12_16 rfl rfl vi_12_0 dX12_undo_58 rfl ?_
      refine mw_bipush cx (q := 63) (v := 8) dX12_undo_61 rfl rfl ?_
      refine mw_aload_n cx (q := 64) 0 rfl rfl dX12_undo_63 rfl ?_
      refine mw_get cx (q := 67) (v := .ref (ad 12 24 0)) gf_X12_69 rfl rfl vi_12_0 dX12_undo_64 rfl ?_
      refine mw_aload_n cx (q := 68) 0 rfl rfl dX12_undo_67 rfl ?_
      refine mw_get cx (q := 71) (v := .int ((x1 0 0 21) - 1)) gf_X12_346 rfl (by rw [em7, em5]; rfl) vi_12_0 dX12_undo_68 rfl ?_
      refine mw_iald cx (q := 72) (w := (x1 24 0 ((x1 0 0 21) - 1))) (by rw [em7, em5]; rfl) (fun _ => rfl) vi_12_24 hdv dX12_undo_71 rfl ?_
      refine mw_imul cx (q := 73) dX12_undo_72 rfl ?_
      refine mw_aload_n cx (q := 74) 0 rfl rfl dX12_undo_73 rfl ?_
      refine mw_get cx (q := 77) (v := .ref (ad 12 25 0)) gf_X12_72 rfl rfl vi_12_0 dX12_undo_74 rfl ?_
      refine mw_aload_n cx (q := 78) 0 rfl rfl dX12_undo_77 rfl ?_
      refine mw_get cx (q := 81) (v := .int ((x1 0 0 21) - 1)) gf_X12_346 rfl (by rw [em7, em5]; rfl) vi_12_0 dX12_undo_78 rfl ?_
      refine mw_iald cx (q := 82) (w := (x1 25 0 ((x1 0 0 21) - 1))) (by rw [em7, em5]; rfl) (fun _ => rfl) vi_12_25 hdv dX12_undo_81 rfl ?_
      refine mw_iadd cx (q := 83) dX12_undo_82 rfl ?_
      refine mw_dup2 cx (q := 84) dX12_undo_83 rfl rfl rfl ?_
      refine mw_iald cx (q := 85) (w := (m7 4 0 ((8 * (x1 24 0 ((x1 0 0 21) - 1))) + (x1 25 0 ((x1 0 0 21) - 1))))) rfl (fun _ => rfl) vi_12_4 (idx8_40 (ivx1_0.1.mT _ hdv) (ivx1_0.1.mG _ hdv)) dX12_undo_84 rfl ?_
      refine mw_aload_n cx (q := 86) 0 rfl rfl dX12_undo_85 rfl ?_
      refine mw_get cx (q := 89) (v := .ref (ad 12 26 0)) gf_X12_75 rfl rfl vi_12_0 dX12_undo_86 rfl ?_
      refine mw_aload_n cx (q := 90) 0 rfl rfl dX12_undo_89 rfl ?_
      refine mw_get cx (q := 93) (v := .int ((x1 0 0 21) - 1)) gf_X12_346 rfl (by rw [em7, em5]; rfl) vi_12_0 dX12_undo_90 rfl ?_
      refine mw_iald cx (q := 94) (w := (x1 26 0 ((x1 0 0 21) - 1))) (by rw [em7, em5]; rfl) (fun _ => rfl) vi_12_26 hdv dX12_undo_93 rfl ?_
      refine mw_isub cx (q := 95) dX12_undo_94 rfl ?_
      refine mw_iastC cx (q := 96) (fun _ => rfl) (by decide) vi_12_4 (idx8_40 (ivx1_0.1.mT _ hdv) (ivx1_0.1.mG _ hdv)) (by decide) dX12_undo_95 rfl (fun m9 em9 => ?_)
      have ok10 : OkT (M 12) m9 := (by rw [em9]; exact okT_putA ok8 (by decide))
      refine mw_goto cx (tgt := 0) dX12_undo_96 (by decide) ?_
      exact ih m9 ok10 (by have hz := h4; have hd9 := hdb.2.2; have hd8 := hdb.1; simp only [i32le] at hz; rw [em9, em7, em5]; show (((x1 0 0 21) - 1).toInt - (p1).toInt).toNat < ((x1 0 0 21).toInt - (p1).toInt).toNat; omega)
theorem okT_undo_lp101 {m0 : Cm} : ∀ (k : Nat) (x : Int32 × Cm), OkT m0 x.2 → OkT m0 (f12_undo_lp101 k x) := by
  intro k
  induction k with
  | zero => intro x h; exact h
  | succ k ih =>
    intro x h
    rw [f12_undo_lp101_s]
    split
    · exact h
    · exact bnd_I (P := OkT m0) (fun m1 e1 => bnd_I (P := OkT m0) (fun v _ => ih _ (by show OkT m0 m1; rw [e1]; exact okT_putA h (by decide))))
theorem okT_undo_lp0 {m0 : Cm} {a : Int32} {K : Cm → Cm} (ha : 0 ≤ a.toInt) (hK : ∀ y, OkT m0 y → OkT m0 (K y)) : ∀ (k : Nat) (x : Cm), OkT m0 x → OkT m0 (f12_undo_lp0 a K k x) := by
  intro k
  induction k with
  | zero => intro x h; exact h
  | succ k ih =>
    intro x h
    rw [f12_undo_lp0_s]
    by_cases c : x 0 0 21 ≤ a
    · rw [if_pos c]; exact hK _ h
    · rw [if_neg c]
      refine bnd_I (P := OkT m0) (fun m1 e1 => bnd_I (P := OkT m0) (fun m2 e2 => bnd_I (P := OkT m0) (fun m3 e3 => ih _ ?_)))
      rw [e3, e2, e1]
      exact okT_putA (okT_putA (okT_s21 h ⟨(dec_b ha c h.1.m1).1, (dec_b ha c h.1.m1).2.1⟩) (by decide)) (by decide)
theorem okT_f12_undo {m0 m : Cm} (h : OkT m0 m) (a b : Int32) (ha : 0 ≤ a.toInt) : OkT m0 (f12_undo m a b) := by
  unfold f12_undo
  exact jn_I' (Q := OkT m0) (P := OkT m0) (fun K hK => okT_undo_lp0 ha hK _ _ h) (fun y hy => okT_undo_lp101 _ _ hy)
theorem okT_f12_evaluate {m0 m : Cm} (h : OkT m0 m) (s i : Int32) (h2 : ∃ j e, Run12 j (ini12 m s i) e ∧ OkT m e) : OkT m0 (f12_evaluate m s i) := by
  obtain ⟨j, e, h3, h4⟩ := h2
  rw [evaluate_eq h3]
  exact ⟨h4.1, h4.2.1.trans h.2.1, h4.2.2.trans h.2.2⟩
/-- an order's run: where it begins, what it needs -/
def skp12 (m : Cm) (s : Int32) : Nat → Int32 → Int32
  | 0, n => n
  | k + 1, n => if n = -1 then -1 else skp12 m s k (f12_following m s n)
def run0 (m : Cm) (w : Int32) : Cm := u3 (u3 (u3 (u3 (u3 (u3 m 0 0 56 w) 0 0 57 (m 13 0 w)) 0 0 58 0) 0 0 50 0) 17 0 w 1) 18 0 w 0
def fin12 (e : Cm) (w : Int32) : Cm := u3 (u3 e 19 0 w (e 19 0 w + 1)) 20 0 w (e 0 0 62)
def LpOk (s w : Int32) : Nat → Cm → Int32 → Prop
  | 0, _, n => n = -1
  | k + 1, m, n => n = -1 ∨ ∃ j e, Run12 j (ini12 m s n) e ∧ OkT m e ∧ (e 0 0 63 = 0 → LpOk s w k (fin12 e w) (f12_following m s n))
def LpOk' (s w : Int32) (m : Cm) (n : Int32) : Prop := ∃ k, LpOk s w k m n
theorem LpOk'.none (s w : Int32) (m : Cm) : LpOk' s w m (-1) := ⟨0, rfl⟩
theorem LpOk'.next {s w n : Int32} {m : Cm} (h : LpOk' s w m n) (hn : ¬ n = -1) : (∃ j e, Run12 j (ini12 m s n) e ∧ OkT m e) ∧ ((f12_evaluate m s n) 0 0 63 = 0 → LpOk' s w (fin12 (f12_evaluate m s n) w) (f12_following m s n)) := by
  obtain ⟨k, h⟩ := h
  cases k with
  | zero => exact absurd h hn
  | succ k =>
    obtain ⟨j, e, h1, h2, h3⟩ := h.resolve_left hn
    refine ⟨⟨j, e, h1, h2⟩, ?_⟩
    rw [evaluate_eq h1]
    exact fun z => ⟨k, h3 z⟩
theorem skp12_none (m : Cm) (s : Int32) (k : Nat) : skp12 m s k (-1) = -1 := by
  cases k with
  | zero => rfl
  | succ k => rw [skp12, if_pos rfl]
/-- what an order's run needs -/
def RunOk (m : Cm) (w : Int32) : Prop := f12_faultOf m (m 14 0 w) = -1 → LpOk' (m 14 0 w) w (run0 m w) (skp12 m (m 14 0 w) (m 19 0 w).toInt.toNat (f12_nextAt m (m 14 0 w) 0))
theorem mu12_m1 {m : Cm} {s i : Int32} (hk : Ok12 m) (hs : vp_in s 8) (hI : Ix12 m s i) : mu12 (-1) < mu12 i := by
  have hL := (hk.len s hs).2
  have h0 := hI.1; have h1 := hI.2
  have hi : ¬ i = -1 := by intro z; rw [z] at h0; exact absurd h0 (by decide)
  unfold mu12
  rw [if_pos rfl, if_neg hi]; omega
theorem skp12_step {m : Cm} {s x k : Int32} {D : Int32} (h0 : 0 ≤ k.toInt) (h : ¬ D ≤ k) (hx : ¬ x = -1) : skp12 m s (D.toInt - (k + 1).toInt).toNat (f12_following m s x) = skp12 m s (D.toInt - k.toInt).toNat x := by
  simp only [i32le] at h
  have hD := (i32rng D).2
  have e : (D.toInt - k.toInt).toNat = (D.toInt - (k + 1).toInt).toNat + 1 := by rw [inc_t h0 (by omega)]; omega
  rw [e, skp12, if_neg hx]
theorem skp12_end {m : Cm} {s x k : Int32} {D : Int32} (h : D ≤ k ∨ x = -1) : skp12 m s (D.toInt - k.toInt).toNat x = x := by
  rcases h with h | h
  · simp only [i32le] at h
    have e : (D.toInt - k.toInt).toNat = 0 := by omega
    rw [e]; rfl
  · rw [h, skp12_none]
noncomputable def f12_run_lp96 (m : Cm) (p1 : Int32) (v1 : Int32) (m22 : Cm) (K29 : Int32 → Cm) : Nat → (Int32 × Int32) → Cm
  | 0, x28 => m22
  | n30 + 1, x28 => if (m 19 0 p1) ≤ x28.1 then K29 x28.2 else if x28.2 = (-1) then K29 x28.2 else bnd (f12_following m22 v1 x28.2) (fun (r33 : Int32) => bnd (x28.1 + 1) (fun (v34 : Int32) => f12_run_lp96 m p1 v1 m22 K29 n30 (v34, r33)))
theorem f12_run_lp96_s (m : Cm) (p1 : Int32) (v1 : Int32) (m22 : Cm) (K29 : Int32 → Cm) (n30 : Nat) (x28 : Int32 × Int32) : f12_run_lp96 m p1 v1 m22 K29 (n30 + 1) x28 = if (m 19 0 p1) ≤ x28.1 then K29 x28.2 else if x28.2 = (-1) then K29 x28.2 else bnd (f12_following m22 v1 x28.2) (fun (r33 : Int32) => bnd (x28.1 + 1) (fun (v34 : Int32) => f12_run_lp96 m p1 v1 m22 K29 n30 (v34, r33))) := rfl
noncomputable def f12_run_lp128 (p1 : Int32) (v1 : Int32) : Nat → (Int32 × Cm) → Cm
  | 0, x36 => x36.2
  | n37 + 1, x36 => if x36.1 = (-1) then x36.2 else bnd ((x36.2 0 0 21)) (fun (v39 : Int32) => bnd ((x36.2 0 0 11)) (fun (v40 : Int32) => bnd (f12_evaluate x36.2 v1 x36.1) (fun (r41 : Cm) => if (r41 0 0 63) = 0 then bnd (u3 r41 19 0 p1 ((r41 19 0 p1) + 1)) (fun (m56 : Cm) => bnd (u3 m56 20 0 p1 (r41 0 0 62)) (fun (m58 : Cm) => bnd (f12_following m58 v1 x36.1) (fun (r60 : Int32) => f12_run_lp128 p1 v1 n37 (r60, m58)))) else bnd (f12_undo r41 v39 v40) (fun (r44 : Cm) => jn (fun (v46 : Int32) => bnd (u3 r44 17 0 p1 v46) (fun (m49 : Cm) => jn (fun (v51 : Int32) => bnd (u3 m49 18 0 p1 v51) (fun (m54 : Cm) => f12_run_lp128 p1 v1 n37 ((-1), m54))) (fun K52 => if (r44 0 0 63) = 7 then K52 0 else K52 (r44 0 0 63)))) (fun K47 => if (r44 0 0 63) = 7 then K47 2 else K47 3)))))
theorem f12_run_lp128_s (p1 : Int32) (v1 : Int32) (n37 : Nat) (x36 : Int32 × Cm) : f12_run_lp128 p1 v1 (n37 + 1) x36 = if x36.1 = (-1) then x36.2 else bnd ((x36.2 0 0 21)) (fun (v39 : Int32) => bnd ((x36.2 0 0 11)) (fun (v40 : Int32) => bnd (f12_evaluate x36.2 v1 x36.1) (fun (r41 : Cm) => if (r41 0 0 63) = 0 then bnd (u3 r41 19 0 p1 ((r41 19 0 p1) + 1)) (fun (m56 : Cm) => bnd (u3 m56 20 0 p1 (r41 0 0 62)) (fun (m58 : Cm) => bnd (f12_following m58 v1 x36.1) (fun (r60 : Int32) => f12_run_lp128 p1 v1 n37 (r60, m58)))) else bnd (f12_undo r41 v39 v40) (fun (r44 : Cm) => jn (fun (v46 : Int32) => bnd (u3 r44 17 0 p1 v46) (fun (m49 : Cm) => jn (fun (v51 : Int32) => bnd (u3 m49 18 0 p1 v51) (fun (m54 : Cm) => f12_run_lp128 p1 v1 n37 ((-1), m54))) (fun K52 => if (r44 0 0 63) = 7 then K52 0 else K52 (r44 0 0 63)))) (fun K47 => if (r44 0 0 63) = 7 then K47 2 else K47 3))))) := rfl
noncomputable def f12_run (m : Cm) (p1 : Int32) : Cm := bnd ((m 14 0 p1)) (fun (v1 : Int32) => bnd (f12_faultOf m v1) (fun (r2 : Int32) => jn (fun (v3 : Bool) => bnd (u3 m 0 0 56 p1) (fun (m6 : Cm) => bnd (u3 m6 0 0 57 (m 13 0 p1)) (fun (m8 : Cm) => bnd (u3 m8 0 0 58 0) (fun (m10 : Cm) => bnd (u3 m10 0 0 50 0) (fun (m12 : Cm) => jn (fun (v14 : Int32) => bnd (u3 m12 17 0 p1 v14) (fun (m17 : Cm) => jn (fun (v19 : Bool) => bnd (u3 m17 18 0 p1 (b2i v19)) (fun (m22 : Cm) => jn (fun (v24 : Int32) => jn (fun (y35 : Int32) => f12_run_lp128 p1 v1 123 (y35, m22)) (fun K29 => f12_run_lp96 m p1 v1 m22 K29 123 (0, v24))) (fun K25 => if v3 = true then bnd (f12_nextAt m22 v1 0) (fun (r27 : Int32) => K25 r27) else K25 (-1)))) (fun K20 => if v3 = true then K20 false else K20 true))) (fun K15 => if v3 = true then K15 1 else K15 3)))))) (fun K4 => if r2 = (-1) then K4 true else K4 false)))
set_option maxHeartbeats 4000000 in
set_option maxRecDepth 100000 in
theorem mc_X12_run (l : Launch) (D : va_G) (ta : wTa) (ad : wAd) (M : Wm) (p1 : Int32) (hok : Ok12 (M 12)) (hp1 : vp_in p1 60) (hR : RunOk (M 12) p1) : MC l D ta ad yX12_run cX12_run 7 none 10 [.ref (ad 12 0 0), .int p1] M (fvc M 12 (f12_run (M 12) p1)) := by
  refine MC.of (fvc M 12) (f12_run (M 12) p1) rfl (by decide) (Nat.le_of_ble_eq_true rfl) (fun p e s m args below meth c cx hr => ?_)
  unfold f12_run
  refine mw_sub (lv' := [(0, .ref (ad 12 0 0)), (1, .int p1)]) [0, 1] rfl ?_
  refine mw_eqM (uW_self M 12) ?_
  have ok0 : OkT (M 12) (M 12) := ⟨hok, rfl, rfl⟩
  refine mw_aload_n cx (q := 1) 0 rfl rfl dX12_run_0 rfl ?_
  refine mw_get cx (q := 4) (v := .ref (ad 12 14 0)) gf_X12_42 rfl rfl vi_12_0 dX12_run_1 rfl ?_
  refine mw_iload_n cx (q := 5) 1 rfl rfl dX12_run_4 rfl ?_
  refine mw_iald cx (q := 6) (w := ((M 12) 14 0 p1)) rfl (fun _ => rfl) vi_12_14 hp1 dX12_run_5 rfl ?_
  refine mw_bndT (fun v1 ev1 => ?_)
  refine mw_istore_n cx (q := 7) (lv' := [(2, .int v1), (0, .ref (ad 12 0 0)), (1, .int p1)]) rfl rfl (by decide) dX12_run_6 rfl ?_
  have hsv : vp_in v1 8 := (by rw [ev1]; exact hok.oS _ hp1)
  have hRv : f12_faultOf (M 12) v1 = -1 → LpOk' v1 p1 (run0 (M 12) p1) (skp12 (M 12) v1 ((M 12) 19 0 p1).toInt.toNat (f12_nextAt (M 12) v1 0)) := (by rw [ev1]; exact hR)
  refine mw_aload_n cx (q := 8) 1 rfl rfl dX12_run_7 rfl ?_
  refine mw_iload_n cx (q := 9) 0 rfl rfl dX12_run_8 rfl ?_
  refine mw_bnd (fun r2 er2 => ?_)
  refine mw_callV cx (q := 12) (d := 3) (As := [.int v1]) (z := fip (uW M 12 (M 12)) r2) (st := []) (st1 := [.int r2]) (M' := (uW M 12 (M 12))) (by rw [er2]; exact mc_X12_faultOf l D ta ad (uW M 12 (M 12)) v1 (ok0.1) hsv) cv_X12_191 rfl rfl rfl vi_12_0 ⟨Nat.le_of_ble_eq_true rfl, Nat.le_of_ble_eq_true rfl⟩ ⟨Nat.le_refl _, Nat.le_refl _⟩ (by simp [Value.category]) rfl rfl rfl dX12_run_9 rfl ?_
  have qr20 : r2 = (-1) → Tx12 (M 12) v1 := (fun hq => faultOf_T (ok0.1) hsv (er2.symm.trans hq))
  have hft : r2 = -1 → f12_faultOf (M 12) v1 = -1 := (fun hq => er2.symm.trans hq)
  refine mw_iconst cx (q := 13) (v := (-1)) dX12_run_12 rfl rfl ?_
  refine mw_jnP (P := fun (v3 : Bool) => (v3 = true → Tx12 (M 12) v1) ∧ (v3 = true → f12_faultOf (M 12) v1 = -1)) (Mj := fun (v3 : Bool) => (uW M 12 (M 12))) (pj := 21) (lj := fun (v3 : Bool) => [(0, .ref (ad 12 0 0)), (1, .int p1), (2, .int v1)]) (sj := fun (v3 : Bool) => [.int (b2i v3)]) (fun v3 jv3 => ?_) (fun K4 hK4 => ?_)
  · obtain ⟨jv3_0, jv3_1⟩ := jv3
    refine mw_istore_n cx (q := 22) (lv' := [(3, .int (b2i v3)), (0, .ref (ad 12 0 0)), (1, .int p1), (2, .int v1)]) rfl rfl (by decide) dX12_run_21 rfl ?_
    refine mw_aload_n cx (q := 23) 1 rfl rfl dX12_run_22 rfl ?_
    refine mw_iload_n cx (q := 24) 2 rfl rfl dX12_run_23 rfl ?_
    refine mw_putC cx (q := 27) 56 gf_X12_220 pf_X12_56 (int_fit _) rfl (Nat.le_of_ble_eq_true rfl) rfl vi_12_0 (by decide) dX12_run_24 rfl (fun m6 em6 => ?_)
    have ok7 : OkT (M 12) m6 := (by rw [em6]; exact okT_s56 ok0 hp1)
    refine mw_aload_n cx (q := 28) 1 rfl rfl dX12_run_27 rfl ?_
    refine mw_aload_n cx (q := 29) 1 rfl rfl dX12_run_28 rfl ?_
    refine mw_get cx (q := 32) (v := .ref (ad 12 13 0)) gf_X12_39 rfl rfl vi_12_0 dX12_run_29 rfl ?_
    refine mw_iload_n cx (q := 33) 2 rfl rfl dX12_run_32 rfl ?_
    refine mw_iald cx (q := 34) (w := ((M 12) 13 0 p1)) (by rw [em6]; rfl) (fun _ => rfl) vi_12_13 hp1 dX12_run_33 rfl ?_
    refine mw_putC cx (q := 37) 57 gf_X12_223 pf_X12_57 (int_fit _) rfl (Nat.le_of_ble_eq_true rfl) rfl vi_12_0 (by decide) dX12_run_34 rfl (fun m8 em8 => ?_)
    have ok9 : OkT (M 12) m8 := (by rw [em8]; exact okT_s57 ok7 (ok0.1.oC _ hp1))
    refine mw_aload_n cx (q := 38) 1 rfl rfl dX12_run_37 rfl ?_
    refine mw_iconst cx (q := 39) (v := 0) dX12_run_38 rfl rfl ?_
    refine mw_putC cx (q := 42) 58 gf_X12_217 pf_X12_58 (int_fit _) rfl (Nat.le_of_ble_eq_true rfl) rfl vi_12_0 (by decide) dX12_run_39 rfl (fun m10 em10 => ?_)
    have ok11 : OkT (M 12) m10 := (by rw [em10]; exact okT_put0 ok9 (by decide))
    refine mw_aload_n cx (q := 43) 1 rfl rfl dX12_run_42 rfl ?_
    refine mw_iconst cx (q := 44) (v := 0) dX12_run_43 rfl rfl ?_
    refine mw_putC cx (q := 47) 50 gf_X12_214 pf_X12_50 (int_fit _) rfl (Nat.le_of_ble_eq_true rfl) rfl vi_12_0 (by decide) dX12_run_44 rfl (fun m12 em12 => ?_)
    have ok13 : OkT (M 12) m12 := (by rw [em12]; exact okT_s50 ok11 (by decide))
    refine mw_aload_n cx (q := 48) 1 rfl rfl dX12_run_47 rfl ?_
    refine mw_get cx (q := 51) (v := .ref (ad 12 17 0)) gf_X12_51 rfl rfl vi_12_0 dX12_run_48 rfl ?_
    refine mw_iload_n cx (q := 52) 2 rfl rfl dX12_run_51 rfl ?_
    refine mw_iload_n cx (q := 53) 0 rfl rfl dX12_run_52 rfl ?_
    refine mw_jnP (P := fun (v14 : Int32) => (v3 = true → v14 = 1)) (Mj := fun (v14 : Int32) => (uW M 12 m12)) (pj := 61) (lj := fun (v14 : Int32) => [(0, .ref (ad 12 0 0)), (1, .int p1), (2, .int v1), (3, .int (b2i v3))]) (sj := fun (v14 : Int32) => [.int v14, .int p1, .ref (ad 12 17 0)]) (fun v14 jv14 => ?_) (fun K15 hK15 => ?_)
    · have jv14_0 := jv14
      refine mw_iastC cx (q := 62) (fun _ => rfl) (by decide) vi_12_17 hp1 (by decide) dX12_run_61 rfl (fun m17 em17 => ?_)
      have ok18 : OkT (M 12) m17 := (by rw [em17]; exact okT_putA ok13 (by decide))
      have hv1 : v3 = true → v14 = 1 := (by assumption)
      refine mw_aload_n cx (q := 63) 0 rfl rfl dX12_run_62 rfl ?_
      refine mw_get cx (q := 66) (v := .ref (ad 12 18 0)) gf_X12_54 rfl rfl vi_12_0 dX12_run_63 rfl ?_
      refine mw_iload_n cx (q := 67) 1 rfl rfl dX12_run_66 rfl ?_
      refine mw_iload_n cx (q := 68) 3 rfl rfl dX12_run_67 rfl ?_
      refine mw_jnP (P := fun (v19 : Bool) => (v3 = true → (b2i v19) = 0)) (Mj := fun (v19 : Bool) => (uW M 12 m17)) (pj := 76) (lj := fun (v19 : Bool) => [(0, .ref (ad 12 0 0)), (1, .int p1), (2, .int v1), (3, .int (b2i v3))]) (sj := fun (v19 : Bool) => [.int (b2i v19), .int p1, .ref (ad 12 18 0)]) (fun v19 jv19 => ?_) (fun K20 hK20 => ?_)
      · have jv19_0 := jv19
        refine mw_iastC cx (q := 77) (fun _ => rfl) (by decide) vi_12_18 hp1 (by decide) dX12_run_76 rfl (fun m22 em22 => ?_)
        have ok23 : OkT (M 12) m22 := (by rw [em22]; exact okT_putA ok18 (by decide))
        have hv2 : v3 = true → (b2i v19) = 0 := (by assumption)
        refine mw_iload_n cx (q := 78) 3 rfl rfl dX12_run_77 rfl ?_
        refine mw_jnP (P := fun (v24 : Int32) => (Nx12 (M 12) v1 v24) ∧ (v24 = (-1) ∨ m22 = run0 (M 12) p1 ∧ v24 = f12_nextAt (M 12) v1 0 ∧ f12_faultOf (M 12) v1 = -1 ∧ Tx12 (M 12) v1)) (Mj := fun (v24 : Int32) => (uW M 12 m22)) (pj := 91) (lj := fun (v24 : Int32) => [(0, .ref (ad 12 0 0)), (1, .int p1), (2, .int v1)]) (sj := fun (v24 : Int32) => [.int v24]) (fun v24 jv24 => ?_) (fun K25 hK25 => ?_)
        · obtain ⟨jv24_0, jv24_1⟩ := jv24
          refine mw_istore cx (q := 93) (lv' := [(4, .int v24), (0, .ref (ad 12 0 0)), (1, .int p1), (2, .int v1)]) rfl (by decide) dX12_run_91 rfl ?_
          have hfst : v24 = (-1) ∨ m22 = run0 (M 12) p1 ∧ v24 = f12_nextAt (M 12) v1 0 ∧ f12_faultOf (M 12) v1 = -1 ∧ Tx12 (M 12) v1 := (by assumption)
          refine mw_iconst cx (q := 94) (v := 0) dX12_run_93 rfl rfl ?_
          refine mw_istore cx (q := 96) (lv' := [(5, .int 0), (4, .int v24), (0, .ref (ad 12 0 0)), (1, .int p1), (2, .int v1)]) rfl (by decide) dX12_run_94 rfl ?_
          refine mw_jnP (P := fun (y35 : Int32) => (Nx12 (M 12) v1 y35) ∧ (¬ y35 = (-1) → Tx12 (M 12) v1) ∧ (y35 = skp12 (M 12) v1 ((M 12) 19 0 p1).toInt.toNat v24)) (Mj := fun (y35 : Int32) => (uW M 12 m22)) (pj := 128) (lj := fun (y35 : Int32) => [(4, .int y35), (0, .ref (ad 12 0 0)), (1, .int p1), (2, .int v1)]) (sj := fun (y35 : Int32) => []) (fun y35 jy35 => ?_) (fun K29 hK29 => ?_)
          · obtain ⟨jy35_0, jy35_1, jy35_2⟩ := jy35
            refine mw_loop (F := f12_run_lp128 p1 v1) (I := fun (x36 : Int32 × Cm) => (Nx12 (M 12) v1 x36.1) ∧ (¬ x36.1 = (-1) → Tx12 (M 12) v1) ∧ (LpOk' v1 p1 x36.2 x36.1) ∧ (OkT (M 12) x36.2)) (μ := fun (x36 : Int32 × Cm) => mu12 (x36.1)) (Mx := fun (x36 : Int32 × Cm) => (uW M 12 x36.2)) (px := 128) (lx := fun (x36 : Int32 × Cm) => [(4, .int x36.1), (0, .ref (ad 12 0 0)), (1, .int p1), (2, .int v1)]) (fun n37 x36 ivx36 ih => ?_) 123 (y35, m22) ⟨jy35_0, jy35_1, (by have hp := (by assumption : y35 = skp12 _ _ _ _); dsimp only; rw [hp]; exact hfst.elim (fun z => by rw [z, skp12_none]; exact LpOk'.none _ _ _) (fun z => by rw [z.1, z.2.1]; exact hRv z.2.2.1)), ok23⟩ (mu12_le (m := (M 12)) (s := v1) (by assumption))
            obtain ⟨ivx36_0, ivx36_1, ivx36_2, ivx36_3⟩ := ivx36
            refine mw_eqS (f12_run_lp128_s p1 v1 n37 x36) ?_
            refine mw_iload cx (q := 130) 0 rfl dX12_run_128 rfl ?_
            refine mw_iconst cx (q := 131) (v := (-1)) dX12_run_130 rfl rfl ?_
            refine mw_icmp_eq cx (tgt := 249) (q := 134) dX12_run_131 (by decide) rfl (fun h38 => ?_) (fun h38 => ?_)
            · exact mw_vret cx hr rfl dX12_run_249
            · refine mw_aload_n cx (q := 135) 1 rfl rfl dX12_run_134 rfl ?_
              refine mw_get cx (q := 138) (v := .int (x36.2 0 0 21)) gf_X12_346 rfl rfl vi_12_0 dX12_run_135 rfl ?_
              refine mw_bndT (fun v39 ev39 => ?_)
              refine mw_istore cx (q := 140) (lv' := [(5, .int v39), (4, .int x36.1), (0, .ref (ad 12 0 0)), (1, .int p1), (2, .int v1)]) rfl (by decide) dX12_run_138 rfl ?_
              have hmk : 0 ≤ (v39).toInt := (by rw [ev39]; exact (ivx36_3.1.m0))
              refine mw_aload_n cx (q := 141) 2 rfl rfl dX12_run_140 rfl ?_
              refine mw_get cx (q := 144) (v := .int (x36.2 0 0 11)) gf_X12_352 rfl rfl vi_12_0 dX12_run_141 rfl ?_
              refine mw_bndT (fun v40 ev40 => ?_)
              refine mw_istore cx (q := 146) (lv' := [(6, .int v40), (5, .int v39), (4, .int x36.1), (0, .ref (ad 12 0 0)), (1, .int p1), (2, .int v1)]) rfl (by decide) dX12_run_144 rfl ?_
              have hmo : 0 ≤ (v40).toInt := (by rw [ev40]; exact (ivx36_3.1.o0))
              refine mw_aload_n cx (q := 147) 3 rfl rfl dX12_run_146 rfl ?_
              refine mw_iload_n cx (q := 148) 5 rfl rfl dX12_run_147 rfl ?_
              refine mw_iload cx (q := 150) 2 rfl dX12_run_148 rfl ?_
              refine mw_bnd (fun r41 er41 => ?_)
              refine mw_callV cx (q := 153) (d := 9) (As := [.int v1, .int x36.1]) (z := fvc (uW M 12 x36.2) 12 r41) (st := []) (st1 := []) (M' := uW M 12 r41) (by rw [er41]; exact mc_X12_evaluate l D ta ad (uW M 12 x36.2) v1 x36.1 (by obtain ⟨j9, e9, h9, _⟩ := (ivx36_2.next (by assumption)).1; exact ⟨j9, e9, h9⟩)) cv_X12_362 rfl rfl rfl vi_12_0 ⟨Nat.le_of_ble_eq_true rfl, Nat.le_of_ble_eq_true rfl⟩ ⟨Nat.le_refl _, Nat.le_refl _⟩ (by simp [Value.category]) rfl rfl (by exact uW_uW _ _ _ _) dX12_run_150 rfl ?_
              have ok42 : OkT (M 12) r41 := (by rw [er41]; exact okT_f12_evaluate ivx36_3 v1 x36.1 (ivx36_2.next (by assumption)).1)
              have hev : r41 = f12_evaluate x36.2 v1 x36.1 := er41
              refine mw_aload_n cx (q := 154) 3 rfl rfl dX12_run_153 rfl ?_
              refine mw_get cx (q := 157) (v := .int (r41 0 0 63)) gf_X12_257 rfl rfl vi_12_0 dX12_run_154 rfl ?_
              refine mw_if_ne cx (tgt := 192) (q := 160) dX12_run_157 (by decide) rfl (fun h43 => ?_) (fun h43 => ?_)
              · refine mw_aload_n cx (q := 193) 3 rfl rfl dX12_run_192 rfl ?_
                refine mw_iload cx (q := 195) 1 rfl dX12_run_193 rfl ?_
                refine mw_iload cx (q := 197) 0 rfl dX12_run_195 rfl ?_
                refine mw_bnd (fun r44 er44 => ?_)
                refine mw_callV cx (q := 200) (d := 0) (As := [.int v39, .int v40]) (z := fvc (uW M 12 r41) 12 r44) (st := []) (st1 := []) (M' := uW M 12 r44) (by rw [er44]; exact mc_X12_undo l D ta ad (uW M 12 r41) v39 v40 (ok42.1) hmk hmo) cv_X12_365 rfl rfl rfl vi_12_0 ⟨Nat.le_of_ble_eq_true rfl, Nat.le_of_ble_eq_true rfl⟩ ⟨Nat.le_refl _, Nat.le_refl _⟩ (by simp [Value.category]) rfl rfl (by exact uW_uW _ _ _ _) dX12_run_197 rfl ?_
                have ok45 : OkT (M 12) r44 := (by rw [er44]; exact okT_f12_undo ok42 v39 v40 hmk)
                refine mw_aload_n cx (q := 201) 3 rfl rfl dX12_run_200 rfl ?_
                refine mw_get cx (q := 204) (v := .ref (ad 12 17 0)) gf_X12_51 rfl rfl vi_12_0 dX12_run_201 rfl ?_
                refine mw_iload_n cx (q := 205) 4 rfl rfl dX12_run_204 rfl ?_
                refine mw_aload_n cx (q := 206) 3 rfl rfl dX12_run_205 rfl ?_
                refine mw_get cx (q := 209) (v := .int (r44 0 0 63)) gf_X12_257 rfl rfl vi_12_0 dX12_run_206 rfl ?_
                refine mw_bipush cx (q := 211) (v := 7) dX12_run_209 rfl rfl ?_
                refine mw_jn (Mj := fun (v46 : Int32) => (uW M 12 r44)) (pj := 219) (lj := fun (v46 : Int32) => [(0, .ref (ad 12 0 0)), (1, .int p1), (2, .int v1)]) (sj := fun (v46 : Int32) => [.int v46, .int p1, .ref (ad 12 17 0)]) (fun v46 => ?_) (fun K47 hK47 => ?_)
                · refine mw_iastC cx (q := 220) (fun _ => rfl) (by decide) vi_12_17 hp1 (by decide) dX12_run_219 rfl (fun m49 em49 => ?_)
                  have ok50 : OkT (M 12) m49 := (by rw [em49]; exact okT_putA ok45 (by decide))
                  refine mw_aload_n cx (q := 221) 0 rfl rfl dX12_run_220 rfl ?_
                  refine mw_get cx (q := 224) (v := .ref (ad 12 18 0)) gf_X12_54 rfl rfl vi_12_0 dX12_run_221 rfl ?_
                  refine mw_iload_n cx (q := 225) 1 rfl rfl dX12_run_224 rfl ?_
                  refine mw_aload_n cx (q := 226) 0 rfl rfl dX12_run_225 rfl ?_
                  refine mw_get cx (q := 229) (v := .int (r44 0 0 63)) gf_X12_257 rfl (by rw [em49]; rfl) vi_12_0 dX12_run_226 rfl ?_
                  refine mw_bipush cx (q := 231) (v := 7) dX12_run_229 rfl rfl ?_
                  refine mw_jn (Mj := fun (v51 : Int32) => (uW M 12 m49)) (pj := 242) (lj := fun (v51 : Int32) => [(0, .ref (ad 12 0 0)), (1, .int p1), (2, .int v1)]) (sj := fun (v51 : Int32) => [.int v51, .int p1, .ref (ad 12 18 0)]) (fun v51 => ?_) (fun K52 hK52 => ?_)
                  · refine mw_iastC cx (q := 243) (fun _ => rfl) (by decide) vi_12_18 hp1 (by decide) dX12_run_242 rfl (fun m54 em54 => ?_)
                    have ok55 : OkT (M 12) m54 := (by rw [em54]; exact okT_putA ok50 (by decide))
                    refine mw_iconst cx (q := 244) (v := (-1)) dX12_run_243 rfl rfl ?_
                    refine mw_istore cx (q := 246) (lv' := [(4, .int (-1)), (0, .ref (ad 12 0 0)), (1, .int p1), (2, .int v1)]) rfl (by decide) dX12_run_244 rfl ?_
                    refine mw_goto cx (tgt := 128) dX12_run_246 (by decide) ?_
                    exact ih ((-1), m54) ⟨(by first | exact Or.inl rfl | (rw [er44, following_fr ok55.2]; exact following_n hok hsv (ivx36_1 (by assumption)) (ivx36_0.resolve_left (by assumption)))), (fun _ => ivx36_1 (by assumption)), (by first | exact LpOk'.none _ _ _ | (have h9 := (ivx36_2.next (by assumption)).2 (by rw [← hev]; assumption); rw [← hev, following_fr ivx36_3.2] at h9; dsimp only; rw [er44, following_fr ok55.2, em54, em49]; exact h9)), ok55⟩ (by first | exact mu12_m1 hok hsv (ivx36_0.resolve_left (by assumption)) | (rw [er44, following_fr ok55.2]; exact mu12_lt hok hsv (ivx36_1 (by assumption)) (ivx36_0.resolve_left (by assumption))))
                  · refine mw_icmp_ne cx (tgt := 238) (q := 234) dX12_run_231 (by decide) rfl (fun h53 => ?_) (fun h53 => ?_)
                    · refine mw_aload_n cx (q := 239) 0 rfl rfl dX12_run_238 rfl ?_
                      refine mw_get cx (q := 242) (v := .int (r44 0 0 63)) gf_X12_257 rfl (by rw [em49]; rfl) vi_12_0 dX12_run_239 rfl ?_
                      exact hK52 (r44 0 0 63)
                    · refine mw_iconst cx (q := 235) (v := 0) dX12_run_234 rfl rfl ?_
                      refine mw_goto cx (tgt := 242) dX12_run_235 (by decide) ?_
                      exact hK52 0
                · refine mw_icmp_ne cx (tgt := 218) (q := 214) dX12_run_211 (by decide) rfl (fun h48 => ?_) (fun h48 => ?_)
                  · refine mw_iconst cx (q := 219) (v := 3) dX12_run_218 rfl rfl ?_
                    refine mw_sub [3, 4, 5] rfl ?_
                    exact hK47 3
                  · refine mw_iconst cx (q := 215) (v := 2) dX12_run_214 rfl rfl ?_
                    refine mw_goto cx (tgt := 219) dX12_run_215 (by decide) ?_
                    refine mw_sub [3, 4, 5] rfl ?_
                    exact hK47 2
              · refine mw_aload_n cx (q := 161) 3 rfl rfl dX12_run_160 rfl ?_
                refine mw_get cx (q := 164) (v := .ref (ad 12 19 0)) gf_X12_57 rfl rfl vi_12_0 dX12_run_161 rfl ?_
                refine mw_iload_n cx (q := 165) 4 rfl rfl dX12_run_164 rfl ?_
                refine mw_dup2 cx (q := 166) dX12_run_165 rfl rfl rfl ?_
                refine mw_iald cx (q := 167) (w := (r41 19 0 p1)) rfl (fun _ => rfl) vi_12_19 hp1 dX12_run_166 rfl ?_
                refine mw_iconst cx (q := 168) (v := 1) dX12_run_167 rfl rfl ?_
                refine mw_iadd cx (q := 169) dX12_run_168 rfl ?_
                refine mw_iastC cx (q := 170) (fun _ => rfl) (by decide) vi_12_19 hp1 (by decide) dX12_run_169 rfl (fun m56 em56 => ?_)
                have ok57 : OkT (M 12) m56 := (by rw [em56]; exact okT_putA ok42 (by decide))
                refine mw_aload_n cx (q := 171) 3 rfl rfl dX12_run_170 rfl ?_
                refine mw_get cx (q := 174) (v := .ref (ad 12 20 0)) gf_X12_60 rfl rfl vi_12_0 dX12_run_171 rfl ?_
                refine mw_iload_n cx (q := 175) 4 rfl rfl dX12_run_174 rfl ?_
                refine mw_aload_n cx (q := 176) 3 rfl rfl dX12_run_175 rfl ?_
                refine mw_get cx (q := 179) (v := .int (r41 0 0 62)) gf_X12_232 rfl (by rw [em56]; rfl) vi_12_0 dX12_run_176 rfl ?_
                refine mw_iastC cx (q := 180) (fun _ => rfl) (by decide) vi_12_20 hp1 (by decide) dX12_run_179 rfl (fun m58 em58 => ?_)
                have ok59 : OkT (M 12) m58 := (by rw [em58]; exact okT_putA ok57 (by decide))
                refine mw_aload_n cx (q := 181) 3 rfl rfl dX12_run_180 rfl ?_
                refine mw_iload_n cx (q := 182) 5 rfl rfl dX12_run_181 rfl ?_
                refine mw_iload cx (q := 184) 2 rfl dX12_run_182 rfl ?_
                refine mw_bnd (fun r60 er60 => ?_)
                refine mw_callV cx (q := 187) (d := 3) (As := [.int v1, .int x36.1]) (z := fip (uW M 12 m58) r60) (st := []) (st1 := [.int r60]) (M' := (uW M 12 m58)) (by rw [er60]; exact mc_X12_following l D ta ad (uW M 12 m58) v1 x36.1 (ok59.1) hsv (Tx12.fr ok59.2 (ivx36_1 h38)) (Ix12.fr ok59.2 (ivx36_0.resolve_left h38))) cv_X12_201 rfl rfl rfl vi_12_0 ⟨Nat.le_of_ble_eq_true rfl, Nat.le_of_ble_eq_true rfl⟩ ⟨Nat.le_refl _, Nat.le_refl _⟩ (by simp [Value.category]) rfl rfl rfl dX12_run_184 rfl ?_
                have qr600 : Nx12 m58 v1 r60 := (by rw [er60]; exact following_n (ok59.1) hsv (Tx12.fr ok59.2 (ivx36_1 h38)) (Ix12.fr ok59.2 (ivx36_0.resolve_left h38)))
                refine mw_istore cx (q := 189) (lv' := [(4, .int r60), (6, .int v40), (5, .int v39), (0, .ref (ad 12 0 0)), (1, .int p1), (2, .int v1)]) rfl (by decide) dX12_run_187 rfl ?_
                refine mw_goto cx (tgt := 246) dX12_run_189 (by decide) ?_
                refine mw_goto cx (tgt := 128) dX12_run_246 (by decide) ?_
                refine mw_sub [0, 3, 4, 5] rfl ?_
                exact ih (r60, m58) ⟨(by first | exact Or.inl rfl | (rw [er60, following_fr ok59.2]; exact following_n hok hsv (ivx36_1 (by assumption)) (ivx36_0.resolve_left (by assumption)))), (fun _ => ivx36_1 (by assumption)), (by first | exact LpOk'.none _ _ _ | (have h9 := (ivx36_2.next (by assumption)).2 (by rw [← hev]; assumption); rw [← hev, following_fr ivx36_3.2] at h9; dsimp only; rw [er60, following_fr ok59.2, em58, em56]; exact h9)), ok59⟩ (by first | exact mu12_m1 hok hsv (ivx36_0.resolve_left (by assumption)) | (rw [er60, following_fr ok59.2]; exact mu12_lt hok hsv (ivx36_1 (by assumption)) (ivx36_0.resolve_left (by assumption))))
          · refine mw_loop (F := f12_run_lp96 (M 12) p1 v1 m22 K29) (I := fun (x28 : Int32 × Int32) => (Nx12 (M 12) v1 x28.2) ∧ (0 ≤ (x28.1).toInt) ∧ (¬ x28.2 = (-1) → Tx12 (M 12) v1) ∧ (skp12 (M 12) v1 (((M 12) 19 0 p1).toInt - (x28.1).toInt).toNat x28.2 = skp12 (M 12) v1 ((M 12) 19 0 p1).toInt.toNat v24)) (μ := fun (x28 : Int32 × Int32) => mu12 (x28.2)) (Mx := fun (x28 : Int32 × Int32) => (uW M 12 m22)) (px := 96) (lx := fun (x28 : Int32 × Int32) => [(5, .int x28.1), (4, .int x28.2), (0, .ref (ad 12 0 0)), (1, .int p1), (2, .int v1)]) (fun n30 x28 ivx28 ih => ?_) 123 (0, v24) ⟨jv24_0, (by (try simp only [vp_in_iff, i32lt, i32le, i32eq, i32add, i32sub, i32mul, i32neg, t32_0]); omega), (fun hz => (hfst.resolve_left hz).2.2.2), (by rw [t32_0, Int.sub_zero])⟩ (mu12_le (m := (M 12)) (s := v1) (by assumption))
            obtain ⟨ivx28_0, ivx28_1, ivx28_2, ivx28_3⟩ := ivx28
            refine mw_eqS (f12_run_lp96_s (M 12) p1 v1 m22 K29 n30 x28) ?_
            refine mw_iload cx (q := 98) 0 rfl dX12_run_96 rfl ?_
            refine mw_aload_n cx (q := 99) 2 rfl rfl dX12_run_98 rfl ?_
            refine mw_get cx (q := 102) (v := .ref (ad 12 19 0)) gf_X12_57 rfl rfl vi_12_0 dX12_run_99 rfl ?_
            refine mw_iload_n cx (q := 103) 3 rfl rfl dX12_run_102 rfl ?_
            refine mw_iald cx (q := 104) (w := ((M 12) 19 0 p1)) (by rw [em22, em17, em12, em10, em8, em6]; rfl) (fun _ => rfl) vi_12_19 hp1 dX12_run_103 rfl ?_
            refine mw_icmp_ge cx (tgt := 128) (q := 107) dX12_run_104 (by decide) rfl (fun h31 => ?_) (fun h31 => ?_)
            · refine mw_sub [1, 2, 3, 4] rfl ?_
              exact hK29 x28.2 ⟨ivx28_0, ivx28_2, (by rw [← ivx28_3]; exact (skp12_end (by first | exact Or.inl (by assumption) | exact Or.inr (by assumption))).symm)⟩
            · refine mw_iload cx (q := 109) 1 rfl dX12_run_107 rfl ?_
              refine mw_iconst cx (q := 110) (v := (-1)) dX12_run_109 rfl rfl ?_
              refine mw_icmp_eq cx (tgt := 128) (q := 113) dX12_run_110 (by decide) rfl (fun h32 => ?_) (fun h32 => ?_)
              · refine mw_sub [1, 2, 3, 4] rfl ?_
                exact hK29 x28.2 ⟨ivx28_0, ivx28_2, (by rw [← ivx28_3]; exact (skp12_end (by first | exact Or.inl (by assumption) | exact Or.inr (by assumption))).symm)⟩
              · refine mw_aload_n cx (q := 114) 2 rfl rfl dX12_run_113 rfl ?_
                refine mw_iload_n cx (q := 115) 4 rfl rfl dX12_run_114 rfl ?_
                refine mw_iload cx (q := 117) 1 rfl dX12_run_115 rfl ?_
                refine mw_bnd (fun r33 er33 => ?_)
                refine mw_callV cx (q := 120) (d := 3) (As := [.int v1, .int x28.2]) (z := fip (uW M 12 m22) r33) (st := []) (st1 := [.int r33]) (M' := (uW M 12 m22)) (by rw [er33]; exact mc_X12_following l D ta ad (uW M 12 m22) v1 x28.2 (ok23.1) hsv (Tx12.fr ok23.2 (ivx28_2 h32)) (Ix12.fr ok23.2 (ivx28_0.resolve_left h32))) cv_X12_201 rfl rfl rfl vi_12_0 ⟨Nat.le_of_ble_eq_true rfl, Nat.le_of_ble_eq_true rfl⟩ ⟨Nat.le_refl _, Nat.le_refl _⟩ (by simp [Value.category]) rfl rfl rfl dX12_run_117 rfl ?_
                have qr330 : Nx12 m22 v1 r33 := (by rw [er33]; exact following_n (ok23.1) hsv (Tx12.fr ok23.2 (ivx28_2 h32)) (Ix12.fr ok23.2 (ivx28_0.resolve_left h32)))
                refine mw_istore cx (q := 122) (lv' := [(4, .int r33), (5, .int x28.1), (0, .ref (ad 12 0 0)), (1, .int p1), (2, .int v1)]) rfl (by decide) dX12_run_120 rfl ?_
                refine mw_bnd (fun v34 ev34 => ?_)
                refine mw_iinc cx (q := 125) (v := v34) (lv' := [(5, .int v34), (4, .int r33), (0, .ref (ad 12 0 0)), (1, .int p1), (2, .int v1)]) 1 rfl (by rw [ev34]; rfl) rfl (by decide) dX12_run_122 rfl ?_
                refine mw_goto cx (tgt := 96) dX12_run_125 (by decide) ?_
                exact ih (v34, r33) ⟨(by rw [er33, following_fr ok23.2]; exact following_n hok hsv (ivx28_2 (by assumption)) (ivx28_0.resolve_left (by assumption))), (by have hz := h31; have h0 := ivx28_1; have hD := i32rng ((M 12) 19 0 p1); simp only [i32le] at hz; rw [ev34, inc_t h0 (by omega)]; omega), (fun _ => ivx28_2 (by assumption)), (by rw [ev34, er33, following_fr ok23.2, skp12_step ivx28_1 (by assumption) (by assumption)]; exact ivx28_3)⟩ (by rw [er33, following_fr ok23.2]; exact mu12_lt hok hsv (ivx28_2 (by assumption)) (ivx28_0.resolve_left (by assumption)))
        · refine mw_ifb_eq cx (tgt := 90) (q := 81) dX12_run_78 (by decide) rfl (fun h26 => ?_) (fun h26 => ?_)
          · refine mw_iconst cx (q := 91) (v := (-1)) dX12_run_90 rfl rfl ?_
            refine mw_sub [0, 1, 2] rfl ?_
            exact hK25 (-1) ⟨(Or.inl rfl), (by first | exact Or.inl rfl | exact Or.inr ⟨by rw [em22, em17, em12, em10, em8, em6, hv1 (by assumption), hv2 (by assumption)]; rfl, hnx, (by assumption : _ = true → f12_faultOf _ _ = -1) (by assumption), (by assumption : _ = true → Tx12 _ _) (by assumption)⟩)⟩
          · refine mw_aload_n cx (q := 82) 0 rfl rfl dX12_run_81 rfl ?_
            refine mw_iload_n cx (q := 83) 2 rfl rfl dX12_run_82 rfl ?_
            refine mw_iconst cx (q := 84) (v := 0) dX12_run_83 rfl rfl ?_
            refine mw_bnd (fun r27 er27 => ?_)
            refine mw_callV cx (q := 87) (d := 1) (As := [.int v1, .int 0]) (z := fip (uW M 12 m22) r27) (st := []) (st1 := [.int r27]) (M' := (uW M 12 m22)) (by rw [er27]; exact mc_X12_nextAt l D ta ad (uW M 12 m22) v1 0 (ok23.1) hsv (by decide) (by decide)) cv_X12_198 rfl rfl rfl vi_12_0 ⟨Nat.le_of_ble_eq_true rfl, Nat.le_of_ble_eq_true rfl⟩ ⟨Nat.le_refl _, Nat.le_refl _⟩ (by simp [Value.category]) rfl rfl rfl dX12_run_84 rfl ?_
            have qr270 : Nx12 m22 v1 r27 := (by rw [er27]; exact nextAt_n (ok23.1) hsv (by decide) (by decide))
            have hnx : r27 = f12_nextAt (M 12) v1 0 := (by rw [er27, nextAt_fr ok23.2])
            have hnN : Nx12 (M 12) v1 r27 := (by rw [hnx]; exact nextAt_n hok hsv (by decide) (by decide))
            refine mw_goto cx (tgt := 91) dX12_run_87 (by decide) ?_
            refine mw_sub [0, 1, 2] rfl ?_
            exact hK25 r27 ⟨hnN, (by first | exact Or.inl rfl | exact Or.inr ⟨by rw [em22, em17, em12, em10, em8, em6, hv1 (by assumption), hv2 (by assumption)]; rfl, hnx, (by assumption : _ = true → f12_faultOf _ _ = -1) (by assumption), (by assumption : _ = true → Tx12 _ _) (by assumption)⟩)⟩
      · refine mw_ifb_eq cx (tgt := 75) (q := 71) dX12_run_68 (by decide) rfl (fun h21 => ?_) (fun h21 => ?_)
        · refine mw_iconst cx (q := 76) (v := 1) dX12_run_75 rfl rfl ?_
          exact hK20 true (by intro hz; first | rfl | exact absurd (hz.symm.trans (show _ = false by assumption)) (by decide))
        · refine mw_iconst cx (q := 72) (v := 0) dX12_run_71 rfl rfl ?_
          refine mw_goto cx (tgt := 76) dX12_run_72 (by decide) ?_
          exact hK20 false (by intro hz; first | rfl | exact absurd (hz.symm.trans (show _ = false by assumption)) (by decide))
    · refine mw_ifb_eq cx (tgt := 60) (q := 56) dX12_run_53 (by decide) rfl (fun h16 => ?_) (fun h16 => ?_)
      · refine mw_iconst cx (q := 61) (v := 3) dX12_run_60 rfl rfl ?_
        refine mw_sub [1, 2, 3, 0] rfl ?_
        exact hK15 3 (by intro hz; first | rfl | exact absurd (hz.symm.trans (show _ = false by assumption)) (by decide))
      · refine mw_iconst cx (q := 57) (v := 1) dX12_run_56 rfl rfl ?_
        refine mw_goto cx (tgt := 61) dX12_run_57 (by decide) ?_
        refine mw_sub [1, 2, 3, 0] rfl ?_
        exact hK15 1 (by intro hz; first | rfl | exact absurd (hz.symm.trans (show _ = false by assumption)) (by decide))
  · refine mw_icmp_ne cx (tgt := 20) (q := 16) dX12_run_13 (by decide) rfl (fun h5 => ?_) (fun h5 => ?_)
    · refine mw_iconst cx (q := 21) (v := 0) dX12_run_20 rfl rfl ?_
      refine mw_sub [1, 2, 0] rfl ?_
      exact hK4 false ⟨(by intro hz; first | exact absurd hz (by decide) | exact (by (try simp only [vp_in_iff, i32lt, i32le, i32eq, i32add, i32sub, i32mul, i32neg, t32_0, t32_1, t32_8, t32_14, t32_19, t32_60] at hR ok0 ev1 hsv hRv qr20 hft h5 hok hp1 ⊢); omega)), (by intro hz; first | exact absurd hz (by decide) | exact (by (try simp only [vp_in_iff, i32lt, i32le, i32eq, i32add, i32sub, i32mul, i32neg, t32_0, t32_1, t32_8, t32_14, t32_19, t32_60] at hR ok0 ev1 hsv hRv qr20 hft h5 hok hp1 ⊢); omega))⟩
    · refine mw_iconst cx (q := 17) (v := 1) dX12_run_16 rfl rfl ?_
      refine mw_goto cx (tgt := 21) dX12_run_17 (by decide) ?_
      refine mw_sub [1, 2, 0] rfl ?_
      exact hK4 true ⟨(by intro hz; first | exact absurd hz (by decide) | exact (qr20 h5)), (by intro hz; first | exact absurd hz (by decide) | exact (by (try simp only [vp_in_iff, i32lt, i32le, i32eq, i32add, i32sub, i32mul, i32neg, t32_0, t32_1, t32_8, t32_14, t32_19, t32_60] at hR ok0 ev1 hsv hRv qr20 hft h5 hok hp1 ⊢); omega))⟩
/-- what the hours that pass need -/
def PsI (Q : Cm → Prop) : Nat → Cm → Int32 → Prop
  | 0, m, w => m 0 0 11 ≤ w ∧ Q m
  | k + 1, m, w => if m 0 0 11 ≤ w then Q m else if m 17 0 w = 0 ∧ m 15 0 w = m 0 0 10 then RunOk m w ∧ OkT m (f12_run m w) ∧ PsI Q k (f12_run m w) (w + 1) else PsI Q k m (w + 1)
def PsI' (Q : Cm → Prop) (m : Cm) (w : Int32) : Prop := ∃ k, PsI Q k m w
theorem PsI'.fin {Q : Cm → Prop} {m : Cm} {w : Int32} (h : PsI' Q m w) (c : m 0 0 11 ≤ w) : Q m := by
  obtain ⟨k, h⟩ := h
  cases k with
  | zero => exact h.2
  | succ k => unfold PsI at h; rw [if_pos c] at h; exact h
theorem PsI'.run {Q : Cm → Prop} {m : Cm} {w : Int32} (h : PsI' Q m w) (c : ¬ m 0 0 11 ≤ w) (a : m 17 0 w = 0) (b : m 15 0 w = m 0 0 10) : RunOk m w ∧ OkT m (f12_run m w) ∧ PsI' Q (f12_run m w) (w + 1) := by
  obtain ⟨k, h⟩ := h
  cases k with
  | zero => exact absurd h.1 c
  | succ k => unfold PsI at h; rw [if_neg c, if_pos ⟨a, b⟩] at h; exact ⟨h.1, h.2.1, k, h.2.2⟩
theorem PsI'.skip {Q : Cm → Prop} {m : Cm} {w : Int32} (h : PsI' Q m w) (c : ¬ m 0 0 11 ≤ w) (a : ¬ (m 17 0 w = 0 ∧ m 15 0 w = m 0 0 10)) : PsI' Q m (w + 1) := by
  obtain ⟨k, h⟩ := h
  cases k with
  | zero => exact absurd h.1 c
  | succ k => unfold PsI at h; rw [if_neg c, if_neg a] at h; exact ⟨k, h⟩
theorem PsI.mono {Q Q' : Cm → Prop} (hq : ∀ m, Q m → Q' m) : ∀ (k : Nat) (m : Cm) (w : Int32), PsI Q k m w → PsI Q' k m w := by
  intro k
  induction k with
  | zero => intro m w h; exact ⟨h.1, hq _ h.2⟩
  | succ k ih =>
    intro m w h
    unfold PsI at h ⊢
    by_cases c : m 0 0 11 ≤ w
    · rw [if_pos c] at h ⊢; exact hq _ h
    · rw [if_neg c] at h ⊢
      by_cases a : m 17 0 w = 0 ∧ m 15 0 w = m 0 0 10
      · rw [if_pos a] at h ⊢; exact ⟨h.1, h.2.1, ih _ _ h.2.2⟩
      · rw [if_neg a] at h ⊢; exact ih _ _ h
def PsO (hs : Int32) : Nat → Cm → Int32 → Prop
  | 0, _, i => hs ≤ i
  | k + 1, m, i => hs ≤ i ∨ PsI (fun m' => PsO hs k m' (i + 1)) 61 (u3 m 0 0 10 (m 0 0 10 + 1)) 0
def PsO' (hs : Int32) (m : Cm) (i : Int32) : Prop := ∃ k, PsO hs k m i
theorem PsO'.next {hs i : Int32} {m : Cm} (h : PsO' hs m i) (c : ¬ hs ≤ i) : PsI' (fun m' => PsO' hs m' (i + 1)) (u3 m 0 0 10 (m 0 0 10 + 1)) 0 := by
  obtain ⟨k, h⟩ := h
  cases k with
  | zero => exact absurd h c
  | succ k => exact ⟨61, PsI.mono (fun m' z => ⟨k, z⟩) _ _ _ (h.resolve_left c)⟩
theorem okT_f12_run {m0 m : Cm} (h : OkT m0 m) (w : Int32) (h2 : OkT m (f12_run m w)) : OkT m0 (f12_run m w) := ⟨h2.1, h2.2.1.trans h.2.1, h2.2.2.trans h.2.2⟩
noncomputable def f12_pass_lp66 (K15 : (Int32 × Cm) → (Int32 × Cm)) : Nat → (Int32 × Int32 × Cm) → (Int32 × Cm)
  | 0, x14 => (0, x14.2.2)
  | n16 + 1, x14 => if (x14.2.2 0 0 11) ≤ x14.1 then K15 (x14.2.1, x14.2.2) else jn (fun (v18 : Int32 × Cm) => bnd (x14.1 + 1) (fun (v25 : Int32) => f12_pass_lp66 K15 n16 (v25, v18.1, v18.2))) (fun K19 => if (x14.2.2 17 0 x14.1) = 0 then if (x14.2.2 15 0 x14.1) = (x14.2.2 0 0 10) then bnd (f12_run x14.2.2 x14.1) (fun (r22 : Cm) => bnd (x14.2.1 + 1) (fun (v24 : Int32) => K19 (v24, r22))) else K19 (x14.2.1, x14.2.2) else K19 (x14.2.1, x14.2.2))
theorem f12_pass_lp66_s (K15 : (Int32 × Cm) → (Int32 × Cm)) (n16 : Nat) (x14 : Int32 × Int32 × Cm) : f12_pass_lp66 K15 (n16 + 1) x14 = if (x14.2.2 0 0 11) ≤ x14.1 then K15 (x14.2.1, x14.2.2) else jn (fun (v18 : Int32 × Cm) => bnd (x14.1 + 1) (fun (v25 : Int32) => f12_pass_lp66 K15 n16 (v25, v18.1, v18.2))) (fun K19 => if (x14.2.2 17 0 x14.1) = 0 then if (x14.2.2 15 0 x14.1) = (x14.2.2 0 0 10) then bnd (f12_run x14.2.2 x14.1) (fun (r22 : Cm) => bnd (x14.2.1 + 1) (fun (v24 : Int32) => K19 (v24, r22))) else K19 (x14.2.1, x14.2.2) else K19 (x14.2.1, x14.2.2)) := rfl
noncomputable def f12_pass_lp47 (p1 : Int32) : Nat → (Int32 × Int32 × Cm) → (Int32 × Cm)
  | 0, x9 => (0, x9.2.2)
  | n10 + 1, x9 => if p1 ≤ x9.1 then (x9.2.1, x9.2.2) else bnd (u3 x9.2.2 0 0 10 ((x9.2.2 0 0 10) + 1)) (fun (m12 : Cm) => jn (fun (y26 : Int32 × Cm) => bnd (x9.1 + 1) (fun (v27 : Int32) => f12_pass_lp47 p1 n10 (v27, y26.1, y26.2))) (fun K15 => f12_pass_lp66 K15 62 (0, x9.2.1, m12)))
theorem f12_pass_lp47_s (p1 : Int32) (n10 : Nat) (x9 : Int32 × Int32 × Cm) : f12_pass_lp47 p1 (n10 + 1) x9 = if p1 ≤ x9.1 then (x9.2.1, x9.2.2) else bnd (u3 x9.2.2 0 0 10 ((x9.2.2 0 0 10) + 1)) (fun (m12 : Cm) => jn (fun (y26 : Int32 × Cm) => bnd (x9.1 + 1) (fun (v27 : Int32) => f12_pass_lp47 p1 n10 (v27, y26.1, y26.2))) (fun K15 => f12_pass_lp66 K15 62 (0, x9.2.1, m12))) := rfl
noncomputable def f12_pass (m : Cm) (p1 : Int32) : (Int32 × Cm) := bnd (f12_in p1 1 100) (fun (r1 : Bool) => jn (fun (v2 : Int32) => bnd (f12_goesWell m v2) (fun (r6 : Bool × Cm) => if r6.1 = true then f12_pass_lp47 p1 102 (0, 0, r6.2) else (0, r6.2))) (fun K3 => if r1 = true then if ((m 0 0 10) + p1) ≤ 1000 then K3 0 else K3 2 else K3 1))
set_option maxHeartbeats 4000000 in
set_option maxRecDepth 100000 in
theorem mc_X12_pass (l : Launch) (D : va_G) (ta : wTa) (ad : wAd) (M : Wm) (p1 : Int32) (hok : Ok12 (M 12)) (hP : 1 ≤ p1.toInt ∧ p1.toInt ≤ 100 → ((M 12) 0 0 10) + p1 ≤ 1000 → PsO' p1 (u3 (M 12) 0 0 0 0) 0) : MC l D ta ad yX12_pass cX12_pass 6 (some .int) 11 [.ref (ad 12 0 0), .int p1] M (fic M 12 (f12_pass (M 12) p1)) := by
  refine MC.of (fic M 12) (f12_pass (M 12) p1) rfl (by decide) (Nat.le_of_ble_eq_true rfl) (fun p e s m args below meth c cx hr => ?_)
  unfold f12_pass
  refine mw_sub (lv' := [(0, .ref (ad 12 0 0)), (1, .int p1)]) [0, 1] rfl ?_
  refine mw_eqM (uW_self M 12) ?_
  have ok0 : OkT (M 12) (M 12) := ⟨hok, rfl, rfl⟩
  refine mw_iload_n cx (q := 1) 1 rfl rfl dX12_pass_0 rfl ?_
  refine mw_iconst cx (q := 2) (v := 1) dX12_pass_1 rfl rfl ?_
  refine mw_bipush cx (q := 4) (v := 100) dX12_pass_2 rfl rfl ?_
  refine mw_bnd (fun r1 er1 => ?_)
  refine mw_callS cx (q := 7) (d := 0) (As := [.int p1, .int 1, .int 100]) (z := fzp (uW M 12 (M 12)) r1) (st := []) (st1 := [.int (b2i r1)]) (M' := (uW M 12 (M 12))) (by rw [er1]; exact mc_X12_in l D ta ad (uW M 12 (M 12)) p1 1 100) cv_X12_167 ⟨Nat.le_of_ble_eq_true rfl, Nat.le_of_ble_eq_true rfl⟩ ⟨Nat.le_refl _, Nat.le_refl _⟩ (by simp [Value.category]) rfl rfl rfl dX12_pass_4 rfl ?_
  have qr10 : r1 = true → 1 ≤ p1.toInt ∧ p1.toInt ≤ 100 := (fun hq => in_i (er1.symm.trans hq))
  refine mw_istore_n cx (q := 8) (lv' := [(2, .int (b2i r1)), (0, .ref (ad 12 0 0)), (1, .int p1)]) rfl rfl (by decide) dX12_pass_7 rfl ?_
  refine mw_aload_n cx (q := 9) 1 rfl rfl dX12_pass_8 rfl ?_
  refine mw_iload_n cx (q := 10) 0 rfl rfl dX12_pass_9 rfl ?_
  refine mw_jnP (P := fun (v2 : Int32) => (v2 = 0 → 1 ≤ p1.toInt ∧ p1.toInt ≤ 100 ∧ (((M 12) 0 0 10) + p1) ≤ 1000)) (Mj := fun (v2 : Int32) => (uW M 12 (M 12))) (pj := 34) (lj := fun (v2 : Int32) => [(0, .ref (ad 12 0 0)), (1, .int p1)]) (sj := fun (v2 : Int32) => [.int v2, .ref (ad 12 0 0)]) (fun v2 jv2 => ?_) (fun K3 hK3 => ?_)
  · have jv2_0 := jv2
    refine mw_bnd (fun r6 er6 => ?_)
    refine mw_callV cx (q := 37) (d := 0) (As := [.int v2]) (z := fzc (uW M 12 (M 12)) 12 r6) (st := []) (st1 := [.int (b2i r6.1)]) (M' := uW M 12 r6.2) (by rw [er6]; exact mc_X12_goesWell l D ta ad (uW M 12 (M 12)) v2) cv_X12_181 rfl rfl rfl vi_12_0 ⟨Nat.le_of_ble_eq_true rfl, Nat.le_of_ble_eq_true rfl⟩ ⟨Nat.le_refl _, Nat.le_refl _⟩ (by simp [Value.category]) rfl rfl (by exact uW_uW _ _ _ _) dX12_pass_34 rfl ?_
    have ok7 : OkT (M 12) r6.2 := (by rw [er6]; exact okT_f12_goesWell ok0 v2)
    have qr60 : r6.1 = true → v2 = 0 := (fun hq => goesWell_t ((congrArg Prod.fst er6).symm.trans hq))
    have hp100 : r6.1 = true → (p1).toInt ≤ 100 := (fun hq => ((by assumption : _ = (0 : Int32) → 1 ≤ (p1).toInt ∧ _ ∧ _) (goesWell_t ((congrArg Prod.fst er6).symm.trans hq))).2.1)
    have hj : r6.1 = true → PsO' p1 r6.2 0 := (fun hq => by have h9 := (by assumption : _ = (0 : Int32) → 1 ≤ (p1).toInt ∧ _ ∧ _) (goesWell_t ((congrArg Prod.fst er6).symm.trans hq)); rw [er6, goesWell_m, goesWell_t ((congrArg Prod.fst er6).symm.trans hq)]; exact hP ⟨h9.1, h9.2.1⟩ h9.2.2)
    refine mw_ifb_ne cx (tgt := 42) (q := 40) dX12_pass_37 (by decide) rfl (fun h8 => ?_) (fun h8 => ?_)
    · refine mw_iconst cx (q := 43) (v := 0) dX12_pass_42 rfl rfl ?_
      refine mw_istore_n cx (q := 44) (lv' := [(3, .int 0), (0, .ref (ad 12 0 0)), (1, .int p1)]) rfl rfl (by decide) dX12_pass_43 rfl ?_
      refine mw_iconst cx (q := 45) (v := 0) dX12_pass_44 rfl rfl ?_
      refine mw_istore cx (q := 47) (lv' := [(4, .int 0), (3, .int 0), (0, .ref (ad 12 0 0)), (1, .int p1)]) rfl (by decide) dX12_pass_45 rfl ?_
      refine mw_loop (F := f12_pass_lp47 p1) (I := fun (x9 : Int32 × Int32 × Cm) => (0 ≤ (x9.1).toInt) ∧ (PsO' p1 x9.2.2 x9.1) ∧ (OkT (M 12) x9.2.2)) (μ := fun (x9 : Int32 × Int32 × Cm) => (101 - (x9.1).toInt).toNat) (Mx := fun (x9 : Int32 × Int32 × Cm) => (uW M 12 x9.2.2)) (px := 47) (lx := fun (x9 : Int32 × Int32 × Cm) => [(4, .int x9.1), (3, .int x9.2.1), (0, .ref (ad 12 0 0)), (1, .int p1)]) (fun n10 x9 ivx9 ih => ?_) 102 (0, 0, r6.2) ⟨(by (try simp only [vp_in_iff, i32lt, i32le, i32eq, i32add, i32sub, i32mul, i32neg, t32_0]); omega), (hj (by assumption)), ok7⟩ (by (try simp only [vp_in_iff, i32lt, i32le, i32eq, i32add, i32sub, i32mul, i32neg, t32_0]); omega)
      obtain ⟨ivx9_0, ivx9_1, ivx9_2⟩ := ivx9
      refine mw_eqS (f12_pass_lp47_s p1 n10 x9) ?_
      refine mw_iload cx (q := 49) 0 rfl dX12_pass_47 rfl ?_
      refine mw_iload_n cx (q := 50) 3 rfl rfl dX12_pass_49 rfl ?_
      refine mw_icmp_ge cx (tgt := 120) (q := 53) dX12_pass_50 (by decide) rfl (fun h11 => ?_) (fun h11 => ?_)
      · refine mw_iload_n cx (q := 121) 1 rfl rfl dX12_pass_120 rfl ?_
        exact mw_iret cx hr rfl dX12_pass_121
      · refine mw_aload_n cx (q := 54) 2 rfl rfl dX12_pass_53 rfl ?_
        refine mw_dup cx (q := 55) dX12_pass_54 rfl rfl ?_
        refine mw_get cx (q := 58) (v := .int (x9.2.2 0 0 10)) gf_X12_349 rfl rfl vi_12_0 dX12_pass_55 rfl ?_
        refine mw_iconst cx (q := 59) (v := 1) dX12_pass_58 rfl rfl ?_
        refine mw_iadd cx (q := 60) dX12_pass_59 rfl ?_
        refine mw_putC cx (q := 63) 10 gf_X12_349 pf_X12_10 (int_fit _) rfl (Nat.le_of_ble_eq_true rfl) rfl vi_12_0 (by decide) dX12_pass_60 rfl (fun m12 em12 => ?_)
        have ok13 : OkT (M 12) m12 := (by rw [em12]; exact okT_put0 ivx9_2 (by decide))
        refine mw_iconst cx (q := 64) (v := 0) dX12_pass_63 rfl rfl ?_
        refine mw_istore cx (q := 66) (lv' := [(5, .int 0), (4, .int x9.1), (3, .int x9.2.1), (0, .ref (ad 12 0 0)), (1, .int p1)]) rfl (by decide) dX12_pass_64 rfl ?_
        refine mw_jnP (P := fun (y26 : Int32 × Cm) => (PsO' p1 y26.2 (x9.1 + 1)) ∧ (OkT (M 12) y26.2)) (Mj := fun (y26 : Int32 × Cm) => (uW M 12 y26.2)) (pj := 114) (lj := fun (y26 : Int32 × Cm) => [(4, .int x9.1), (3, .int y26.1), (0, .ref (ad 12 0 0)), (1, .int p1)]) (sj := fun (y26 : Int32 × Cm) => []) (fun y26 jy26 => ?_) (fun K15 hK15 => ?_)
        · obtain ⟨jy26_0, jy26_1⟩ := jy26
          refine mw_bnd (fun v27 ev27 => ?_)
          refine mw_iinc cx (q := 117) (v := v27) (lv' := [(4, .int v27), (3, .int y26.1), (0, .ref (ad 12 0 0)), (1, .int p1)]) 0 rfl (by rw [ev27]; rfl) rfl (by decide) dX12_pass_114 rfl ?_
          refine mw_goto cx (tgt := 47) dX12_pass_117 (by decide) ?_
          exact ih (v27, y26.1, y26.2) ⟨(by have h9 := i32rng p1; have hz := (show ¬ p1 ≤ _ by assumption); have h0 := ivx9_0; simp only [i32le] at hz; rw [ev27, inc_t h0 (by omega)]; omega), (by rw [ev27]; assumption), jy26_1⟩ (by have h9 := hp100 (by assumption); have hz := (show ¬ p1 ≤ _ by assumption); have h0 := ivx9_0; simp only [i32le] at hz; rw [ev27, inc_t h0 (by omega)]; omega)
        · refine mw_loop (F := f12_pass_lp66 K15) (I := fun (x14 : Int32 × Int32 × Cm) => (0 ≤ (x14.1).toInt) ∧ (PsI' (fun m9 => PsO' p1 m9 (x9.1 + 1)) x14.2.2 x14.1) ∧ (OkT (M 12) x14.2.2)) (μ := fun (x14 : Int32 × Int32 × Cm) => (61 - (x14.1).toInt).toNat) (Mx := fun (x14 : Int32 × Int32 × Cm) => (uW M 12 x14.2.2)) (px := 66) (lx := fun (x14 : Int32 × Int32 × Cm) => [(5, .int x14.1), (4, .int x9.1), (3, .int x14.2.1), (0, .ref (ad 12 0 0)), (1, .int p1)]) (fun n16 x14 ivx14 ih => ?_) 62 (0, x9.2.1, m12) ⟨(by (try simp only [vp_in_iff, i32lt, i32le, i32eq, i32add, i32sub, i32mul, i32neg, t32_0]); omega), (by dsimp only; rw [em12]; exact ivx9_1.next (by assumption)), ok13⟩ (by (try simp only [vp_in_iff, i32lt, i32le, i32eq, i32add, i32sub, i32mul, i32neg, t32_0, t32_61, t32_62]); omega)
          obtain ⟨ivx14_0, ivx14_1, ivx14_2⟩ := ivx14
          refine mw_eqS (f12_pass_lp66_s K15 n16 x14) ?_
          refine mw_iload cx (q := 68) 0 rfl dX12_pass_66 rfl ?_
          refine mw_aload_n cx (q := 69) 3 rfl rfl dX12_pass_68 rfl ?_
          refine mw_get cx (q := 72) (v := .int (x14.2.2 0 0 11)) gf_X12_352 rfl rfl vi_12_0 dX12_pass_69 rfl ?_
          refine mw_icmp_ge cx (tgt := 114) (q := 75) dX12_pass_72 (by decide) rfl (fun h17 => ?_) (fun h17 => ?_)
          · refine mw_sub [1, 2, 3, 4] rfl ?_
            exact hK15 (x14.2.1, x14.2.2) ⟨(ivx14_1.fin (by assumption)), ivx14_2⟩
          · refine mw_aload_n cx (q := 76) 3 rfl rfl dX12_pass_75 rfl ?_
            refine mw_get cx (q := 79) (v := .ref (ad 12 17 0)) gf_X12_51 rfl rfl vi_12_0 dX12_pass_76 rfl ?_
            refine mw_iload cx (q := 81) 0 rfl dX12_pass_79 rfl ?_
            refine mw_iald cx (q := 82) (w := (x14.2.2 17 0 x14.1)) rfl (fun _ => rfl) vi_12_17 (by have h1 := (ivx14_2).1.o1; have hz := h17; have h0 := ivx14_0; simp only [i32le] at hz; rw [vp_in_iff]; omega) dX12_pass_81 rfl ?_
            refine mw_jnP (P := fun (v18 : Int32 × Cm) => (PsI' (fun m9 => PsO' p1 m9 (x9.1 + 1)) v18.2 (x14.1 + 1)) ∧ (OkT (M 12) v18.2)) (Mj := fun (v18 : Int32 × Cm) => (uW M 12 v18.2)) (pj := 108) (lj := fun (v18 : Int32 × Cm) => [(0, .ref (ad 12 0 0)), (1, .int p1), (3, .int v18.1), (4, .int x9.1), (5, .int x14.1)]) (sj := fun (v18 : Int32 × Cm) => []) (fun v18 jv18 => ?_) (fun K19 hK19 => ?_)
            · obtain ⟨jv18_0, jv18_1⟩ := jv18
              refine mw_bnd (fun v25 ev25 => ?_)
              refine mw_iinc cx (q := 111) (v := v25) (lv' := [(5, .int v25), (0, .ref (ad 12 0 0)), (1, .int p1), (3, .int v18.1), (4, .int x9.1)]) 4 rfl (by rw [ev25]; rfl) rfl (by decide) dX12_pass_108 rfl ?_
              refine mw_goto cx (tgt := 66) dX12_pass_111 (by decide) ?_
              refine mw_sub [0, 4, 3, 1, 2] rfl ?_
              exact ih (v25, v18.1, v18.2) ⟨(by have h1 := (ivx14_2).1.o1; have hz := h17; have h0 := ivx14_0; simp only [i32le] at hz; rw [ev25, inc_t h0 (by omega)]; omega), (by rw [ev25]; assumption), jv18_1⟩ (by have h1 := (ivx14_2).1.o1; have hz := h17; have h0 := ivx14_0; simp only [i32le] at hz; rw [ev25, inc_t h0 (by omega)]; omega)
            · refine mw_if_ne cx (tgt := 108) (q := 85) dX12_pass_82 (by decide) rfl (fun h20 => ?_) (fun h20 => ?_)
              · refine mw_sub [3, 4, 2, 1, 0] rfl ?_
                exact hK19 (x14.2.1, x14.2.2) ⟨(by first | exact ivx14_1.skip (by assumption) (fun z => absurd z.1 (by assumption)) | exact ivx14_1.skip (by assumption) (fun z => absurd z.2 (by assumption)) | (rw [er6]; exact (ivx14_1.run (by assumption) (by assumption) (by assumption)).2.2)), ivx14_2⟩
              · refine mw_aload_n cx (q := 86) 3 rfl rfl dX12_pass_85 rfl ?_
                refine mw_get cx (q := 89) (v := .ref (ad 12 15 0)) gf_X12_45 rfl rfl vi_12_0 dX12_pass_86 rfl ?_
                refine mw_iload cx (q := 91) 0 rfl dX12_pass_89 rfl ?_
                refine mw_iald cx (q := 92) (w := (x14.2.2 15 0 x14.1)) rfl (fun _ => rfl) vi_12_15 (by have h1 := (ivx14_2).1.o1; have hz := h17; have h0 := ivx14_0; simp only [i32le] at hz; rw [vp_in_iff]; omega) dX12_pass_91 rfl ?_
                refine mw_aload_n cx (q := 93) 3 rfl rfl dX12_pass_92 rfl ?_
                refine mw_get cx (q := 96) (v := .int (x14.2.2 0 0 10)) gf_X12_349 rfl rfl vi_12_0 dX12_pass_93 rfl ?_
                refine mw_icmp_ne cx (tgt := 108) (q := 99) dX12_pass_96 (by decide) rfl (fun h21 => ?_) (fun h21 => ?_)
                · refine mw_sub [3, 4, 2, 1, 0] rfl ?_
                  exact hK19 (x14.2.1, x14.2.2) ⟨(by first | exact ivx14_1.skip (by assumption) (fun z => absurd z.1 (by assumption)) | exact ivx14_1.skip (by assumption) (fun z => absurd z.2 (by assumption)) | (rw [er6]; exact (ivx14_1.run (by assumption) (by assumption) (by assumption)).2.2)), ivx14_2⟩
                · refine mw_aload_n cx (q := 100) 3 rfl rfl dX12_pass_99 rfl ?_
                  refine mw_iload cx (q := 102) 0 rfl dX12_pass_100 rfl ?_
                  refine mw_bnd (fun r22 er22 => ?_)
                  refine mw_callV cx (q := 105) (d := 10) (As := [.int x14.1]) (z := fvc (uW M 12 x14.2.2) 12 r22) (st := []) (st1 := []) (M' := uW M 12 r22) (by rw [er22]; exact mc_X12_run l D ta ad (uW M 12 x14.2.2) x14.1 (ivx14_2.1) (by have h1 := (ivx14_2).1.o1; have hz := h17; have h0 := ivx14_0; simp only [i32le] at hz; rw [vp_in_iff]; omega) (ivx14_1.run (by assumption) (by assumption) (by assumption)).1) cv_X12_368 rfl rfl rfl vi_12_0 ⟨Nat.le_of_ble_eq_true rfl, Nat.le_of_ble_eq_true rfl⟩ ⟨Nat.le_refl _, Nat.le_refl _⟩ (by simp [Value.category]) rfl rfl (by exact uW_uW _ _ _ _) dX12_pass_102 rfl ?_
                  have ok23 : OkT (M 12) r22 := (by rw [er22]; exact okT_f12_run ivx14_2 x14.1 (ivx14_1.run (by assumption) (by assumption) (by assumption)).2.1)
                  refine mw_bnd (fun v24 ev24 => ?_)
                  refine mw_iinc cx (q := 108) (v := v24) (lv' := [(3, .int v24), (5, .int x14.1), (4, .int x9.1), (0, .ref (ad 12 0 0)), (1, .int p1)]) 2 rfl (by rw [ev24]; rfl) rfl (by decide) dX12_pass_105 rfl ?_
                  refine mw_sub [3, 4, 0, 2, 1] rfl ?_
                  exact hK19 (v24, r22) ⟨(by first | exact ivx14_1.skip (by assumption) (fun z => absurd z.1 (by assumption)) | exact ivx14_1.skip (by assumption) (fun z => absurd z.2 (by assumption)) | (rw [er22]; exact (ivx14_1.run (by assumption) (by assumption) (by assumption)).2.2)), ok23⟩
    · refine mw_iconst cx (q := 41) (v := 0) dX12_pass_40 rfl rfl ?_
      exact mw_iret cx hr rfl dX12_pass_41
  · refine mw_ifb_ne cx (tgt := 17) (q := 13) dX12_pass_10 (by decide) rfl (fun h4 => ?_) (fun h4 => ?_)
    · refine mw_aload_n cx (q := 18) 1 rfl rfl dX12_pass_17 rfl ?_
      refine mw_get cx (q := 21) (v := .int ((M 12) 0 0 10)) gf_X12_349 rfl rfl vi_12_0 dX12_pass_18 rfl ?_
      refine mw_iload_n cx (q := 22) 2 rfl rfl dX12_pass_21 rfl ?_
      refine mw_iadd cx (q := 23) dX12_pass_22 rfl ?_
      refine mw_sipush cx (q := 26) (v := 1000) dX12_pass_23 rfl rfl ?_
      refine mw_icmp_le cx (tgt := 33) (q := 29) dX12_pass_26 (by decide) rfl (fun h5 => ?_) (fun h5 => ?_)
      · refine mw_iconst cx (q := 34) (v := 0) dX12_pass_33 rfl rfl ?_
        refine mw_sub [1, 2] rfl ?_
        exact hK3 0 (by intro hz; first | exact absurd hz (by decide) | exact ⟨(qr10 h4).1, (qr10 h4).2, h5⟩)
      · refine mw_iconst cx (q := 30) (v := 2) dX12_pass_29 rfl rfl ?_
        refine mw_goto cx (tgt := 34) dX12_pass_30 (by decide) ?_
        refine mw_sub [1, 2] rfl ?_
        exact hK3 2 (by intro hz; first | exact absurd hz (by decide) | exact ⟨(qr10 h4).1, (qr10 h4).2, (by (try simp only [vp_in_iff, i32lt, i32le, i32eq, i32add, i32sub, i32mul, i32neg, t32_0, t32_1, t32_10, t32_100, t32_1000] at hP qr10 h4 h5 ⊢); omega)⟩)
    · refine mw_iconst cx (q := 14) (v := 1) dX12_pass_13 rfl rfl ?_
      refine mw_goto cx (tgt := 34) dX12_pass_14 (by decide) ?_
      refine mw_sub [1, 2] rfl ?_
      exact hK3 1 (by intro hz; first | exact absurd hz (by decide) | exact ⟨(by (try simp only [vp_in_iff, i32lt, i32le, i32eq, i32add, i32sub, i32mul, i32neg, t32_0, t32_1, t32_10, t32_100, t32_1000] at hP qr10 h4 ⊢); omega), (by (try simp only [vp_in_iff, i32lt, i32le, i32eq, i32add, i32sub, i32mul, i32neg, t32_0, t32_1, t32_10, t32_100, t32_1000] at hP qr10 h4 ⊢); omega), (by (try simp only [vp_in_iff, i32lt, i32le, i32eq, i32add, i32sub, i32mul, i32neg, t32_0, t32_1, t32_10, t32_100, t32_1000] at hP qr10 h4 ⊢); omega)⟩)
noncomputable def f12_takeUp (m : Cm) (p1 : Int32) (p2 : Int32) : (Int32 × Cm) := bnd (f12_isOrder m p1) (fun (r1 : Bool) => jn (fun (v2 : Bool) => jn (fun (v7 : Int32) => bnd (f12_goesWell m v7) (fun (r13 : Bool × Cm) => if r13.1 = true then bnd (u3 r13.2 16 0 p1 p2) (fun (m16 : Cm) => bnd (f12_run m16 p1) (fun (r18 : Cm) => ((r18 17 0 p1), r18))) else (0, r13.2))) (fun K8 => if r1 = true then bnd (f12_in p2 1 1000) (fun (r10 : Bool) => if r10 = true then if v2 = true then K8 0 else K8 3 else K8 2) else K8 1)) (fun K3 => if r1 = true then if (m 17 0 p1) = 2 then K3 true else if (m 17 0 p1) = 3 then K3 true else K3 false else K3 false))
set_option maxHeartbeats 4000000 in
set_option maxRecDepth 100000 in
theorem mc_X12_takeUp (l : Launch) (D : va_G) (ta : wTa) (ad : wAd) (M : Wm) (p1 : Int32) (p2 : Int32) (hok : Ok12 (M 12)) (hR : vp_in p1 60 → RunOk (u3 (u3 (M 12) 0 0 0 0) 16 0 p1 p2) p1) : MC l D ta ad yX12_takeUp cX12_takeUp 5 (some .int) 11 [.ref (ad 12 0 0), .int p1, .int p2] M (fic M 12 (f12_takeUp (M 12) p1 p2)) := by
  refine MC.of (fic M 12) (f12_takeUp (M 12) p1 p2) rfl (by decide) (Nat.le_of_ble_eq_true rfl) (fun p e s m args below meth c cx hr => ?_)
  unfold f12_takeUp
  refine mw_sub (lv' := [(0, .ref (ad 12 0 0)), (1, .int p1), (2, .int p2)]) [0, 1, 2] rfl ?_
  refine mw_eqM (uW_self M 12) ?_
  have ok0 : OkT (M 12) (M 12) := ⟨hok, rfl, rfl⟩
  refine mw_aload_n cx (q := 1) 0 rfl rfl dX12_takeUp_0 rfl ?_
  refine mw_iload_n cx (q := 2) 1 rfl rfl dX12_takeUp_1 rfl ?_
  refine mw_bnd (fun r1 er1 => ?_)
  refine mw_callV cx (q := 5) (d := 1) (As := [.int p1]) (z := fzp (uW M 12 (M 12)) r1) (st := []) (st1 := [.int (b2i r1)]) (M' := (uW M 12 (M 12))) (by rw [er1]; exact mc_X12_isOrder l D ta ad (uW M 12 (M 12)) p1) cv_X12_371 rfl rfl rfl vi_12_0 ⟨Nat.le_of_ble_eq_true rfl, Nat.le_of_ble_eq_true rfl⟩ ⟨Nat.le_refl _, Nat.le_refl _⟩ (by simp [Value.category]) rfl rfl rfl dX12_takeUp_2 rfl ?_
  have qr10 : r1 = true → vp_in p1 60 := (fun hq => isOrder_t ok0.1 (er1.symm.trans hq))
  refine mw_istore_n cx (q := 6) (lv' := [(3, .int (b2i r1)), (0, .ref (ad 12 0 0)), (1, .int p1), (2, .int p2)]) rfl rfl (by decide) dX12_takeUp_5 rfl ?_
  refine mw_iload_n cx (q := 7) 0 rfl rfl dX12_takeUp_6 rfl ?_
  refine mw_jn (Mj := fun (v2 : Bool) => (uW M 12 (M 12))) (pj := 35) (lj := fun (v2 : Bool) => [(0, .ref (ad 12 0 0)), (1, .int p1), (2, .int p2), (3, .int (b2i r1))]) (sj := fun (v2 : Bool) => [.int (b2i v2)]) (fun v2 => ?_) (fun K3 hK3 => ?_)
  · refine mw_istore cx (q := 37) (lv' := [(4, .int (b2i v2)), (0, .ref (ad 12 0 0)), (1, .int p1), (2, .int p2), (3, .int (b2i r1))]) rfl (by decide) dX12_takeUp_35 rfl ?_
    refine mw_aload_n cx (q := 38) 1 rfl rfl dX12_takeUp_37 rfl ?_
    refine mw_iload_n cx (q := 39) 4 rfl rfl dX12_takeUp_38 rfl ?_
    refine mw_jnP (P := fun (v7 : Int32) => (v7 = 0 → vp_in p1 60)) (Mj := fun (v7 : Int32) => (uW M 12 (M 12))) (pj := 71) (lj := fun (v7 : Int32) => [(0, .ref (ad 12 0 0)), (1, .int p1), (2, .int p2)]) (sj := fun (v7 : Int32) => [.int v7, .ref (ad 12 0 0)]) (fun v7 jv7 => ?_) (fun K8 hK8 => ?_)
    · have jv7_0 := jv7
      refine mw_bnd (fun r13 er13 => ?_)
      refine mw_callV cx (q := 74) (d := 0) (As := [.int v7]) (z := fzc (uW M 12 (M 12)) 12 r13) (st := []) (st1 := [.int (b2i r13.1)]) (M' := uW M 12 r13.2) (by rw [er13]; exact mc_X12_goesWell l D ta ad (uW M 12 (M 12)) v7) cv_X12_181 rfl rfl rfl vi_12_0 ⟨Nat.le_of_ble_eq_true rfl, Nat.le_of_ble_eq_true rfl⟩ ⟨Nat.le_refl _, Nat.le_refl _⟩ (by simp [Value.category]) rfl rfl (by exact uW_uW _ _ _ _) dX12_takeUp_71 rfl ?_
      have ok14 : OkT (M 12) r13.2 := (by rw [er13]; exact okT_f12_goesWell ok0 v7)
      have qr130 : r13.1 = true → v7 = 0 := (fun hq => goesWell_t ((congrArg Prod.fst er13).symm.trans hq))
      have hgm : r13.1 = true → r13.2 = u3 (M 12) 0 0 0 0 := (fun hq => by rw [er13, goesWell_m, goesWell_t ((congrArg Prod.fst er13).symm.trans hq)])
      refine mw_ifb_ne cx (tgt := 79) (q := 77) dX12_takeUp_74 (by decide) rfl (fun h15 => ?_) (fun h15 => ?_)
      · refine mw_aload_n cx (q := 80) 0 rfl rfl dX12_takeUp_79 rfl ?_
        refine mw_get cx (q := 83) (v := .ref (ad 12 16 0)) gf_X12_48 rfl rfl vi_12_0 dX12_takeUp_80 rfl ?_
        refine mw_iload_n cx (q := 84) 1 rfl rfl dX12_takeUp_83 rfl ?_
        refine mw_iload_n cx (q := 85) 2 rfl rfl dX12_takeUp_84 rfl ?_
        refine mw_iastC cx (q := 86) (fun _ => rfl) (by decide) vi_12_16 (jv7_0 (qr130 h15)) (by decide) dX12_takeUp_85 rfl (fun m16 em16 => ?_)
        have ok17 : OkT (M 12) m16 := (by rw [em16]; exact okT_putA ok14 (by decide))
        refine mw_aload_n cx (q := 87) 0 rfl rfl dX12_takeUp_86 rfl ?_
        refine mw_iload_n cx (q := 88) 1 rfl rfl dX12_takeUp_87 rfl ?_
        refine mw_bnd (fun r18 er18 => ?_)
        refine mw_callV cx (q := 91) (d := 10) (As := [.int p1]) (z := fvc (uW M 12 m16) 12 r18) (st := []) (st1 := []) (M' := uW M 12 r18) (by rw [er18]; exact mc_X12_run l D ta ad (uW M 12 m16) p1 (ok17.1) (jv7_0 (qr130 h15)) (by show RunOk m16 p1; rw [em16, hgm (by assumption)]; exact hR (jv7_0 (qr130 h15)))) cv_X12_368 rfl rfl rfl vi_12_0 ⟨Nat.le_of_ble_eq_true rfl, Nat.le_of_ble_eq_true rfl⟩ ⟨Nat.le_refl _, Nat.le_refl _⟩ (by simp [Value.category]) rfl rfl (by exact uW_uW _ _ _ _) dX12_takeUp_88 rfl ?_
        refine mw_aload_n cx (q := 92) 0 rfl rfl dX12_takeUp_91 rfl ?_
        refine mw_get cx (q := 95) (v := .ref (ad 12 17 0)) gf_X12_51 rfl rfl vi_12_0 dX12_takeUp_92 rfl ?_
        refine mw_iload_n cx (q := 96) 1 rfl rfl dX12_takeUp_95 rfl ?_
        refine mw_iald cx (q := 97) (w := (r18 17 0 p1)) rfl (fun _ => rfl) vi_12_17 (jv7_0 (qr130 h15)) dX12_takeUp_96 rfl ?_
        exact mw_iret cx hr rfl dX12_takeUp_97
      · refine mw_iconst cx (q := 78) (v := 0) dX12_takeUp_77 rfl rfl ?_
        exact mw_iret cx hr rfl dX12_takeUp_78
    · refine mw_ifb_ne cx (tgt := 46) (q := 42) dX12_takeUp_39 (by decide) rfl (fun h9 => ?_) (fun h9 => ?_)
      · refine mw_iload_n cx (q := 47) 3 rfl rfl dX12_takeUp_46 rfl ?_
        refine mw_iconst cx (q := 48) (v := 1) dX12_takeUp_47 rfl rfl ?_
        refine mw_sipush cx (q := 51) (v := 1000) dX12_takeUp_48 rfl rfl ?_
        refine mw_bnd (fun r10 er10 => ?_)
        refine mw_callS cx (q := 54) (d := 0) (As := [.int p2, .int 1, .int 1000]) (z := fzp (uW M 12 (M 12)) r10) (st := [.ref (ad 12 0 0)]) (st1 := [.int (b2i r10), .ref (ad 12 0 0)]) (M' := (uW M 12 (M 12))) (by rw [er10]; exact mc_X12_in l D ta ad (uW M 12 (M 12)) p2 1 1000) cv_X12_167 ⟨Nat.le_of_ble_eq_true rfl, Nat.le_of_ble_eq_true rfl⟩ ⟨Nat.le_refl _, Nat.le_refl _⟩ (by simp [Value.category]) rfl rfl rfl dX12_takeUp_51 rfl ?_
        have qr100 : r10 = true → 1 ≤ p2.toInt ∧ p2.toInt ≤ 1000 := (fun hq => in_i (er10.symm.trans hq))
        refine mw_ifb_ne cx (tgt := 61) (q := 57) dX12_takeUp_54 (by decide) rfl (fun h11 => ?_) (fun h11 => ?_)
        · refine mw_iload cx (q := 63) 0 rfl dX12_takeUp_61 rfl ?_
          refine mw_ifb_eq cx (tgt := 70) (q := 66) dX12_takeUp_63 (by decide) rfl (fun h12 => ?_) (fun h12 => ?_)
          · refine mw_iconst cx (q := 71) (v := 3) dX12_takeUp_70 rfl rfl ?_
            refine mw_sub [1, 2, 3] rfl ?_
            exact hK8 3 (by intro hz; first | exact absurd hz (by decide) | exact (qr10 h9))
          · refine mw_iconst cx (q := 67) (v := 0) dX12_takeUp_66 rfl rfl ?_
            refine mw_goto cx (tgt := 71) dX12_takeUp_67 (by decide) ?_
            refine mw_sub [1, 2, 3] rfl ?_
            exact hK8 0 (by intro hz; first | exact absurd hz (by decide) | exact (qr10 h9))
        · refine mw_iconst cx (q := 58) (v := 2) dX12_takeUp_57 rfl rfl ?_
          refine mw_goto cx (tgt := 71) dX12_takeUp_58 (by decide) ?_
          refine mw_sub [1, 2, 3] rfl ?_
          exact hK8 2 (by intro hz; first | exact absurd hz (by decide) | exact (qr10 h9))
      · refine mw_iconst cx (q := 43) (v := 1) dX12_takeUp_42 rfl rfl ?_
        refine mw_goto cx (tgt := 71) dX12_takeUp_43 (by decide) ?_
        refine mw_sub [1, 2, 3] rfl ?_
        exact hK8 1 (by intro hz; first | exact absurd hz (by decide) | exact (by (try simp only [vp_in_iff, i32lt, i32le, i32eq, i32add, i32sub, i32mul, i32neg, t32_0, t32_16, t32_60] at hR qr10 h9 ⊢); omega))
  · refine mw_ifb_eq cx (tgt := 34) (q := 10) dX12_takeUp_7 (by decide) rfl (fun h4 => ?_) (fun h4 => ?_)
    · refine mw_iconst cx (q := 35) (v := 0) dX12_takeUp_34 rfl rfl ?_
      refine mw_sub [1, 2, 3, 0] rfl ?_
      exact hK3 false
    · refine mw_aload_n cx (q := 11) 1 rfl rfl dX12_takeUp_10 rfl ?_
      refine mw_get cx (q := 14) (v := .ref (ad 12 17 0)) gf_X12_51 rfl rfl vi_12_0 dX12_takeUp_11 rfl ?_
      refine mw_iload_n cx (q := 15) 2 rfl rfl dX12_takeUp_14 rfl ?_
      refine mw_iald cx (q := 16) (w := ((M 12) 17 0 p1)) rfl (fun _ => rfl) vi_12_17 (qr10 h4) dX12_takeUp_15 rfl ?_
      refine mw_iconst cx (q := 17) (v := 2) dX12_takeUp_16 rfl rfl ?_
      refine mw_icmp_eq cx (tgt := 30) (q := 20) dX12_takeUp_17 (by decide) rfl (fun h5 => ?_) (fun h5 => ?_)
      · refine mw_iconst cx (q := 31) (v := 1) dX12_takeUp_30 rfl rfl ?_
        refine mw_goto cx (tgt := 35) dX12_takeUp_31 (by decide) ?_
        refine mw_sub [1, 2, 3, 0] rfl ?_
        exact hK3 true
      · refine mw_aload_n cx (q := 21) 1 rfl rfl dX12_takeUp_20 rfl ?_
        refine mw_get cx (q := 24) (v := .ref (ad 12 17 0)) gf_X12_51 rfl rfl vi_12_0 dX12_takeUp_21 rfl ?_
        refine mw_iload_n cx (q := 25) 2 rfl rfl dX12_takeUp_24 rfl ?_
        refine mw_iald cx (q := 26) (w := ((M 12) 17 0 p1)) rfl (fun _ => rfl) vi_12_17 (qr10 h4) dX12_takeUp_25 rfl ?_
        refine mw_iconst cx (q := 27) (v := 3) dX12_takeUp_26 rfl rfl ?_
        refine mw_icmp_ne cx (tgt := 34) (q := 30) dX12_takeUp_27 (by decide) rfl (fun h6 => ?_) (fun h6 => ?_)
        · refine mw_iconst cx (q := 35) (v := 0) dX12_takeUp_34 rfl rfl ?_
          refine mw_sub [1, 2, 3, 0] rfl ?_
          exact hK3 false
        · refine mw_iconst cx (q := 31) (v := 1) dX12_takeUp_30 rfl rfl ?_
          refine mw_goto cx (tgt := 35) dX12_takeUp_31 (by decide) ?_
          refine mw_sub [1, 2, 3, 0] rfl ?_
          exact hK3 true
