/-! THE LAW'S METHODS -/
section LMT
variable {σ : Type} {p : Program} {l : Launch} {e : Env} {R : Room} {s : State} {m : MethodId} {args : Array Value} {below : List Frame} {meth : Method} {c : Code} {cells slots : Nat} {Q : σ → State → Prop} {D : va_G} {ta : wTa} {ad : wAd} {n : Nat} {M : Wm} {pc q : Nat} {lv lv' : List (Nat × Value)} {st : List Value} {S A B : σ} {own : String} {cc : ByteArray} {d u cb : Nat} {fin : σ → GX}
theorem vi_31_0 : vp_in 0 (wcnt 31 0) := vin_lit (by decide)
theorem cs_ok (h : cb ≤ u) : cb ≤ (rmx d u).cells ∧ 6 * cb ≤ (rmx d u).slots := ⟨h, Nat.mul_le_mul_left 6 h⟩
theorem gl_callVn (cx : Cx p s m args meth c D ta ad own cc n) (hzx : wZx ad s s.heap) {y : MethodName} {C : String} {cy : ByteArray} {ny d0 ix k0 g ci u0 : Nat} {ret : Option FieldType} {i : Int32} {fs As : List Value} {rc : vw_C} {r : Nat × Int32} {M' : Wm} {st0 : List Value} (hM : MX l D ta ad y cy ny ret d0 u0 (.ref (ad k0 g i) :: As) M (fxi (r, M'))) (hw : CV own ix y C cy ny ret As.length) (he : wcell ta ad k0 g i (M k0 g i) = .inr (ci, fs)) (hc : wcl[ci]? = some rc) (hrC : rc.1 = C) (hi : vp_in i (wcnt k0 g)) (hR : d0 + 1 ≤ d ∧ 8 + (ny + 11) + 40 * d0 ≤ 40 * d) (hcu : cb + u0 ≤ u) (h8 : (st.map fun v => v.category).sum ≤ 8) (hst : st0 = As.reverse ++ .ref (ad k0 g i) :: st) (h0 : r.1 = 0) (hd : decode cc pc = .ok (.invokevirtual ix, 3)) (hq : pc + 3 = q)
    (k : mw p l e (rmx d u) s m args below meth c (cb + u0) (6 * (cb + u0)) Q D ta ad n M' q lv (.int r.2 :: st) S) : mw p l e (rmx d u) s m args below meth c cb (6 * cb) Q D ta ad n M pc lv st0 S := by
  refine mx_callV cx hzx hM hw he hc hrC hi hR ⟨hcu, cs6 hcu⟩ h8 hst (st1 := .int r.2 :: st) rfl rfl hd hq (fun h1 => absurd h0 h1) (fun _ => ?_)
  rw [← Nat.mul_add]; exact k
end LMT
section LMS
variable {l : Launch} {w : Int32 → Int32} {sa sb : ST}
theorem GM.o60 {M : Wm} (h : GM w sa sb M) : 0 ≤ (sa.2.2 0 0 11).toInt ∧ (sa.2.2 0 0 11).toInt ≤ 60 := by
  rw [← h.2.1.1, ← h.2.1.2.1.o.1]; exact h.2.1.2.1.o.2.2.1
theorem GM.m3 {M : Wm} (h : GM w sa sb M) : 0 ≤ (sa.2.2 0 0 21).toInt ∧ (sa.2.2 0 0 21).toInt ≤ 3000 := by
  rw [← h.2.1.1, ← h.2.1.2.1.b.1]; exact h.2.1.2.1.b.2.1
def lg27 (x : Int) : Nat := if x < 1 then 0 else if x < 27 then 1 else if x < 729 then 2 else if x < 19683 then 3 else if x < 531441 then 4 else if x < 14348907 then 5 else if x < 387420489 then 6 else 7
theorem div_t {a b : Int32} (ha : 0 ≤ a.toInt) (hb : 0 < b.toInt) : (a / b).toInt = a.toInt / b.toInt := by
  have : (a / b).toInt = a.toInt.tdiv b.toInt := by rw [Int32.toInt_div_of_ne_right _ _ (by intro z; rw [z] at hb; exact absurd hb (by decide))]
  rw [this, Int.tdiv_eq_ediv_of_nonneg ha]
theorem lg27_div {a : Int32} (h : ¬ a ≤ 0) : lg27 (a / 27).toInt < lg27 a.toInt := by
  simp only [i32le, t32_0] at h
  have hr := i32rng a
  rw [div_t (by omega) (by decide), t32_27]
  unfold lg27
  repeat' split
  all_goals omega
theorem lg27_le (x : Int) : lg27 x < 8 := by
  unfold lg27
  repeat' split
  all_goals omega
theorem pow_up {a b : Int32} (h1 : 0 < a.toInt) (h : ¬ b / 27 < a) : (7 - lg27 (a * 27).toInt) < (7 - lg27 a.toInt) ∧ 0 < (a * 27).toInt := by
  simp only [i32lt] at h
  have hb : 0 < b.toInt := by
    by_cases c : 0 < b.toInt
    · exact c
    · exfalso
      have e : (b / 27).toInt = b.toInt.tdiv 27 := by rw [Int32.toInt_div_of_ne_right _ _ (by decide)]; rfl
      have e2 : b.toInt.tdiv 27 = -((-b.toInt).tdiv 27) := by rw [Int.neg_tdiv]; omega
      rw [Int.tdiv_eq_ediv_of_nonneg (a := -b.toInt) (by omega)] at e2
      omega
  rw [div_t (by omega) (by decide), t32_27] at h
  have hr := i32rng b
  have e : (a * 27).toInt = a.toInt * 27 := by rw [i32muln (by rw [t32_27]; omega) (by rw [t32_27]; omega), t32_27]
  rw [e]
  refine ⟨?_, by omega⟩
  have ha : a.toInt ≤ 79536431 := by omega
  generalize a.toInt = x at h1 ha
  unfold lg27
  repeat' split
  all_goals omega
def fL_low (p1 : Int32) (p2 : Int32) : Int32 := ((p1 &&& 2147483647) - (p1 &&& 2147483647) / p2 * p2)
set_option maxHeartbeats 4000000 in
set_option maxRecDepth 100000 in
theorem mc_L_low (l : Launch) (D : va_G) (ta : wTa) (ad : wAd) (M : Wm) (p1 : Int32) (p2 : Int32) (hn : ¬ p2 = 0) : MC l D ta ad yL_low cL_low 2 (some .int) 0 [.int p1, .int p2] M (fip M (fL_low p1 p2)) := by
  refine MC.of (fip M) (fL_low p1 p2) rfl (by decide) (Nat.le_of_ble_eq_true rfl) (fun p e s m args below meth c cx hr => ?_)
  unfold fL_low
  refine mw_sub (lv' := [(0, .int p1), (1, .int p2)]) [0, 1] rfl ?_
  refine mw_iload_n cx (q := 1) 0 rfl rfl dL_low_0 rfl ?_
  refine mw_ldc cx (q := 3) (v := 2147483647) dL_low_1 rfl ld_L_7 ?_
  refine mw_iand cx (q := 4) dL_low_3 rfl ?_
  refine mw_iload_n cx (q := 5) 1 rfl rfl dL_low_4 rfl ?_
  refine mw_irem cx (q := 6) dL_low_5 rfl hn ?_
  exact mw_iret cx hr rfl dL_low_6
def fL_named (p1 : Int32) : Int32 := if 2 ≤ p1 then if p1 = 2 then 12251 else if p1 = 3 then 841 else if p1 = 4 then 3181 else if p1 = 5 then 14420 else if p1 = 6 then 1111 else if p1 = 7 then 12387497 else 240373 else 394691
set_option maxHeartbeats 4000000 in
set_option maxRecDepth 100000 in
theorem mc_L_named (l : Launch) (D : va_G) (ta : wTa) (ad : wAd) (M : Wm) (p1 : Int32) : MC l D ta ad yL_named cL_named 1 (some .int) 0 [.int p1] M (fip M (fL_named p1)) := by
  refine MC.of (fip M) (fL_named p1) rfl (by decide) (Nat.le_of_ble_eq_true rfl) (fun p e s m args below meth c cx hr => ?_)
  unfold fL_named
  refine mw_sub (lv' := [(0, .int p1)]) [0] rfl ?_
  refine mw_iload_n cx (q := 1) 0 rfl rfl dL_named_0 rfl ?_
  refine mw_iconst cx (q := 2) (v := 2) dL_named_1 rfl rfl ?_
  refine mw_icmp_ge cx (tgt := 10) (q := 5) dL_named_2 (by decide) rfl (fun h1 => ?_) (fun h1 => ?_)
  · refine mw_iload_n cx (q := 11) 0 rfl rfl dL_named_10 rfl ?_
    refine mw_iconst cx (q := 12) (v := 2) dL_named_11 rfl rfl ?_
    refine mw_icmp_ne cx (tgt := 21) (q := 15) dL_named_12 (by decide) rfl (fun h2 => ?_) (fun h2 => ?_)
    · refine mw_iload_n cx (q := 22) 0 rfl rfl dL_named_21 rfl ?_
      refine mw_iconst cx (q := 23) (v := 3) dL_named_22 rfl rfl ?_
      refine mw_icmp_ne cx (tgt := 32) (q := 26) dL_named_23 (by decide) rfl (fun h3 => ?_) (fun h3 => ?_)
      · refine mw_iload_n cx (q := 33) 0 rfl rfl dL_named_32 rfl ?_
        refine mw_iconst cx (q := 34) (v := 4) dL_named_33 rfl rfl ?_
        refine mw_icmp_ne cx (tgt := 43) (q := 37) dL_named_34 (by decide) rfl (fun h4 => ?_) (fun h4 => ?_)
        · refine mw_iload_n cx (q := 44) 0 rfl rfl dL_named_43 rfl ?_
          refine mw_iconst cx (q := 45) (v := 5) dL_named_44 rfl rfl ?_
          refine mw_icmp_ne cx (tgt := 54) (q := 48) dL_named_45 (by decide) rfl (fun h5 => ?_) (fun h5 => ?_)
          · refine mw_iload_n cx (q := 55) 0 rfl rfl dL_named_54 rfl ?_
            refine mw_bipush cx (q := 57) (v := 6) dL_named_55 rfl rfl ?_
            refine mw_icmp_ne cx (tgt := 66) (q := 60) dL_named_57 (by decide) rfl (fun h6 => ?_) (fun h6 => ?_)
            · refine mw_iload_n cx (q := 67) 0 rfl rfl dL_named_66 rfl ?_
              refine mw_bipush cx (q := 69) (v := 7) dL_named_67 rfl rfl ?_
              refine mw_icmp_ne cx (tgt := 77) (q := 72) dL_named_69 (by decide) rfl (fun h7 => ?_) (fun h7 => ?_)
              · refine mw_ldc cx (q := 79) (v := 240373) dL_named_77 rfl ld_L_63 ?_
                exact mw_iret cx hr rfl dL_named_79
              · refine mw_ldc cx (q := 74) (v := 12387497) dL_named_72 rfl ld_L_62 ?_
                refine mw_goto cx (tgt := 79) dL_named_74 (by decide) ?_
                exact mw_iret cx hr rfl dL_named_79
            · refine mw_sipush cx (q := 63) (v := 1111) dL_named_60 rfl rfl ?_
              refine mw_goto cx (tgt := 79) dL_named_63 (by decide) ?_
              exact mw_iret cx hr rfl dL_named_79
          · refine mw_sipush cx (q := 51) (v := 14420) dL_named_48 rfl rfl ?_
            refine mw_goto cx (tgt := 79) dL_named_51 (by decide) ?_
            exact mw_iret cx hr rfl dL_named_79
        · refine mw_sipush cx (q := 40) (v := 3181) dL_named_37 rfl rfl ?_
          refine mw_goto cx (tgt := 79) dL_named_40 (by decide) ?_
          exact mw_iret cx hr rfl dL_named_79
      · refine mw_sipush cx (q := 29) (v := 841) dL_named_26 rfl rfl ?_
        refine mw_goto cx (tgt := 79) dL_named_29 (by decide) ?_
        exact mw_iret cx hr rfl dL_named_79
    · refine mw_sipush cx (q := 18) (v := 12251) dL_named_15 rfl rfl ?_
      refine mw_goto cx (tgt := 79) dL_named_18 (by decide) ?_
      exact mw_iret cx hr rfl dL_named_79
  · refine mw_ldc cx (q := 7) (v := 394691) dL_named_5 rfl ld_L_61 ?_
    refine mw_goto cx (tgt := 79) dL_named_7 (by decide) ?_
    exact mw_iret cx hr rfl dL_named_79
def fL_sayName_lp11 (p3 : Int32) (r1 : (Nat × Int32) × ST) (K5 : Int32 → ((Nat × Int32) × ST)) : Nat → Int32 → ((Nat × Int32) × ST)
  | 0, x3 => ((0, 0), r1.2)
  | n6 + 1, x3 => if (p3 / 27) < x3 then K5 x3 else bnd ((x3 * 27)) (fun (v8 : Int32) => fL_sayName_lp11 p3 r1 K5 n6 v8)
theorem fL_sayName_lp11_s (p3 : Int32) (r1 : (Nat × Int32) × ST) (K5 : Int32 → ((Nat × Int32) × ST)) (n6 : Nat) (x3 : Int32) : fL_sayName_lp11 p3 r1 K5 (n6 + 1) x3 = if (p3 / 27) < x3 then K5 x3 else bnd ((x3 * 27)) (fun (v8 : Int32) => fL_sayName_lp11 p3 r1 K5 n6 v8) := rfl
def fL_sayName_lp30 (p2 : Int32) (K12 : (Int32 × ST) → ((Nat × Int32) × ST)) : Nat → (Int32 × Int32 × Int32 × ST) → ((Nat × Int32) × ST)
  | 0, x10 => ((0, 0), x10.2.2.2)
  | n13 + 1, x10 => if x10.2.2.1 ≤ 0 then K12 (x10.2.1, x10.2.2.2) else bnd (F_type x10.2.2.2 p2 (96 + (x10.1 / x10.2.2.1))) (fun (r15 : (Nat × Int32) × ST) => if r15.1.1 = 0 then bnd ((x10.1 - x10.1 / x10.2.2.1 * x10.2.2.1)) (fun (v17 : Int32) => bnd ((x10.2.2.1 / 27)) (fun (v18 : Int32) => fL_sayName_lp30 p2 K12 n13 (v17, r15.1.2, v18, r15.2))) else ((r15.1.1, 0), r15.2))
theorem fL_sayName_lp30_s (p2 : Int32) (K12 : (Int32 × ST) → ((Nat × Int32) × ST)) (n13 : Nat) (x10 : Int32 × Int32 × Int32 × ST) : fL_sayName_lp30 p2 K12 (n13 + 1) x10 = if x10.2.2.1 ≤ 0 then K12 (x10.2.1, x10.2.2.2) else bnd (F_type x10.2.2.2 p2 (96 + (x10.1 / x10.2.2.1))) (fun (r15 : (Nat × Int32) × ST) => if r15.1.1 = 0 then bnd ((x10.1 - x10.1 / x10.2.2.1 * x10.2.2.1)) (fun (v17 : Int32) => bnd ((x10.2.2.1 / 27)) (fun (v18 : Int32) => fL_sayName_lp30 p2 K12 n13 (v17, r15.1.2, v18, r15.2))) else ((r15.1.1, 0), r15.2)) := rfl
def fL_sayName (sa : ST) (p2 : Int32) (p3 : Int32) : ((Nat × Int32) × ST) := bnd (F_type sa p2 32) (fun (r1 : (Nat × Int32) × ST) => if r1.1.1 = 0 then jn (fun (y9 : Int32) => jn (fun (y19 : Int32 × ST) => ((0, y19.1), y19.2)) (fun K12 => fL_sayName_lp30 p2 K12 8 (p3, r1.1.2, y9, r1.2))) (fun K5 => fL_sayName_lp11 p3 r1 K5 8 1) else ((r1.1.1, 0), r1.2))
set_option maxHeartbeats 4000000 in
set_option maxRecDepth 100000 in
theorem ml_L_sayName (hl : l.stackTraces = false) (D : va_G) (ta : wTa) (ad : wAd) (p2 : Int32) (p3 : Int32) : ML l D ta ad yL_sayName (.code yL_sayName cL_sayName 6 (some .int)) 9 27 [.ref (ad 11 0 0), .int p2, .int p3] (GM w sa sb) ((fL_sayName sa p2 p3).1, GM w (fL_sayName sa p2 p3).2 sb) := by
  refine ML.of (fun z : (Nat × Int32) × ST => (z.1, GM w z.2 sb)) (fL_sayName sa p2 p3) rfl (by decide) (Nat.le_of_ble_eq_true rfl) (fun p e s m args below meth c cx hzx hcx ht hr M hG => ?_)
  unfold fL_sayName
  refine mw_sub (lv' := [(0, .ref (ad 11 0 0)), (1, .int p2), (2, .int p3)]) [0, 1, 2] rfl ?_
  refine mw_iconst cx (q := 1) (v := 1) dL_sayName_0 rfl rfl ?_
  refine mw_istore_n cx (q := 2) (lv' := [(3, .int 1), (0, .ref (ad 11 0 0)), (1, .int p2), (2, .int p3)]) rfl rfl (by decide) dL_sayName_1 rfl ?_
  refine mw_aload_n cx (q := 3) 1 rfl rfl dL_sayName_2 rfl ?_
  refine mw_iload_n cx (q := 4) 2 rfl rfl dL_sayName_3 rfl ?_
  refine mw_bipush cx (q := 6) (v := 32) dL_sayName_4 rfl rfl ?_
  refine mw_bnd (fun r1 er1 => ?_)
  obtain ⟨M, hG, hM⟩ := C_type (D := D) (ta := ta) (ad := ad) hl hG p2 32
  rw [← er1] at hG hM
  refine gl_callV cx hzx ht (q := 9) (d0 := 8) (u0 := 3) (As := [.int p2, .int 32]) (r := r1.1) (M' := M) (st := []) hM cv_L_8 rfl rfl rfl vi_11_0 ⟨by decide, by decide⟩ (by omega) (by simp [Value.category]) rfl (fun _ => ⟨rfl, hG⟩) dL_sayName_6 rfl (fun h2 => ?_)
  refine mw_istore cx (q := 11) (lv' := [(4, .int r1.1.2), (3, .int 1), (0, .ref (ad 11 0 0)), (1, .int p2), (2, .int p3)]) rfl (by decide) dL_sayName_9 rfl ?_
  refine gl_jn (fun (y9 : Int32) (M : Wm) => GM w r1.2 sb M) (0 + 3) 27 (fun (y9 : Int32) => [(4, .int r1.1.2), (3, .int y9), (0, .ref (ad 11 0 0)), (1, .int p2), (2, .int p3)]) (fun (y9 : Int32) => []) (fun y9 M hG => ?_) (fun K5 hK5 => ?_)
  · refine mw_iload_n cx (q := 28) 4 rfl rfl dL_sayName_27 rfl ?_
    refine mw_istore cx (q := 30) (lv' := [(5, .int p3), (4, .int r1.1.2), (3, .int y9), (0, .ref (ad 11 0 0)), (1, .int p2), (2, .int p3)]) rfl (by decide) dL_sayName_28 rfl ?_
    refine gl_jn (fun (y19 : Int32 × ST) (M : Wm) => GM w y19.2 sb M) (0 + 27) 62 (fun (y19 : Int32 × ST) => [(4, .int y19.1)]) (fun (y19 : Int32 × ST) => []) (fun y19 M hG => ?_) (fun K12 hK12 => ?_)
    · refine mw_iload cx (q := 64) 0 rfl dL_sayName_62 rfl ?_
      exact gl_iret cx hr rfl rfl hG (by omega) dL_sayName_64
    · refine mw_sub [0, 1, 2, 3, 4] rfl ?_
      refine gl_loop (F := fL_sayName_lp30 p2 K12) (I := fun (x10 : Int32 × Int32 × Int32 × ST) => True) (μ := fun (x10 : Int32 × Int32 × Int32 × ST) => lg27 (x10.2.2.1).toInt) (Γx := fun (x10 : Int32 × Int32 × Int32 × ST) (M : Wm) => GM w x10.2.2.2 sb M) (px := 30) (lx := fun (x10 : Int32 × Int32 × Int32 × ST) => [(5, .int x10.1), (4, .int x10.2.1), (3, .int x10.2.2.1), (0, .ref (ad 11 0 0)), (1, .int p2)]) (per := 3) (N := 8) (fun n13 x10 M cl11 hcl11 hG ivx10 ih => ?_) 8 (p3, r1.1.2, y9, r1.2) M hG trivial (lg27_le _) (lg27_le _)
      refine mw_eqS (fL_sayName_lp30_s p2 K12 n13 x10) ?_
      refine mw_iload_n cx (q := 31) 2 rfl rfl dL_sayName_30 rfl ?_
      refine mw_if_le cx (tgt := 62) (q := 34) dL_sayName_31 (by decide) rfl (fun h14 => ?_) (fun h14 => ?_)
      · refine mw_sub [1] rfl ?_
        exact gl_w (by omega) (hK12 (x10.2.1, x10.2.2.2) M hG)
      · refine mw_aload_n cx (q := 35) 3 rfl rfl dL_sayName_34 rfl ?_
        refine mw_iload_n cx (q := 36) 4 rfl rfl dL_sayName_35 rfl ?_
        refine mw_bipush cx (q := 38) (v := 96) dL_sayName_36 rfl rfl ?_
        refine mw_iload cx (q := 40) 0 rfl dL_sayName_38 rfl ?_
        refine mw_iload_n cx (q := 41) 2 rfl rfl dL_sayName_40 rfl ?_
        refine mw_idiv cx (q := 42) dL_sayName_41 rfl (by (try simp only [vp_in_iff, i32lt, i32le, i32eq, i32add, i32sub, i32mul, i32neg, t32_0] at h14 ⊢); omega) ?_
        refine mw_iadd cx (q := 43) dL_sayName_42 rfl ?_
        refine mw_bnd (fun r15 er15 => ?_)
        obtain ⟨M, hG, hM⟩ := C_type (D := D) (ta := ta) (ad := ad) hl hG p2 (96 + (x10.1 / x10.2.2.1))
        rw [← er15] at hG hM
        refine gl_callV cx hzx ht (q := 46) (d0 := 8) (u0 := 3) (As := [.int p2, .int (96 + (x10.1 / x10.2.2.1))]) (r := r15.1) (M' := M) (st := []) hM cv_L_8 rfl rfl rfl vi_11_0 ⟨by decide, by decide⟩ (by omega) (by simp [Value.category]) rfl (fun _ => ⟨rfl, hG⟩) dL_sayName_43 rfl (fun h16 => ?_)
        refine mw_istore cx (q := 48) (lv' := [(4, .int r15.1.2), (5, .int x10.1), (3, .int x10.2.2.1), (0, .ref (ad 11 0 0)), (1, .int p2)]) rfl (by decide) dL_sayName_46 rfl ?_
        refine mw_iload cx (q := 50) 1 rfl dL_sayName_48 rfl ?_
        refine mw_iload_n cx (q := 51) 2 rfl rfl dL_sayName_50 rfl ?_
        refine mw_irem cx (q := 52) dL_sayName_51 rfl (by (try simp only [vp_in_iff, i32lt, i32le, i32eq, i32add, i32sub, i32mul, i32neg, t32_0] at h14 ⊢); omega) ?_
        refine mw_bndT (fun v17 ev17 => ?_)
        refine mw_istore cx (q := 54) (lv' := [(5, .int v17), (4, .int r15.1.2), (3, .int x10.2.2.1), (0, .ref (ad 11 0 0)), (1, .int p2)]) rfl (by decide) dL_sayName_52 rfl ?_
        refine mw_iload_n cx (q := 55) 2 rfl rfl dL_sayName_54 rfl ?_
        refine mw_bipush cx (q := 57) (v := 27) dL_sayName_55 rfl rfl ?_
        refine mw_idiv cx (q := 58) dL_sayName_57 rfl (by decide) ?_
        refine mw_bndT (fun v18 ev18 => ?_)
        refine mw_istore_n cx (q := 59) (lv' := [(3, .int v18), (5, .int v17), (4, .int r15.1.2), (0, .ref (ad 11 0 0)), (1, .int p2)]) rfl rfl (by decide) dL_sayName_58 rfl ?_
        refine mw_goto cx (tgt := 30) dL_sayName_59 (by decide) ?_
        refine mw_sub [1, 2, 0, 3, 4] rfl ?_
        exact gl_w (by omega) (ih (v17, r15.1.2, v18, r15.2) M hG trivial (by rw [ev18]; exact lg27_div h14))
  · refine gl_loop (F := fL_sayName_lp11 p3 r1 K5) (I := fun (x3 : Int32) => 0 < (x3).toInt) (μ := fun (x3 : Int32) => (7 - lg27 (x3).toInt)) (Γx := fun (x3 : Int32) (M : Wm) => GM w r1.2 sb M) (px := 11) (lx := fun (x3 : Int32) => [(4, .int r1.1.2), (3, .int x3), (0, .ref (ad 11 0 0)), (1, .int p2), (2, .int p3)]) (per := 0) (N := 8) (fun n6 x3 M cl4 hcl4 hG ivx3 ih => ?_) 8 1 M hG (by (try simp only [vp_in_iff, i32lt, i32le, i32eq, i32add, i32sub, i32mul, i32neg, t32_0, t32_1]); omega) (by decide) (by decide)
    have ivx3_0 := ivx3
    refine mw_eqS (fL_sayName_lp11_s p3 r1 K5 n6 x3) ?_
    refine mw_iload_n cx (q := 12) 1 rfl rfl dL_sayName_11 rfl ?_
    refine mw_iload_n cx (q := 13) 4 rfl rfl dL_sayName_12 rfl ?_
    refine mw_bipush cx (q := 15) (v := 27) dL_sayName_13 rfl rfl ?_
    refine mw_idiv cx (q := 16) dL_sayName_15 rfl (by decide) ?_
    refine mw_icmp_gt cx (tgt := 27) (q := 19) dL_sayName_16 (by decide) rfl (fun h7 => ?_) (fun h7 => ?_)
    · exact gl_w (by omega) (hK5 x3 M hG)
    · refine mw_iload_n cx (q := 20) 1 rfl rfl dL_sayName_19 rfl ?_
      refine mw_bipush cx (q := 22) (v := 27) dL_sayName_20 rfl rfl ?_
      refine mw_imul cx (q := 23) dL_sayName_22 rfl ?_
      refine mw_bndT (fun v8 ev8 => ?_)
      refine mw_istore_n cx (q := 24) (lv' := [(3, .int v8), (4, .int r1.1.2), (0, .ref (ad 11 0 0)), (1, .int p2), (2, .int p3)]) rfl rfl (by decide) dL_sayName_23 rfl ?_
      refine mw_goto cx (tgt := 11) dL_sayName_24 (by decide) ?_
      refine mw_sub [1, 0, 2, 3, 4] rfl ?_
      exact gl_w (by omega) (ih v8 M hG (by rw [ev8]; exact (pow_up ivx3_0 h7).2) (by rw [ev8]; exact (pow_up ivx3_0 h7).1))
def fL_sayNumber (sa : ST) (p2 : Int32) (p3 : Int32) : ((Nat × Int32) × ST) := bnd (F_type sa p2 32) (fun (r1 : (Nat × Int32) × ST) => if r1.1.1 = 0 then jn (fun (v3 : Int32 × ST) => jn (fun (v8 : Int32) => jn (fun (v11 : Int32 × ST) => bnd (F_type v11.2 p2 (48 + (v8 - v8 / 10 * 10))) (fun (r16 : (Nat × Int32) × ST) => if r16.1.1 = 0 then ((0, r16.1.2), r16.2) else ((r16.1.1, 0), r16.2))) (fun K12 => if v8 ≤ 9 then K12 (v3.1, v3.2) else bnd (F_type v3.2 p2 (48 + (v8 / 10))) (fun (r14 : (Nat × Int32) × ST) => if r14.1.1 = 0 then K12 (r14.1.2, r14.2) else ((r14.1.1, 0), r14.2)))) (fun K9 => if 0 ≤ p3 then K9 p3 else K9 (-p3))) (fun K4 => if 0 ≤ p3 then K4 (r1.1.2, r1.2) else bnd (F_type r1.2 p2 45) (fun (r6 : (Nat × Int32) × ST) => if r6.1.1 = 0 then K4 (r6.1.2, r6.2) else ((r6.1.1, 0), r6.2))) else ((r1.1.1, 0), r1.2))
set_option maxHeartbeats 4000000 in
set_option maxRecDepth 100000 in
theorem ml_L_sayNumber (hl : l.stackTraces = false) (D : va_G) (ta : wTa) (ad : wAd) (p2 : Int32) (p3 : Int32) : ML l D ta ad yL_sayNumber (.code yL_sayNumber cL_sayNumber 5 (some .int)) 9 12 [.ref (ad 11 0 0), .int p2, .int p3] (GM w sa sb) ((fL_sayNumber sa p2 p3).1, GM w (fL_sayNumber sa p2 p3).2 sb) := by
  refine ML.of (fun z : (Nat × Int32) × ST => (z.1, GM w z.2 sb)) (fL_sayNumber sa p2 p3) rfl (by decide) (Nat.le_of_ble_eq_true rfl) (fun p e s m args below meth c cx hzx hcx ht hr M hG => ?_)
  unfold fL_sayNumber
  refine mw_sub (lv' := [(0, .ref (ad 11 0 0)), (1, .int p2), (2, .int p3)]) [0, 1, 2] rfl ?_
  refine mw_aload_n cx (q := 1) 0 rfl rfl dL_sayNumber_0 rfl ?_
  refine mw_iload_n cx (q := 2) 1 rfl rfl dL_sayNumber_1 rfl ?_
  refine mw_bipush cx (q := 4) (v := 32) dL_sayNumber_2 rfl rfl ?_
  refine mw_bnd (fun r1 er1 => ?_)
  obtain ⟨M, hG, hM⟩ := C_type (D := D) (ta := ta) (ad := ad) hl hG p2 32
  rw [← er1] at hG hM
  refine gl_callV cx hzx ht (q := 7) (d0 := 8) (u0 := 3) (As := [.int p2, .int 32]) (r := r1.1) (M' := M) (st := []) hM cv_L_8 rfl rfl rfl vi_11_0 ⟨by decide, by decide⟩ (by omega) (by simp [Value.category]) rfl (fun _ => ⟨rfl, hG⟩) dL_sayNumber_4 rfl (fun h2 => ?_)
  refine mw_istore_n cx (q := 8) (lv' := [(3, .int r1.1.2), (0, .ref (ad 11 0 0)), (1, .int p2), (2, .int p3)]) rfl rfl (by decide) dL_sayNumber_7 rfl ?_
  refine mw_iload_n cx (q := 9) 3 rfl rfl dL_sayNumber_8 rfl ?_
  refine gl_jn (fun (v3 : Int32 × ST) (M : Wm) => GM w v3.2 sb M) (0 + 6) 23 (fun (v3 : Int32 × ST) => [(0, .ref (ad 11 0 0)), (1, .int p2), (2, .int p3)]) (fun (v3 : Int32 × ST) => [.int v3.1]) (fun v3 M hG => ?_) (fun K4 hK4 => ?_)
  · refine mw_istore_n cx (q := 24) (lv' := [(3, .int v3.1), (0, .ref (ad 11 0 0)), (1, .int p2), (2, .int p3)]) rfl rfl (by decide) dL_sayNumber_23 rfl ?_
    refine mw_iload_n cx (q := 25) 3 rfl rfl dL_sayNumber_24 rfl ?_
    refine gl_jn (fun (v8 : Int32) (M : Wm) => GM w v3.2 sb M) (0 + 6) 34 (fun (v8 : Int32) => [(0, .ref (ad 11 0 0)), (1, .int p2), (3, .int v3.1)]) (fun (v8 : Int32) => [.int v8]) (fun v8 M hG => ?_) (fun K9 hK9 => ?_)
    · refine mw_istore cx (q := 36) (lv' := [(4, .int v8), (0, .ref (ad 11 0 0)), (1, .int p2), (3, .int v3.1)]) rfl (by decide) dL_sayNumber_34 rfl ?_
      refine mw_iload cx (q := 38) 0 rfl dL_sayNumber_36 rfl ?_
      refine mw_bipush cx (q := 40) (v := 9) dL_sayNumber_38 rfl rfl ?_
      refine gl_jn (fun (v11 : Int32 × ST) (M : Wm) => GM w v11.2 sb M) (0 + 9) 60 (fun (v11 : Int32 × ST) => [(0, .ref (ad 11 0 0)), (1, .int p2), (4, .int v8)]) (fun (v11 : Int32 × ST) => [.int v11.1]) (fun v11 M hG => ?_) (fun K12 hK12 => ?_)
      · refine mw_istore_n cx (q := 61) (lv' := [(3, .int v11.1), (0, .ref (ad 11 0 0)), (1, .int p2), (4, .int v8)]) rfl rfl (by decide) dL_sayNumber_60 rfl ?_
        refine mw_aload_n cx (q := 62) 1 rfl rfl dL_sayNumber_61 rfl ?_
        refine mw_iload_n cx (q := 63) 2 rfl rfl dL_sayNumber_62 rfl ?_
        refine mw_bipush cx (q := 65) (v := 48) dL_sayNumber_63 rfl rfl ?_
        refine mw_iload cx (q := 67) 3 rfl dL_sayNumber_65 rfl ?_
        refine mw_bipush cx (q := 69) (v := 10) dL_sayNumber_67 rfl rfl ?_
        refine mw_irem cx (q := 70) dL_sayNumber_69 rfl (by decide) ?_
        refine mw_iadd cx (q := 71) dL_sayNumber_70 rfl ?_
        refine mw_bnd (fun r16 er16 => ?_)
        obtain ⟨M, hG, hM⟩ := C_type (D := D) (ta := ta) (ad := ad) hl hG p2 (48 + (v8 - v8 / 10 * 10))
        rw [← er16] at hG hM
        refine gl_callV cx hzx ht (q := 74) (d0 := 8) (u0 := 3) (As := [.int p2, .int (48 + (v8 - v8 / 10 * 10))]) (r := r16.1) (M' := M) (st := []) hM cv_L_8 rfl rfl rfl vi_11_0 ⟨by decide, by decide⟩ (by omega) (by simp [Value.category]) rfl (fun _ => ⟨rfl, hG⟩) dL_sayNumber_71 rfl (fun h17 => ?_)
        exact gl_iret cx hr rfl rfl hG (by omega) dL_sayNumber_74
      · refine mw_icmp_le cx (tgt := 59) (q := 43) dL_sayNumber_40 (by decide) rfl (fun h13 => ?_) (fun h13 => ?_)
        · refine mw_iload_n cx (q := 60) 3 rfl rfl dL_sayNumber_59 rfl ?_
          refine mw_sub [1, 2, 0] rfl ?_
          exact gl_w (by omega) (hK12 (v3.1, v3.2) M hG)
        · refine mw_aload_n cx (q := 44) 1 rfl rfl dL_sayNumber_43 rfl ?_
          refine mw_iload_n cx (q := 45) 2 rfl rfl dL_sayNumber_44 rfl ?_
          refine mw_bipush cx (q := 47) (v := 48) dL_sayNumber_45 rfl rfl ?_
          refine mw_iload cx (q := 49) 0 rfl dL_sayNumber_47 rfl ?_
          refine mw_bipush cx (q := 51) (v := 10) dL_sayNumber_49 rfl rfl ?_
          refine mw_idiv cx (q := 52) dL_sayNumber_51 rfl (by decide) ?_
          refine mw_iadd cx (q := 53) dL_sayNumber_52 rfl ?_
          refine mw_bnd (fun r14 er14 => ?_)
          obtain ⟨M, hG, hM⟩ := C_type (D := D) (ta := ta) (ad := ad) hl hG p2 (48 + (v8 / 10))
          rw [← er14] at hG hM
          refine gl_callV cx hzx ht (q := 56) (d0 := 8) (u0 := 3) (As := [.int p2, .int (48 + (v8 / 10))]) (r := r14.1) (M' := M) (st := []) hM cv_L_8 rfl rfl rfl vi_11_0 ⟨by decide, by decide⟩ (by omega) (by simp [Value.category]) rfl (fun _ => ⟨rfl, hG⟩) dL_sayNumber_53 rfl (fun h15 => ?_)
          refine mw_goto cx (tgt := 60) dL_sayNumber_56 (by decide) ?_
          refine mw_sub [1, 2, 0] rfl ?_
          exact gl_w (by omega) (hK12 (r14.1.2, r14.2) M hG)
    · refine mw_if_ge cx (tgt := 33) (q := 28) dL_sayNumber_25 (by decide) rfl (fun h10 => ?_) (fun h10 => ?_)
      · refine mw_iload_n cx (q := 34) 3 rfl rfl dL_sayNumber_33 rfl ?_
        refine mw_sub [1, 2, 0] rfl ?_
        exact gl_w (by omega) (hK9 p3 M hG)
      · refine mw_iload_n cx (q := 29) 3 rfl rfl dL_sayNumber_28 rfl ?_
        refine mw_ineg cx (q := 30) dL_sayNumber_29 rfl ?_
        refine mw_goto cx (tgt := 34) dL_sayNumber_30 (by decide) ?_
        refine mw_sub [1, 2, 0] rfl ?_
        exact gl_w (by omega) (hK9 (-p3) M hG)
  · refine mw_if_ge cx (tgt := 22) (q := 12) dL_sayNumber_9 (by decide) rfl (fun h5 => ?_) (fun h5 => ?_)
    · refine mw_iload_n cx (q := 23) 0 rfl rfl dL_sayNumber_22 rfl ?_
      refine mw_sub [1, 2, 3] rfl ?_
      exact gl_w (by omega) (hK4 (r1.1.2, r1.2) M hG)
    · refine mw_aload_n cx (q := 13) 1 rfl rfl dL_sayNumber_12 rfl ?_
      refine mw_iload_n cx (q := 14) 2 rfl rfl dL_sayNumber_13 rfl ?_
      refine mw_bipush cx (q := 16) (v := 45) dL_sayNumber_14 rfl rfl ?_
      refine mw_bnd (fun r6 er6 => ?_)
      obtain ⟨M, hG, hM⟩ := C_type (D := D) (ta := ta) (ad := ad) hl hG p2 45
      rw [← er6] at hG hM
      refine gl_callV cx hzx ht (q := 19) (d0 := 8) (u0 := 3) (As := [.int p2, .int 45]) (r := r6.1) (M' := M) (st := []) hM cv_L_8 rfl rfl rfl vi_11_0 ⟨by decide, by decide⟩ (by omega) (by simp [Value.category]) rfl (fun _ => ⟨rfl, hG⟩) dL_sayNumber_16 rfl (fun h7 => ?_)
      refine mw_goto cx (tgt := 23) dL_sayNumber_19 (by decide) ?_
      refine mw_sub [1, 2, 3] rfl ?_
      exact gl_w (by omega) (hK4 (r6.1.2, r6.2) M hG)
def fL_say (sa : ST) (p2 : Int32) (p3 : Int32) : ((Nat × Int32) × ST) := bnd (g_length sa.2.2 p2) (fun (r1 : Nat × Int32) => if r1.1 = 0 then if r1.2 ≤ 80 then bnd (fL_low p3 9) (fun (r4 : Int32) => bnd (F_type sa p2 40) (fun (r5 : (Nat × Int32) × ST) => if r5.1.1 = 0 then bnd (fL_named r4) (fun (r7 : Int32) => bnd (fL_sayName r5.2 p2 r7) (fun (r8 : (Nat × Int32) × ST) => if r8.1.1 = 0 then jn (fun (v10 : Int32 × ST) => bnd (fL_low (p3 >>> (8 &&& 31)) 3) (fun (r19 : Int32) => jn (fun (v20 : Bool) => jn (fun (v23 : Int32 × ST) => jn (fun (v28 : Int32 × ST) => jn (fun (v37 : Int32 × ST) => bnd (fL_low (p3 >>> (13 &&& 31)) 15) (fun (r43 : Int32) => bnd (fL_sayNumber v37.2 p2 (r43 - 1)) (fun (r44 : (Nat × Int32) × ST) => if r44.1.1 = 0 then jn (fun (v46 : Int32 × ST) => bnd (F_type v46.2 p2 41) (fun (r51 : (Nat × Int32) × ST) => if r51.1.1 = 0 then ((0, r51.1.2), r51.2) else ((r51.1.1, 0), r51.2))) (fun K47 => if v20 = true then bnd (F_type r44.2 p2 41) (fun (r49 : (Nat × Int32) × ST) => if r49.1.1 = 0 then K47 (r49.1.2, r49.2) else ((r49.1.1, 0), r49.2)) else K47 (r44.1.2, r44.2)) else ((r44.1.1, 0), r44.2)))) (fun K38 => if v20 = true then bnd (fL_low (p3 >>> (12 &&& 31)) 9) (fun (r40 : Int32) => bnd (fL_sayName v28.2 p2 (1 + r40)) (fun (r41 : (Nat × Int32) × ST) => if r41.1.1 = 0 then K38 (r41.1.2, r41.2) else ((r41.1.1, 0), r41.2))) else K38 (v28.1, v28.2))) (fun K29 => if v20 = true then bnd (fL_low (p3 >>> (10 &&& 31)) 2) (fun (r31 : Int32) => jn (fun (v32 : Int32) => bnd (fL_sayName v23.2 p2 v32) (fun (r35 : (Nat × Int32) × ST) => if r35.1.1 = 0 then K29 (r35.1.2, r35.2) else ((r35.1.1, 0), r35.2))) (fun K33 => if r31 = 0 then K33 841 else K33 394691)) else K29 (v23.1, v23.2))) (fun K24 => if v20 = true then bnd (F_type v10.2 p2 40) (fun (r26 : (Nat × Int32) × ST) => if r26.1.1 = 0 then K24 (r26.1.2, r26.2) else ((r26.1.1, 0), r26.2)) else K24 (v10.1, v10.2))) (fun K21 => if r19 = 0 then K21 true else K21 false))) (fun K11 => if 3 ≤ r4 then bnd (fL_low (p3 >>> (4 &&& 31)) 9) (fun (r13 : Int32) => bnd (fL_sayNumber r8.2 p2 (r13 - 2)) (fun (r14 : (Nat × Int32) × ST) => if r14.1.1 = 0 then K11 (r14.1.2, r14.2) else ((r14.1.1, 0), r14.2))) else bnd (fL_low (p3 >>> (4 &&& 31)) 3) (fun (r16 : Int32) => bnd (fL_sayName r8.2 p2 (1 + r16)) (fun (r17 : (Nat × Int32) × ST) => if r17.1.1 = 0 then K11 (r17.1.2, r17.2) else ((r17.1.1, 0), r17.2)))) else ((r8.1.1, 0), r8.2))) else ((r5.1.1, 0), r5.2))) else bnd (g_length sa.2.2 p2) (fun (r53 : Nat × Int32) => if r53.1 = 0 then ((0, r53.2), sa) else ((r53.1, 0), sa)) else ((r1.1, 0), sa))
set_option maxHeartbeats 4000000 in
set_option maxRecDepth 100000 in
theorem ml_L_say (hl : l.stackTraces = false) (D : va_G) (ta : wTa) (ad : wAd) (p2 : Int32) (p3 : Int32) : ML l D ta ad yL_say (.code yL_say cL_say 6 (some .int)) 10 133 [.ref (ad 11 0 0), .int p2, .int p3] (GM w sa sb) ((fL_say sa p2 p3).1, GM w (fL_say sa p2 p3).2 sb) := by
  refine ML.of (fun z : (Nat × Int32) × ST => (z.1, GM w z.2 sb)) (fL_say sa p2 p3) rfl (by decide) (Nat.le_of_ble_eq_true rfl) (fun p e s m args below meth c cx hzx hcx ht hr M hG => ?_)
  unfold fL_say
  refine mw_sub (lv' := [(0, .ref (ad 11 0 0)), (1, .int p2), (2, .int p3)]) [0, 1, 2] rfl ?_
  refine mw_aload_n cx (q := 1) 0 rfl rfl dL_say_0 rfl ?_
  refine mw_iload_n cx (q := 2) 1 rfl rfl dL_say_1 rfl ?_
  refine mw_bnd (fun r1 er1 => ?_)
  obtain ⟨M, hG, hM⟩ := C_length (D := D) (ta := ta) (ad := ad) hl hG p2
  rw [← er1] at hM
  refine gl_callV cx hzx ht (q := 5) (d0 := 8) (u0 := 1) (As := [.int p2]) (r := r1) (M' := M) (st := []) hM cv_L_64 rfl rfl rfl vi_11_0 ⟨by decide, by decide⟩ (by omega) (by simp [Value.category]) rfl (fun _ => ⟨rfl, hG⟩) dL_say_2 rfl (fun h2 => ?_)
  refine mw_bipush cx (q := 7) (v := 80) dL_say_5 rfl rfl ?_
  refine mw_icmp_le cx (tgt := 16) (q := 10) dL_say_7 (by decide) rfl (fun h3 => ?_) (fun h3 => ?_)
  · refine mw_iload_n cx (q := 17) 2 rfl rfl dL_say_16 rfl ?_
    refine mw_bipush cx (q := 19) (v := 9) dL_say_17 rfl rfl ?_
    refine mw_bnd (fun r4 er4 => ?_)
    refine mw_callS cx (q := 22) (d := 0) (As := [.int p3, .int 9]) (z := fip M r4) (st := []) (st1 := [.int r4]) (M' := M) (by rw [er4]; exact mc_L_low l D ta ad M p3 9 (by decide)) cs_L_67 ⟨by decide, by decide⟩ (cs_ok (by omega)) (by simp [Value.category]) rfl rfl rfl dL_say_19 rfl ?_
    refine mw_istore_n cx (q := 23) (lv' := [(3, .int r4), (0, .ref (ad 11 0 0)), (1, .int p2), (2, .int p3)]) rfl rfl (by decide) dL_say_22 rfl ?_
    refine mw_aload_n cx (q := 24) 1 rfl rfl dL_say_23 rfl ?_
    refine mw_iload_n cx (q := 25) 2 rfl rfl dL_say_24 rfl ?_
    refine mw_bipush cx (q := 27) (v := 40) dL_say_25 rfl rfl ?_
    refine mw_bnd (fun r5 er5 => ?_)
    obtain ⟨M, hG, hM⟩ := C_type (D := D) (ta := ta) (ad := ad) hl hG p2 40
    rw [← er5] at hG hM
    refine gl_callV cx hzx ht (q := 30) (d0 := 8) (u0 := 3) (As := [.int p2, .int 40]) (r := r5.1) (M' := M) (st := []) hM cv_L_8 rfl rfl rfl vi_11_0 ⟨by decide, by decide⟩ (by omega) (by simp [Value.category]) rfl (fun _ => ⟨rfl, hG⟩) dL_say_27 rfl (fun h6 => ?_)
    refine mw_istore cx (q := 32) (lv' := [(4, .int r5.1.2), (3, .int r4), (0, .ref (ad 11 0 0)), (1, .int p2), (2, .int p3)]) rfl (by decide) dL_say_30 rfl ?_
    refine mw_aload_n cx (q := 33) 2 rfl rfl dL_say_32 rfl ?_
    refine mw_iload_n cx (q := 34) 3 rfl rfl dL_say_33 rfl ?_
    refine mw_iload_n cx (q := 35) 1 rfl rfl dL_say_34 rfl ?_
    refine mw_bnd (fun r7 er7 => ?_)
    refine mw_callS cx (q := 38) (d := 0) (As := [.int r4]) (z := fip M r7) (st := [.int p2, .ref (ad 11 0 0)]) (st1 := [.int r7, .int p2, .ref (ad 11 0 0)]) (M' := M) (by rw [er7]; exact mc_L_named l D ta ad M r4) cs_L_72 ⟨by decide, by decide⟩ (cs_ok (by omega)) (by simp [Value.category]) rfl rfl rfl dL_say_35 rfl ?_
    refine mw_bnd (fun r8 er8 => ?_)
    refine gl_callS cx hzx hcx ht (q := 41) (d0 := 9) (u0 := 27) (As := [.ref (ad 11 0 0), .int p2, .int r7]) (r := r8.1) (Γ' := GM w r8.2 sb) (st := []) (by rw [er8]; exact ml_L_sayName hl D ta ad p2 r7) hG cs_L_75 ⟨by decide, by decide⟩ (by omega) (by simp [Value.category]) rfl (fun _ => ⟨rfl, rfl⟩) dL_say_38 rfl (fun h9 M hG => ?_)
    refine mw_istore cx (q := 43) (lv' := [(4, .int r8.1.2), (3, .int r4), (0, .ref (ad 11 0 0)), (1, .int p2), (2, .int p3)]) rfl (by decide) dL_say_41 rfl ?_
    refine mw_iload_n cx (q := 44) 1 rfl rfl dL_say_43 rfl ?_
    refine mw_iconst cx (q := 45) (v := 3) dL_say_44 rfl rfl ?_
    refine gl_jn (fun (v10 : Int32 × ST) (M : Wm) => GM w v10.2 sb M) (0 + 58) 80 (fun (v10 : Int32 × ST) => [(0, .ref (ad 11 0 0)), (1, .int p2), (2, .int p3)]) (fun (v10 : Int32 × ST) => [.int v10.1]) (fun v10 M hG => ?_) (fun K11 hK11 => ?_)
    · refine mw_istore cx (q := 82) (lv' := [(4, .int v10.1), (0, .ref (ad 11 0 0)), (1, .int p2), (2, .int p3)]) rfl (by decide) dL_say_80 rfl ?_
      refine mw_iload_n cx (q := 83) 3 rfl rfl dL_say_82 rfl ?_
      refine mw_bipush cx (q := 85) (v := 8) dL_say_83 rfl rfl ?_
      refine mw_ishr cx (q := 86) dL_say_85 rfl ?_
      refine mw_iconst cx (q := 87) (v := 3) dL_say_86 rfl rfl ?_
      refine mw_bnd (fun r19 er19 => ?_)
      refine mw_callS cx (q := 90) (d := 0) (As := [.int (p3 >>> (8 &&& 31)), .int 3]) (z := fip M r19) (st := []) (st1 := [.int r19]) (M' := M) (by rw [er19]; exact mc_L_low l D ta ad M (p3 >>> (8 &&& 31)) 3 (by decide)) cs_L_67 ⟨by decide, by decide⟩ (cs_ok (by omega)) (by simp [Value.category]) rfl rfl rfl dL_say_87 rfl ?_
      refine gl_jn (fun (v20 : Bool) (M : Wm) => GM w v10.2 sb M) (0 + 58) 98 (fun (v20 : Bool) => [(0, .ref (ad 11 0 0)), (1, .int p2), (2, .int p3), (4, .int v10.1)]) (fun (v20 : Bool) => [.int (b2i v20)]) (fun v20 M hG => ?_) (fun K21 hK21 => ?_)
      · refine mw_istore cx (q := 100) (lv' := [(5, .int (b2i v20)), (0, .ref (ad 11 0 0)), (1, .int p2), (2, .int p3), (4, .int v10.1)]) rfl (by decide) dL_say_98 rfl ?_
        refine mw_iload cx (q := 102) 0 rfl dL_say_100 rfl ?_
        refine gl_jn (fun (v23 : Int32 × ST) (M : Wm) => GM w v23.2 sb M) (0 + 61) 117 (fun (v23 : Int32 × ST) => [(0, .ref (ad 11 0 0)), (1, .int p2), (2, .int p3), (5, .int (b2i v20))]) (fun (v23 : Int32 × ST) => [.int v23.1]) (fun v23 M hG => ?_) (fun K24 hK24 => ?_)
        · refine mw_istore cx (q := 119) (lv' := [(4, .int v23.1), (0, .ref (ad 11 0 0)), (1, .int p2), (2, .int p3), (5, .int (b2i v20))]) rfl (by decide) dL_say_117 rfl ?_
          refine mw_iload cx (q := 121) 4 rfl dL_say_119 rfl ?_
          refine gl_jn (fun (v28 : Int32 × ST) (M : Wm) => GM w v28.2 sb M) (0 + 88) 153 (fun (v28 : Int32 × ST) => [(0, .ref (ad 11 0 0)), (1, .int p2), (2, .int p3), (5, .int (b2i v20))]) (fun (v28 : Int32 × ST) => [.int v28.1]) (fun v28 M hG => ?_) (fun K29 hK29 => ?_)
          · refine mw_istore cx (q := 155) (lv' := [(4, .int v28.1), (0, .ref (ad 11 0 0)), (1, .int p2), (2, .int p3), (5, .int (b2i v20))]) rfl (by decide) dL_say_153 rfl ?_
            refine mw_iload cx (q := 157) 4 rfl dL_say_155 rfl ?_
            refine gl_jn (fun (v37 : Int32 × ST) (M : Wm) => GM w v37.2 sb M) (0 + 115) 181 (fun (v37 : Int32 × ST) => [(0, .ref (ad 11 0 0)), (1, .int p2), (2, .int p3), (5, .int (b2i v20))]) (fun (v37 : Int32 × ST) => [.int v37.1]) (fun v37 M hG => ?_) (fun K38 hK38 => ?_)
            · refine mw_istore cx (q := 183) (lv' := [(4, .int v37.1), (0, .ref (ad 11 0 0)), (1, .int p2), (2, .int p3), (5, .int (b2i v20))]) rfl (by decide) dL_say_181 rfl ?_
              refine mw_aload_n cx (q := 184) 1 rfl rfl dL_say_183 rfl ?_
              refine mw_iload_n cx (q := 185) 2 rfl rfl dL_say_184 rfl ?_
              refine mw_iload_n cx (q := 186) 3 rfl rfl dL_say_185 rfl ?_
              refine mw_bipush cx (q := 188) (v := 13) dL_say_186 rfl rfl ?_
              refine mw_ishr cx (q := 189) dL_say_188 rfl ?_
              refine mw_bipush cx (q := 191) (v := 15) dL_say_189 rfl rfl ?_
              refine mw_bnd (fun r43 er43 => ?_)
              refine mw_callS cx (q := 194) (d := 0) (As := [.int (p3 >>> (13 &&& 31)), .int 15]) (z := fip M r43) (st := [.int p2, .ref (ad 11 0 0)]) (st1 := [.int r43, .int p2, .ref (ad 11 0 0)]) (M' := M) (by rw [er43]; exact mc_L_low l D ta ad M (p3 >>> (13 &&& 31)) 15 (by decide)) cs_L_67 ⟨by decide, by decide⟩ (cs_ok (by omega)) (by simp [Value.category]) rfl rfl rfl dL_say_191 rfl ?_
              refine mw_iconst cx (q := 195) (v := 1) dL_say_194 rfl rfl ?_
              refine mw_isub cx (q := 196) dL_say_195 rfl ?_
              refine mw_bnd (fun r44 er44 => ?_)
              refine gl_callS cx hzx hcx ht (q := 199) (d0 := 9) (u0 := 12) (As := [.ref (ad 11 0 0), .int p2, .int (r43 - 1)]) (r := r44.1) (Γ' := GM w r44.2 sb) (st := []) (by rw [er44]; exact ml_L_sayNumber hl D ta ad p2 (r43 - 1)) hG cs_L_79 ⟨by decide, by decide⟩ (by omega) (by simp [Value.category]) rfl (fun _ => ⟨rfl, rfl⟩) dL_say_196 rfl (fun h45 M hG => ?_)
              refine mw_istore cx (q := 201) (lv' := [(4, .int r44.1.2), (0, .ref (ad 11 0 0)), (1, .int p2), (2, .int p3), (5, .int (b2i v20))]) rfl (by decide) dL_say_199 rfl ?_
              refine mw_iload cx (q := 203) 4 rfl dL_say_201 rfl ?_
              refine gl_jn (fun (v46 : Int32 × ST) (M : Wm) => GM w v46.2 sb M) (0 + 130) 218 (fun (v46 : Int32 × ST) => [(0, .ref (ad 11 0 0)), (1, .int p2)]) (fun (v46 : Int32 × ST) => [.int v46.1]) (fun v46 M hG => ?_) (fun K47 hK47 => ?_)
              · refine mw_istore cx (q := 220) (lv' := [(4, .int v46.1), (0, .ref (ad 11 0 0)), (1, .int p2)]) rfl (by decide) dL_say_218 rfl ?_
                refine mw_aload_n cx (q := 221) 1 rfl rfl dL_say_220 rfl ?_
                refine mw_iload_n cx (q := 222) 2 rfl rfl dL_say_221 rfl ?_
                refine mw_bipush cx (q := 224) (v := 41) dL_say_222 rfl rfl ?_
                refine mw_bnd (fun r51 er51 => ?_)
                obtain ⟨M, hG, hM⟩ := C_type (D := D) (ta := ta) (ad := ad) hl hG p2 41
                rw [← er51] at hG hM
                refine gl_callV cx hzx ht (q := 227) (d0 := 8) (u0 := 3) (As := [.int p2, .int 41]) (r := r51.1) (M' := M) (st := []) hM cv_L_8 rfl rfl rfl vi_11_0 ⟨by decide, by decide⟩ (by omega) (by simp [Value.category]) rfl (fun _ => ⟨rfl, hG⟩) dL_say_224 rfl (fun h52 => ?_)
                exact gl_iret cx hr rfl rfl hG (by omega) dL_say_227
              · refine mw_ifb_eq cx (tgt := 216) (q := 206) dL_say_203 (by decide) rfl (fun h48 => ?_) (fun h48 => ?_)
                · refine mw_iload cx (q := 218) 0 rfl dL_say_216 rfl ?_
                  refine mw_sub [1, 2] rfl ?_
                  exact gl_w (by omega) (hK47 (r44.1.2, r44.2) M hG)
                · refine mw_aload_n cx (q := 207) 1 rfl rfl dL_say_206 rfl ?_
                  refine mw_iload_n cx (q := 208) 2 rfl rfl dL_say_207 rfl ?_
                  refine mw_bipush cx (q := 210) (v := 41) dL_say_208 rfl rfl ?_
                  refine mw_bnd (fun r49 er49 => ?_)
                  obtain ⟨M, hG, hM⟩ := C_type (D := D) (ta := ta) (ad := ad) hl hG p2 41
                  rw [← er49] at hG hM
                  refine gl_callV cx hzx ht (q := 213) (d0 := 8) (u0 := 3) (As := [.int p2, .int 41]) (r := r49.1) (M' := M) (st := []) hM cv_L_8 rfl rfl rfl vi_11_0 ⟨by decide, by decide⟩ (by omega) (by simp [Value.category]) rfl (fun _ => ⟨rfl, hG⟩) dL_say_210 rfl (fun h50 => ?_)
                  refine mw_goto cx (tgt := 218) dL_say_213 (by decide) ?_
                  refine mw_sub [1, 2] rfl ?_
                  exact gl_w (by omega) (hK47 (r49.1.2, r49.2) M hG)
            · refine mw_ifb_eq cx (tgt := 179) (q := 160) dL_say_157 (by decide) rfl (fun h39 => ?_) (fun h39 => ?_)
              · refine mw_iload cx (q := 181) 0 rfl dL_say_179 rfl ?_
                refine mw_sub [1, 2, 3, 4] rfl ?_
                exact gl_w (by omega) (hK38 (v28.1, v28.2) M hG)
              · refine mw_aload_n cx (q := 161) 1 rfl rfl dL_say_160 rfl ?_
                refine mw_iload_n cx (q := 162) 2 rfl rfl dL_say_161 rfl ?_
                refine mw_iconst cx (q := 163) (v := 1) dL_say_162 rfl rfl ?_
                refine mw_iload_n cx (q := 164) 3 rfl rfl dL_say_163 rfl ?_
                refine mw_bipush cx (q := 166) (v := 12) dL_say_164 rfl rfl ?_
                refine mw_ishr cx (q := 167) dL_say_166 rfl ?_
                refine mw_bipush cx (q := 169) (v := 9) dL_say_167 rfl rfl ?_
                refine mw_bnd (fun r40 er40 => ?_)
                refine mw_callS cx (q := 172) (d := 0) (As := [.int (p3 >>> (12 &&& 31)), .int 9]) (z := fip M r40) (st := [.int 1, .int p2, .ref (ad 11 0 0)]) (st1 := [.int r40, .int 1, .int p2, .ref (ad 11 0 0)]) (M' := M) (by rw [er40]; exact mc_L_low l D ta ad M (p3 >>> (12 &&& 31)) 9 (by decide)) cs_L_67 ⟨by decide, by decide⟩ (cs_ok (by omega)) (by simp [Value.category]) rfl rfl rfl dL_say_169 rfl ?_
                refine mw_iadd cx (q := 173) dL_say_172 rfl ?_
                refine mw_bnd (fun r41 er41 => ?_)
                refine gl_callS cx hzx hcx ht (q := 176) (d0 := 9) (u0 := 27) (As := [.ref (ad 11 0 0), .int p2, .int (1 + r40)]) (r := r41.1) (Γ' := GM w r41.2 sb) (st := []) (by rw [er41]; exact ml_L_sayName hl D ta ad p2 (1 + r40)) hG cs_L_75 ⟨by decide, by decide⟩ (by omega) (by simp [Value.category]) rfl (fun _ => ⟨rfl, rfl⟩) dL_say_173 rfl (fun h42 M hG => ?_)
                refine mw_goto cx (tgt := 181) dL_say_176 (by decide) ?_
                refine mw_sub [1, 2, 3, 4] rfl ?_
                exact gl_w (by omega) (hK38 (r41.1.2, r41.2) M hG)
          · refine mw_ifb_eq cx (tgt := 151) (q := 124) dL_say_121 (by decide) rfl (fun h30 => ?_) (fun h30 => ?_)
            · refine mw_iload cx (q := 153) 0 rfl dL_say_151 rfl ?_
              refine mw_sub [1, 2, 3, 4] rfl ?_
              exact gl_w (by omega) (hK29 (v23.1, v23.2) M hG)
            · refine mw_aload_n cx (q := 125) 1 rfl rfl dL_say_124 rfl ?_
              refine mw_iload_n cx (q := 126) 2 rfl rfl dL_say_125 rfl ?_
              refine mw_iload_n cx (q := 127) 3 rfl rfl dL_say_126 rfl ?_
              refine mw_bipush cx (q := 129) (v := 10) dL_say_127 rfl rfl ?_
              refine mw_ishr cx (q := 130) dL_say_129 rfl ?_
              refine mw_iconst cx (q := 131) (v := 2) dL_say_130 rfl rfl ?_
              refine mw_bnd (fun r31 er31 => ?_)
              refine mw_callS cx (q := 134) (d := 0) (As := [.int (p3 >>> (10 &&& 31)), .int 2]) (z := fip M r31) (st := [.int p2, .ref (ad 11 0 0)]) (st1 := [.int r31, .int p2, .ref (ad 11 0 0)]) (M' := M) (by rw [er31]; exact mc_L_low l D ta ad M (p3 >>> (10 &&& 31)) 2 (by decide)) cs_L_67 ⟨by decide, by decide⟩ (cs_ok (by omega)) (by simp [Value.category]) rfl rfl rfl dL_say_131 rfl ?_
              refine gl_jn (fun (v32 : Int32) (M : Wm) => GM w v23.2 sb M) (0 + 61) 145 (fun (v32 : Int32) => [(0, .ref (ad 11 0 0)), (1, .int p2), (2, .int p3), (5, .int (b2i v20))]) (fun (v32 : Int32) => [.int v32, .int p2, .ref (ad 11 0 0)]) (fun v32 M hG => ?_) (fun K33 hK33 => ?_)
              · refine mw_bnd (fun r35 er35 => ?_)
                refine gl_callS cx hzx hcx ht (q := 148) (d0 := 9) (u0 := 27) (As := [.ref (ad 11 0 0), .int p2, .int v32]) (r := r35.1) (Γ' := GM w r35.2 sb) (st := []) (by rw [er35]; exact ml_L_sayName hl D ta ad p2 v32) hG cs_L_75 ⟨by decide, by decide⟩ (by omega) (by simp [Value.category]) rfl (fun _ => ⟨rfl, rfl⟩) dL_say_145 rfl (fun h36 M hG => ?_)
                refine mw_goto cx (tgt := 153) dL_say_148 (by decide) ?_
                exact gl_w (by omega) (hK29 (r35.1.2, r35.2) M hG)
              · refine mw_if_ne cx (tgt := 143) (q := 137) dL_say_134 (by decide) rfl (fun h34 => ?_) (fun h34 => ?_)
                · refine mw_ldc cx (q := 145) (v := 394691) dL_say_143 rfl ld_L_61 ?_
                  refine mw_sub [1, 2, 3, 4] rfl ?_
                  exact gl_w (by omega) (hK33 394691 M hG)
                · refine mw_sipush cx (q := 140) (v := 841) dL_say_137 rfl rfl ?_
                  refine mw_goto cx (tgt := 145) dL_say_140 (by decide) ?_
                  refine mw_sub [1, 2, 3, 4] rfl ?_
                  exact gl_w (by omega) (hK33 841 M hG)
        · refine mw_ifb_eq cx (tgt := 115) (q := 105) dL_say_102 (by decide) rfl (fun h25 => ?_) (fun h25 => ?_)
          · refine mw_iload cx (q := 117) 4 rfl dL_say_115 rfl ?_
            refine mw_sub [1, 2, 3, 0] rfl ?_
            exact gl_w (by omega) (hK24 (v10.1, v10.2) M hG)
          · refine mw_aload_n cx (q := 106) 1 rfl rfl dL_say_105 rfl ?_
            refine mw_iload_n cx (q := 107) 2 rfl rfl dL_say_106 rfl ?_
            refine mw_bipush cx (q := 109) (v := 40) dL_say_107 rfl rfl ?_
            refine mw_bnd (fun r26 er26 => ?_)
            obtain ⟨M, hG, hM⟩ := C_type (D := D) (ta := ta) (ad := ad) hl hG p2 40
            rw [← er26] at hG hM
            refine gl_callV cx hzx ht (q := 112) (d0 := 8) (u0 := 3) (As := [.int p2, .int 40]) (r := r26.1) (M' := M) (st := []) hM cv_L_8 rfl rfl rfl vi_11_0 ⟨by decide, by decide⟩ (by omega) (by simp [Value.category]) rfl (fun _ => ⟨rfl, hG⟩) dL_say_109 rfl (fun h27 => ?_)
            refine mw_goto cx (tgt := 117) dL_say_112 (by decide) ?_
            refine mw_sub [1, 2, 3, 0] rfl ?_
            exact gl_w (by omega) (hK24 (r26.1.2, r26.2) M hG)
      · refine mw_if_ne cx (tgt := 97) (q := 93) dL_say_90 (by decide) rfl (fun h22 => ?_) (fun h22 => ?_)
        · refine mw_iconst cx (q := 98) (v := 0) dL_say_97 rfl rfl ?_
          refine mw_sub [1, 2, 3, 0] rfl ?_
          exact gl_w (by omega) (hK21 false M hG)
        · refine mw_iconst cx (q := 94) (v := 1) dL_say_93 rfl rfl ?_
          refine mw_goto cx (tgt := 98) dL_say_94 (by decide) ?_
          refine mw_sub [1, 2, 3, 0] rfl ?_
          exact gl_w (by omega) (hK21 true M hG)
    · refine mw_icmp_ge cx (tgt := 65) (q := 48) dL_say_45 (by decide) rfl (fun h12 => ?_) (fun h12 => ?_)
      · refine mw_aload_n cx (q := 66) 2 rfl rfl dL_say_65 rfl ?_
        refine mw_iload_n cx (q := 67) 3 rfl rfl dL_say_66 rfl ?_
        refine mw_iload_n cx (q := 68) 4 rfl rfl dL_say_67 rfl ?_
        refine mw_iconst cx (q := 69) (v := 4) dL_say_68 rfl rfl ?_
        refine mw_ishr cx (q := 70) dL_say_69 rfl ?_
        refine mw_bipush cx (q := 72) (v := 9) dL_say_70 rfl rfl ?_
        refine mw_bnd (fun r13 er13 => ?_)
        refine mw_callS cx (q := 75) (d := 0) (As := [.int (p3 >>> (4 &&& 31)), .int 9]) (z := fip M r13) (st := [.int p2, .ref (ad 11 0 0)]) (st1 := [.int r13, .int p2, .ref (ad 11 0 0)]) (M' := M) (by rw [er13]; exact mc_L_low l D ta ad M (p3 >>> (4 &&& 31)) 9 (by decide)) cs_L_67 ⟨by decide, by decide⟩ (cs_ok (by omega)) (by simp [Value.category]) rfl rfl rfl dL_say_72 rfl ?_
        refine mw_iconst cx (q := 76) (v := 2) dL_say_75 rfl rfl ?_
        refine mw_isub cx (q := 77) dL_say_76 rfl ?_
        refine mw_bnd (fun r14 er14 => ?_)
        refine gl_callS cx hzx hcx ht (q := 80) (d0 := 9) (u0 := 12) (As := [.ref (ad 11 0 0), .int p2, .int (r13 - 2)]) (r := r14.1) (Γ' := GM w r14.2 sb) (st := []) (by rw [er14]; exact ml_L_sayNumber hl D ta ad p2 (r13 - 2)) hG cs_L_79 ⟨by decide, by decide⟩ (by omega) (by simp [Value.category]) rfl (fun _ => ⟨rfl, rfl⟩) dL_say_77 rfl (fun h15 M hG => ?_)
        refine mw_sub [2, 3, 4] rfl ?_
        exact gl_w (by omega) (hK11 (r14.1.2, r14.2) M hG)
      · refine mw_aload_n cx (q := 49) 2 rfl rfl dL_say_48 rfl ?_
        refine mw_iload_n cx (q := 50) 3 rfl rfl dL_say_49 rfl ?_
        refine mw_iconst cx (q := 51) (v := 1) dL_say_50 rfl rfl ?_
        refine mw_iload_n cx (q := 52) 4 rfl rfl dL_say_51 rfl ?_
        refine mw_iconst cx (q := 53) (v := 4) dL_say_52 rfl rfl ?_
        refine mw_ishr cx (q := 54) dL_say_53 rfl ?_
        refine mw_iconst cx (q := 55) (v := 3) dL_say_54 rfl rfl ?_
        refine mw_bnd (fun r16 er16 => ?_)
        refine mw_callS cx (q := 58) (d := 0) (As := [.int (p3 >>> (4 &&& 31)), .int 3]) (z := fip M r16) (st := [.int 1, .int p2, .ref (ad 11 0 0)]) (st1 := [.int r16, .int 1, .int p2, .ref (ad 11 0 0)]) (M' := M) (by rw [er16]; exact mc_L_low l D ta ad M (p3 >>> (4 &&& 31)) 3 (by decide)) cs_L_67 ⟨by decide, by decide⟩ (cs_ok (by omega)) (by simp [Value.category]) rfl rfl rfl dL_say_55 rfl ?_
        refine mw_iadd cx (q := 59) dL_say_58 rfl ?_
        refine mw_bnd (fun r17 er17 => ?_)
        refine gl_callS cx hzx hcx ht (q := 62) (d0 := 9) (u0 := 27) (As := [.ref (ad 11 0 0), .int p2, .int (1 + r16)]) (r := r17.1) (Γ' := GM w r17.2 sb) (st := []) (by rw [er17]; exact ml_L_sayName hl D ta ad p2 (1 + r16)) hG cs_L_75 ⟨by decide, by decide⟩ (by omega) (by simp [Value.category]) rfl (fun _ => ⟨rfl, rfl⟩) dL_say_59 rfl (fun h18 M hG => ?_)
        refine mw_goto cx (tgt := 80) dL_say_62 (by decide) ?_
        refine mw_sub [2, 3, 4] rfl ?_
        exact gl_w (by omega) (hK11 (r17.1.2, r17.2) M hG)
  · refine mw_aload_n cx (q := 11) 0 rfl rfl dL_say_10 rfl ?_
    refine mw_iload_n cx (q := 12) 1 rfl rfl dL_say_11 rfl ?_
    refine mw_bnd (fun r53 er53 => ?_)
    obtain ⟨M, hG, hM⟩ := C_length (D := D) (ta := ta) (ad := ad) hl hG p2
    rw [← er53] at hM
    refine gl_callV cx hzx ht (q := 15) (d0 := 8) (u0 := 1) (As := [.int p2]) (r := r53) (M' := M) (st := []) hM cv_L_64 rfl rfl rfl vi_11_0 ⟨by decide, by decide⟩ (by omega) (by simp [Value.category]) rfl (fun _ => ⟨rfl, hG⟩) dL_say_12 rfl (fun h54 => ?_)
    exact gl_iret cx hr rfl rfl hG (by omega) dL_say_15
noncomputable def fL_act (sa : ST) (p2 : Int32) : ((Nat × Int32) × ST) := bnd (fL_low (p2 >>> (24 &&& 31)) 9) (fun (r1 : Int32) => jn (fun (v2 : Bool) => jn (fun (v5 : Int32) => jn (fun (v10 : Int32) => bnd (fL_low p2 20) (fun (r15 : Int32) => if r15 = 0 then jn (fun (v17 : Int32) => bnd (W_type sa v5 v17) (fun (r27 : Int32 × ST) => ((0, r27.1), r27.2))) (fun K18 => if v2 = true then bnd (fL_low (p2 >>> (7 &&& 31)) 130) (fun (r26 : Int32) => K18 r26) else bnd (fL_low (p2 >>> (7 &&& 31)) 4) (fun (r20 : Int32) => if r20 = 0 then K18 32 else bnd (fL_low (p2 >>> (7 &&& 31)) 4) (fun (r22 : Int32) => if r22 = 1 then K18 40 else bnd (fL_low (p2 >>> (7 &&& 31)) 4) (fun (r24 : Int32) => if r24 = 2 then K18 41 else K18 49)))) else if r15 = 1 then jn (fun (v29 : Int32) => bnd (W_erase sa v5 v29) (fun (r36 : Int32 × ST) => ((0, r36.1), r36.2))) (fun K30 => if v2 = true then bnd (fL_low (p2 >>> (7 &&& 31)) 5) (fun (r35 : Int32) => K30 (r35 - 1)) else bnd (fL_low (p2 >>> (7 &&& 31)) 3) (fun (r32 : Int32) => if r32 = 0 then K30 200 else bnd (fL_low (p2 >>> (9 &&& 31)) 9) (fun (r34 : Int32) => K30 (1 + r34)))) else if r15 = 2 then jn (fun (v38 : Int32) => bnd (W_giveRations sa v10 v38) (fun (r43 : Int32 × ST) => ((0, r43.1), r43.2))) (fun K39 => if v2 = true then bnd (fL_low (p2 >>> (9 &&& 31)) 1003) (fun (r42 : Int32) => K39 r42) else bnd (fL_low (p2 >>> (9 &&& 31)) 20) (fun (r41 : Int32) => K39 (1 + r41))) else if r15 = 3 then jn (fun (v45 : Int32) => bnd (W_buy sa v10 v45) (fun (r50 : Int32 × ST) => ((0, r50.1), r50.2))) (fun K46 => if v2 = true then bnd (fL_low (p2 >>> (9 &&& 31)) 30) (fun (r49 : Int32) => K46 (r49 - 1)) else bnd (fL_low (p2 >>> (9 &&& 31)) 5) (fun (r48 : Int32) => K46 (1 + r48))) else if r15 = 4 then jn (fun (v52 : Int32) => bnd (W_setTariff sa v52) (fun (r57 : Int32 × ST) => ((0, r57.1), r57.2))) (fun K53 => if v2 = true then bnd (fL_low (p2 >>> (9 &&& 31)) 103) (fun (r56 : Int32) => K53 (r56 - 1)) else bnd (fL_low (p2 >>> (9 &&& 31)) 12) (fun (r55 : Int32) => K53 r55)) else if r15 = 5 then jn (fun (v59 : Bool) => bnd (W_setBuying sa v10 v59) (fun (r62 : Int32 × ST) => ((0, r62.1), r62.2))) (fun K60 => if ((p2 >>> (9 &&& 31)) &&& 1) = 1 then K60 true else K60 false) else if r15 = 6 then bnd (fL_low (p2 >>> (9 &&& 31)) 4) (fun (r64 : Int32) => jn (fun (v65 : Int32) => bnd (W_setCredit sa v10 r64 v65) (fun (r70 : Int32 × ST) => ((0, r70.1), r70.2))) (fun K66 => if v2 = true then bnd (fL_low (p2 >>> (11 &&& 31)) 1003) (fun (r69 : Int32) => K66 (r69 - 1)) else bnd (fL_low (p2 >>> (11 &&& 31)) 30) (fun (r68 : Int32) => K66 r68))) else if r15 = 7 then bnd (fL_low (p2 >>> (9 &&& 31)) 4) (fun (r72 : Int32) => bnd (fL_low (p2 >>> (11 &&& 31)) 9) (fun (r73 : Int32) => jn (fun (v74 : Int32) => bnd (W_payBack sa v10 r72 (r73 - v74)) (fun (r77 : Int32 × ST) => ((0, r77.1), r77.2))) (fun K75 => if v2 = true then K75 1 else K75 (-1)))) else if r15 = 8 then jn (fun (v79 : Int32) => jn (fun (v84 : Int32) => bnd (W_order sa v10 v5 v79 v84) (fun (r89 : Int32 × ST) => ((0, r89.1), r89.2))) (fun K85 => if v2 = true then bnd (fL_low (p2 >>> (9 &&& 31)) 1003) (fun (r88 : Int32) => K85 (r88 - 1)) else bnd (fL_low (p2 >>> (11 &&& 31)) 20) (fun (r87 : Int32) => K85 (1 + r87)))) (fun K80 => if v2 = true then bnd (fL_low (p2 >>> (9 &&& 31)) 103) (fun (r83 : Int32) => K80 (r83 - 1)) else bnd (fL_low (p2 >>> (9 &&& 31)) 2) (fun (r82 : Int32) => K80 (1 + r82))) else if r15 = 9 then jn (fun (v91 : Int32) => jn (fun (v96 : Int32) => bnd (W_order sa v10 v5 v91 v96) (fun (r101 : Int32 × ST) => ((0, r101.1), r101.2))) (fun K97 => if v2 = true then bnd (fL_low (p2 >>> (9 &&& 31)) 1003) (fun (r100 : Int32) => K97 (r100 - 1)) else bnd (fL_low (p2 >>> (11 &&& 31)) 20) (fun (r99 : Int32) => K97 (1 + r99)))) (fun K92 => if v2 = true then bnd (fL_low (p2 >>> (9 &&& 31)) 103) (fun (r95 : Int32) => K92 (r95 - 1)) else bnd (fL_low (p2 >>> (9 &&& 31)) 2) (fun (r94 : Int32) => K92 (1 + r94))) else if r15 = 10 then jn (fun (v103 : Int32) => jn (fun (v108 : Int32) => bnd (W_order sa v10 v5 v103 v108) (fun (r113 : Int32 × ST) => ((0, r113.1), r113.2))) (fun K109 => if v2 = true then bnd (fL_low (p2 >>> (9 &&& 31)) 1003) (fun (r112 : Int32) => K109 (r112 - 1)) else bnd (fL_low (p2 >>> (11 &&& 31)) 20) (fun (r111 : Int32) => K109 (1 + r111)))) (fun K104 => if v2 = true then bnd (fL_low (p2 >>> (9 &&& 31)) 103) (fun (r107 : Int32) => K104 (r107 - 1)) else bnd (fL_low (p2 >>> (9 &&& 31)) 2) (fun (r106 : Int32) => K104 (1 + r106))) else if r15 = 11 then jn (fun (v115 : Int32) => bnd (W_pass sa v115) (fun (r120 : Int32 × ST) => ((0, r120.1), r120.2))) (fun K116 => if v2 = true then bnd (fL_low (p2 >>> (4 &&& 31)) 103) (fun (r119 : Int32) => K116 (r119 - 1)) else bnd (fL_low (p2 >>> (4 &&& 31)) 2) (fun (r118 : Int32) => K116 (1 + r118))) else if r15 = 12 then jn (fun (v122 : Int32) => bnd (W_pass sa v122) (fun (r127 : Int32 × ST) => ((0, r127.1), r127.2))) (fun K123 => if v2 = true then bnd (fL_low (p2 >>> (4 &&& 31)) 103) (fun (r126 : Int32) => K123 (r126 - 1)) else bnd (fL_low (p2 >>> (4 &&& 31)) 2) (fun (r125 : Int32) => K123 (1 + r125))) else if r15 = 13 then jn (fun (v129 : Int32) => jn (fun (v135 : Int32) => bnd (W_takeUp sa v129 v135) (fun (r140 : Int32 × ST) => ((0, r140.1), r140.2))) (fun K136 => if v2 = true then bnd (fL_low (p2 >>> (9 &&& 31)) 1003) (fun (r139 : Int32) => K136 r139) else bnd (fL_low (p2 >>> (9 &&& 31)) 30) (fun (r138 : Int32) => K136 (5 + r138)))) (fun K130 => if v2 = true then bnd (fL_low (p2 >>> (4 &&& 31)) 63) (fun (r134 : Int32) => K130 (r134 - 1)) else if (sa.2.2 0 0 11) = 0 then K130 0 else bnd (fL_low (p2 >>> (4 &&& 31)) (sa.2.2 0 0 11)) (fun (r133 : Int32) => K130 r133)) else if v2 = true then bnd (W_type sa 0 33) (fun (r144 : Int32 × ST) => ((0, r144.1), r144.2)) else bnd (fL_say sa v5 (p2 >>> (7 &&& 31))) (fun (r142 : (Nat × Int32) × ST) => if r142.1.1 = 0 then ((0, r142.1.2), r142.2) else ((r142.1.1, 0), r142.2)))) (fun K11 => if v2 = true then bnd (fL_low (p2 >>> (7 &&& 31)) 6) (fun (r14 : Int32) => K11 (r14 - 1)) else bnd (fL_low (p2 >>> (7 &&& 31)) 4) (fun (r13 : Int32) => K11 r13))) (fun K6 => if v2 = true then bnd (fL_low (p2 >>> (4 &&& 31)) 10) (fun (r9 : Int32) => K6 (r9 - 1)) else bnd (fL_low (p2 >>> (4 &&& 31)) 3) (fun (r8 : Int32) => K6 r8))) (fun K3 => if r1 = 0 then K3 true else K3 false))
set_option maxHeartbeats 4000000 in
set_option maxRecDepth 100000 in
theorem ml_L_act (hl : l.stackTraces = false) (D : va_G) (ta : wTa) (ad : wAd) (p2 : Int32) (hk : sa.2.1 < 10000) : ML l D ta ad yL_act (.code yL_act cL_act 5 (some .int)) 222 133 [.ref (ad 11 0 0), .int p2] (GM w sa sb) ((fL_act sa p2).1, GM w (fL_act sa p2).2 sb) := by
  refine ML.of (fun z : (Nat × Int32) × ST => (z.1, GM w z.2 sb)) (fL_act sa p2) rfl (by decide) (Nat.le_of_ble_eq_true rfl) (fun p e s m args below meth c cx hzx hcx ht hr M hG => ?_)
  unfold fL_act
  refine mw_sub (lv' := [(0, .ref (ad 11 0 0)), (1, .int p2)]) [0, 1] rfl ?_
  refine mw_iload_n cx (q := 1) 1 rfl rfl dL_act_0 rfl ?_
  refine mw_bipush cx (q := 3) (v := 24) dL_act_1 rfl rfl ?_
  refine mw_ishr cx (q := 4) dL_act_3 rfl ?_
  refine mw_bipush cx (q := 6) (v := 9) dL_act_4 rfl rfl ?_
  refine mw_bnd (fun r1 er1 => ?_)
  refine mw_callS cx (q := 9) (d := 0) (As := [.int (p2 >>> (24 &&& 31)), .int 9]) (z := fip M r1) (st := []) (st1 := [.int r1]) (M' := M) (by rw [er1]; exact mc_L_low l D ta ad M (p2 >>> (24 &&& 31)) 9 (by decide)) cs_L_67 ⟨by decide, by decide⟩ (cs_ok (by omega)) (by simp [Value.category]) rfl rfl rfl dL_act_6 rfl ?_
  refine gl_jn (fun (v2 : Bool) (M : Wm) => GM w sa sb M) (0) 17 (fun (v2 : Bool) => [(0, .ref (ad 11 0 0)), (1, .int p2)]) (fun (v2 : Bool) => [.int (b2i v2)]) (fun v2 M hG => ?_) (fun K3 hK3 => ?_)
  · refine mw_istore_n cx (q := 18) (lv' := [(2, .int (b2i v2)), (0, .ref (ad 11 0 0)), (1, .int p2)]) rfl rfl (by decide) dL_act_17 rfl ?_
    refine mw_iload_n cx (q := 19) 0 rfl rfl dL_act_18 rfl ?_
    refine gl_jn (fun (v5 : Int32) (M : Wm) => GM w sa sb M) (0) 42 (fun (v5 : Int32) => [(0, .ref (ad 11 0 0)), (1, .int p2), (2, .int (b2i v2))]) (fun (v5 : Int32) => [.int v5]) (fun v5 M hG => ?_) (fun K6 hK6 => ?_)
    · refine mw_istore_n cx (q := 43) (lv' := [(3, .int v5), (0, .ref (ad 11 0 0)), (1, .int p2), (2, .int (b2i v2))]) rfl rfl (by decide) dL_act_42 rfl ?_
      refine mw_iload_n cx (q := 44) 3 rfl rfl dL_act_43 rfl ?_
      refine gl_jn (fun (v10 : Int32) (M : Wm) => GM w sa sb M) (0) 69 (fun (v10 : Int32) => [(0, .ref (ad 11 0 0)), (1, .int p2), (2, .int (b2i v2)), (3, .int v5)]) (fun (v10 : Int32) => [.int v10]) (fun v10 M hG => ?_) (fun K11 hK11 => ?_)
      · refine mw_istore cx (q := 71) (lv' := [(4, .int v10), (0, .ref (ad 11 0 0)), (1, .int p2), (2, .int (b2i v2)), (3, .int v5)]) rfl (by decide) dL_act_69 rfl ?_
        refine mw_iload_n cx (q := 72) 2 rfl rfl dL_act_71 rfl ?_
        refine mw_bipush cx (q := 74) (v := 20) dL_act_72 rfl rfl ?_
        refine mw_bnd (fun r15 er15 => ?_)
        refine mw_callS cx (q := 77) (d := 0) (As := [.int p2, .int 20]) (z := fip M r15) (st := []) (st1 := [.int r15]) (M' := M) (by rw [er15]; exact mc_L_low l D ta ad M p2 20 (by decide)) cs_L_67 ⟨by decide, by decide⟩ (cs_ok (by omega)) (by simp [Value.category]) rfl rfl rfl dL_act_74 rfl ?_
        refine mw_split (fun h16 => ?_) (fun h16 => ?_)
        · refine mw_tableIn cx (tgt := 148) dL_act_77 (by rw [h16]; decide) (by rw [h16]; decide) (by rw [h16]; try rfl) (by decide) ?_
          refine mw_aload_n cx (q := 149) 1 rfl rfl dL_act_148 rfl ?_
          refine mw_iload_n cx (q := 150) 4 rfl rfl dL_act_149 rfl ?_
          refine mw_iload_n cx (q := 151) 3 rfl rfl dL_act_150 rfl ?_
          refine gl_jn (fun (v17 : Int32) (M : Wm) => GM w sa sb M) (0) 219 (fun (v17 : Int32) => []) (fun (v17 : Int32) => [.int v17, .int v5, .ref (ad 11 0 0)]) (fun v17 M hG => ?_) (fun K18 hK18 => ?_)
          · refine mw_bnd (fun r27 er27 => ?_)
            refine gl_callH cx hzx hcx (q := 222) (d0 := 9) (u0 := 3) (As := [.ref (ad 11 0 0), .int v5, .int v17]) (x := r27.1) (Γ' := GM w r27.2 sb) (st := []) (by rw [er27]; exact ml_L_type hl D ta ad v5 v17) hG cs_L_82 ⟨by decide, by decide⟩ (by omega) (by simp [Value.category]) rfl dL_act_219 rfl (fun M hG => ?_)
            exact gl_iret cx hr rfl rfl hG (by omega) dL_act_222
          · refine mw_ifb_eq cx (tgt := 167) (q := 154) dL_act_151 (by decide) rfl (fun h19 => ?_) (fun h19 => ?_)
            · refine mw_iload_n cx (q := 168) 2 rfl rfl dL_act_167 rfl ?_
              refine mw_bipush cx (q := 170) (v := 7) dL_act_168 rfl rfl ?_
              refine mw_ishr cx (q := 171) dL_act_170 rfl ?_
              refine mw_iconst cx (q := 172) (v := 4) dL_act_171 rfl rfl ?_
              refine mw_bnd (fun r20 er20 => ?_)
              refine mw_callS cx (q := 175) (d := 0) (As := [.int (p2 >>> (7 &&& 31)), .int 4]) (z := fip M r20) (st := [.int v5, .ref (ad 11 0 0)]) (st1 := [.int r20, .int v5, .ref (ad 11 0 0)]) (M' := M) (by rw [er20]; exact mc_L_low l D ta ad M (p2 >>> (7 &&& 31)) 4 (by decide)) cs_L_67 ⟨by decide, by decide⟩ (cs_ok (by omega)) (by simp [Value.category]) rfl rfl rfl dL_act_172 rfl ?_
              refine mw_if_ne cx (tgt := 183) (q := 178) dL_act_175 (by decide) rfl (fun h21 => ?_) (fun h21 => ?_)
              · refine mw_iload_n cx (q := 184) 2 rfl rfl dL_act_183 rfl ?_
                refine mw_bipush cx (q := 186) (v := 7) dL_act_184 rfl rfl ?_
                refine mw_ishr cx (q := 187) dL_act_186 rfl ?_
                refine mw_iconst cx (q := 188) (v := 4) dL_act_187 rfl rfl ?_
                refine mw_bnd (fun r22 er22 => ?_)
                refine mw_callS cx (q := 191) (d := 0) (As := [.int (p2 >>> (7 &&& 31)), .int 4]) (z := fip M r22) (st := [.int v5, .ref (ad 11 0 0)]) (st1 := [.int r22, .int v5, .ref (ad 11 0 0)]) (M' := M) (by rw [er22]; exact mc_L_low l D ta ad M (p2 >>> (7 &&& 31)) 4 (by decide)) cs_L_67 ⟨by decide, by decide⟩ (cs_ok (by omega)) (by simp [Value.category]) rfl rfl rfl dL_act_188 rfl ?_
                refine mw_iconst cx (q := 192) (v := 1) dL_act_191 rfl rfl ?_
                refine mw_icmp_ne cx (tgt := 200) (q := 195) dL_act_192 (by decide) rfl (fun h23 => ?_) (fun h23 => ?_)
                · refine mw_iload_n cx (q := 201) 2 rfl rfl dL_act_200 rfl ?_
                  refine mw_bipush cx (q := 203) (v := 7) dL_act_201 rfl rfl ?_
                  refine mw_ishr cx (q := 204) dL_act_203 rfl ?_
                  refine mw_iconst cx (q := 205) (v := 4) dL_act_204 rfl rfl ?_
                  refine mw_bnd (fun r24 er24 => ?_)
                  refine mw_callS cx (q := 208) (d := 0) (As := [.int (p2 >>> (7 &&& 31)), .int 4]) (z := fip M r24) (st := [.int v5, .ref (ad 11 0 0)]) (st1 := [.int r24, .int v5, .ref (ad 11 0 0)]) (M' := M) (by rw [er24]; exact mc_L_low l D ta ad M (p2 >>> (7 &&& 31)) 4 (by decide)) cs_L_67 ⟨by decide, by decide⟩ (cs_ok (by omega)) (by simp [Value.category]) rfl rfl rfl dL_act_205 rfl ?_
                  refine mw_iconst cx (q := 209) (v := 2) dL_act_208 rfl rfl ?_
                  refine mw_icmp_ne cx (tgt := 217) (q := 212) dL_act_209 (by decide) rfl (fun h25 => ?_) (fun h25 => ?_)
                  · refine mw_bipush cx (q := 219) (v := 49) dL_act_217 rfl rfl ?_
                    refine mw_sub [] rfl ?_
                    exact gl_w (by omega) (hK18 49 M hG)
                  · refine mw_bipush cx (q := 214) (v := 41) dL_act_212 rfl rfl ?_
                    refine mw_goto cx (tgt := 219) dL_act_214 (by decide) ?_
                    refine mw_sub [] rfl ?_
                    exact gl_w (by omega) (hK18 41 M hG)
                · refine mw_bipush cx (q := 197) (v := 40) dL_act_195 rfl rfl ?_
                  refine mw_goto cx (tgt := 219) dL_act_197 (by decide) ?_
                  refine mw_sub [] rfl ?_
                  exact gl_w (by omega) (hK18 40 M hG)
              · refine mw_bipush cx (q := 180) (v := 32) dL_act_178 rfl rfl ?_
                refine mw_goto cx (tgt := 219) dL_act_180 (by decide) ?_
                refine mw_sub [] rfl ?_
                exact gl_w (by omega) (hK18 32 M hG)
            · refine mw_iload_n cx (q := 155) 2 rfl rfl dL_act_154 rfl ?_
              refine mw_bipush cx (q := 157) (v := 7) dL_act_155 rfl rfl ?_
              refine mw_ishr cx (q := 158) dL_act_157 rfl ?_
              refine mw_sipush cx (q := 161) (v := 130) dL_act_158 rfl rfl ?_
              refine mw_bnd (fun r26 er26 => ?_)
              refine mw_callS cx (q := 164) (d := 0) (As := [.int (p2 >>> (7 &&& 31)), .int 130]) (z := fip M r26) (st := [.int v5, .ref (ad 11 0 0)]) (st1 := [.int r26, .int v5, .ref (ad 11 0 0)]) (M' := M) (by rw [er26]; exact mc_L_low l D ta ad M (p2 >>> (7 &&& 31)) 130 (by decide)) cs_L_67 ⟨by decide, by decide⟩ (cs_ok (by omega)) (by simp [Value.category]) rfl rfl rfl dL_act_161 rfl ?_
              refine mw_goto cx (tgt := 219) dL_act_164 (by decide) ?_
              refine mw_sub [] rfl ?_
              exact gl_w (by omega) (hK18 r26 M hG)
        · refine mw_split (fun h28 => ?_) (fun h28 => ?_)
          · refine mw_tableIn cx (tgt := 223) dL_act_77 (by rw [h28]; decide) (by rw [h28]; decide) (by rw [h28]; try rfl) (by decide) ?_
            refine mw_aload_n cx (q := 224) 1 rfl rfl dL_act_223 rfl ?_
            refine mw_iload_n cx (q := 225) 4 rfl rfl dL_act_224 rfl ?_
            refine mw_iload_n cx (q := 226) 3 rfl rfl dL_act_225 rfl ?_
            refine gl_jn (fun (v29 : Int32) (M : Wm) => GM w sa sb M) (0) 270 (fun (v29 : Int32) => []) (fun (v29 : Int32) => [.int v29, .int v5, .ref (ad 11 0 0)]) (fun v29 M hG => ?_) (fun K30 hK30 => ?_)
            · refine mw_bnd (fun r36 er36 => ?_)
              refine gl_callH cx hzx hcx (q := 273) (d0 := 9) (u0 := 2) (As := [.ref (ad 11 0 0), .int v5, .int v29]) (x := r36.1) (Γ' := GM w r36.2 sb) (st := []) (by rw [er36]; exact ml_L_erase hl D ta ad v5 v29) hG cs_L_84 ⟨by decide, by decide⟩ (by omega) (by simp [Value.category]) rfl dL_act_270 rfl (fun M hG => ?_)
              exact gl_iret cx hr rfl rfl hG (by omega) dL_act_273
            · refine mw_ifb_eq cx (tgt := 242) (q := 229) dL_act_226 (by decide) rfl (fun h31 => ?_) (fun h31 => ?_)
              · refine mw_iload_n cx (q := 243) 2 rfl rfl dL_act_242 rfl ?_
                refine mw_bipush cx (q := 245) (v := 7) dL_act_243 rfl rfl ?_
                refine mw_ishr cx (q := 246) dL_act_245 rfl ?_
                refine mw_iconst cx (q := 247) (v := 3) dL_act_246 rfl rfl ?_
                refine mw_bnd (fun r32 er32 => ?_)
                refine mw_callS cx (q := 250) (d := 0) (As := [.int (p2 >>> (7 &&& 31)), .int 3]) (z := fip M r32) (st := [.int v5, .ref (ad 11 0 0)]) (st1 := [.int r32, .int v5, .ref (ad 11 0 0)]) (M' := M) (by rw [er32]; exact mc_L_low l D ta ad M (p2 >>> (7 &&& 31)) 3 (by decide)) cs_L_67 ⟨by decide, by decide⟩ (cs_ok (by omega)) (by simp [Value.category]) rfl rfl rfl dL_act_247 rfl ?_
                refine mw_if_ne cx (tgt := 259) (q := 253) dL_act_250 (by decide) rfl (fun h33 => ?_) (fun h33 => ?_)
                · refine mw_iconst cx (q := 260) (v := 1) dL_act_259 rfl rfl ?_
                  refine mw_iload_n cx (q := 261) 2 rfl rfl dL_act_260 rfl ?_
                  refine mw_bipush cx (q := 263) (v := 9) dL_act_261 rfl rfl ?_
                  refine mw_ishr cx (q := 264) dL_act_263 rfl ?_
                  refine mw_bipush cx (q := 266) (v := 9) dL_act_264 rfl rfl ?_
                  refine mw_bnd (fun r34 er34 => ?_)
                  refine mw_callS cx (q := 269) (d := 0) (As := [.int (p2 >>> (9 &&& 31)), .int 9]) (z := fip M r34) (st := [.int 1, .int v5, .ref (ad 11 0 0)]) (st1 := [.int r34, .int 1, .int v5, .ref (ad 11 0 0)]) (M' := M) (by rw [er34]; exact mc_L_low l D ta ad M (p2 >>> (9 &&& 31)) 9 (by decide)) cs_L_67 ⟨by decide, by decide⟩ (cs_ok (by omega)) (by simp [Value.category]) rfl rfl rfl dL_act_266 rfl ?_
                  refine mw_iadd cx (q := 270) dL_act_269 rfl ?_
                  refine mw_sub [] rfl ?_
                  exact gl_w (by omega) (hK30 (1 + r34) M hG)
                · refine mw_sipush cx (q := 256) (v := 200) dL_act_253 rfl rfl ?_
                  refine mw_goto cx (tgt := 270) dL_act_256 (by decide) ?_
                  refine mw_sub [] rfl ?_
                  exact gl_w (by omega) (hK30 200 M hG)
              · refine mw_iload_n cx (q := 230) 2 rfl rfl dL_act_229 rfl ?_
                refine mw_bipush cx (q := 232) (v := 7) dL_act_230 rfl rfl ?_
                refine mw_ishr cx (q := 233) dL_act_232 rfl ?_
                refine mw_iconst cx (q := 234) (v := 5) dL_act_233 rfl rfl ?_
                refine mw_bnd (fun r35 er35 => ?_)
                refine mw_callS cx (q := 237) (d := 0) (As := [.int (p2 >>> (7 &&& 31)), .int 5]) (z := fip M r35) (st := [.int v5, .ref (ad 11 0 0)]) (st1 := [.int r35, .int v5, .ref (ad 11 0 0)]) (M' := M) (by rw [er35]; exact mc_L_low l D ta ad M (p2 >>> (7 &&& 31)) 5 (by decide)) cs_L_67 ⟨by decide, by decide⟩ (cs_ok (by omega)) (by simp [Value.category]) rfl rfl rfl dL_act_234 rfl ?_
                refine mw_iconst cx (q := 238) (v := 1) dL_act_237 rfl rfl ?_
                refine mw_isub cx (q := 239) dL_act_238 rfl ?_
                refine mw_goto cx (tgt := 270) dL_act_239 (by decide) ?_
                refine mw_sub [] rfl ?_
                exact gl_w (by omega) (hK30 (r35 - 1) M hG)
          · refine mw_split (fun h37 => ?_) (fun h37 => ?_)
            · refine mw_tableIn cx (tgt := 274) dL_act_77 (by rw [h37]; decide) (by rw [h37]; decide) (by rw [h37]; try rfl) (by decide) ?_
              refine mw_aload_n cx (q := 275) 1 rfl rfl dL_act_274 rfl ?_
              refine mw_iload cx (q := 277) 0 rfl dL_act_275 rfl ?_
              refine mw_iload_n cx (q := 278) 3 rfl rfl dL_act_277 rfl ?_
              refine gl_jn (fun (v38 : Int32) (M : Wm) => GM w sa sb M) (0) 305 (fun (v38 : Int32) => []) (fun (v38 : Int32) => [.int v38, .int v10, .ref (ad 11 0 0)]) (fun v38 M hG => ?_) (fun K39 hK39 => ?_)
              · refine mw_bnd (fun r43 er43 => ?_)
                refine gl_callH cx hzx hcx (q := 308) (d0 := 9) (u0 := 2) (As := [.ref (ad 11 0 0), .int v10, .int v38]) (x := r43.1) (Γ' := GM w r43.2 sb) (st := []) (by rw [er43]; exact ml_L_giveRations hl D ta ad v10 v38 hk) hG cs_L_86 ⟨by decide, by decide⟩ (by omega) (by simp [Value.category]) rfl dL_act_305 rfl (fun M hG => ?_)
                exact gl_iret cx hr rfl rfl hG (by omega) dL_act_308
              · refine mw_ifb_eq cx (tgt := 294) (q := 281) dL_act_278 (by decide) rfl (fun h40 => ?_) (fun h40 => ?_)
                · refine mw_iconst cx (q := 295) (v := 1) dL_act_294 rfl rfl ?_
                  refine mw_iload_n cx (q := 296) 2 rfl rfl dL_act_295 rfl ?_
                  refine mw_bipush cx (q := 298) (v := 9) dL_act_296 rfl rfl ?_
                  refine mw_ishr cx (q := 299) dL_act_298 rfl ?_
                  refine mw_bipush cx (q := 301) (v := 20) dL_act_299 rfl rfl ?_
                  refine mw_bnd (fun r41 er41 => ?_)
                  refine mw_callS cx (q := 304) (d := 0) (As := [.int (p2 >>> (9 &&& 31)), .int 20]) (z := fip M r41) (st := [.int 1, .int v10, .ref (ad 11 0 0)]) (st1 := [.int r41, .int 1, .int v10, .ref (ad 11 0 0)]) (M' := M) (by rw [er41]; exact mc_L_low l D ta ad M (p2 >>> (9 &&& 31)) 20 (by decide)) cs_L_67 ⟨by decide, by decide⟩ (cs_ok (by omega)) (by simp [Value.category]) rfl rfl rfl dL_act_301 rfl ?_
                  refine mw_iadd cx (q := 305) dL_act_304 rfl ?_
                  refine mw_sub [] rfl ?_
                  exact gl_w (by omega) (hK39 (1 + r41) M hG)
                · refine mw_iload_n cx (q := 282) 2 rfl rfl dL_act_281 rfl ?_
                  refine mw_bipush cx (q := 284) (v := 9) dL_act_282 rfl rfl ?_
                  refine mw_ishr cx (q := 285) dL_act_284 rfl ?_
                  refine mw_sipush cx (q := 288) (v := 1003) dL_act_285 rfl rfl ?_
                  refine mw_bnd (fun r42 er42 => ?_)
                  refine mw_callS cx (q := 291) (d := 0) (As := [.int (p2 >>> (9 &&& 31)), .int 1003]) (z := fip M r42) (st := [.int v10, .ref (ad 11 0 0)]) (st1 := [.int r42, .int v10, .ref (ad 11 0 0)]) (M' := M) (by rw [er42]; exact mc_L_low l D ta ad M (p2 >>> (9 &&& 31)) 1003 (by decide)) cs_L_67 ⟨by decide, by decide⟩ (cs_ok (by omega)) (by simp [Value.category]) rfl rfl rfl dL_act_288 rfl ?_
                  refine mw_goto cx (tgt := 305) dL_act_291 (by decide) ?_
                  refine mw_sub [] rfl ?_
                  exact gl_w (by omega) (hK39 r42 M hG)
            · refine mw_split (fun h44 => ?_) (fun h44 => ?_)
              · refine mw_tableIn cx (tgt := 309) dL_act_77 (by rw [h44]; decide) (by rw [h44]; decide) (by rw [h44]; try rfl) (by decide) ?_
                refine mw_aload_n cx (q := 310) 1 rfl rfl dL_act_309 rfl ?_
                refine mw_iload cx (q := 312) 0 rfl dL_act_310 rfl ?_
                refine mw_iload_n cx (q := 313) 3 rfl rfl dL_act_312 rfl ?_
                refine gl_jn (fun (v45 : Int32) (M : Wm) => GM w sa sb M) (0) 340 (fun (v45 : Int32) => []) (fun (v45 : Int32) => [.int v45, .int v10, .ref (ad 11 0 0)]) (fun v45 M hG => ?_) (fun K46 hK46 => ?_)
                · refine mw_bnd (fun r50 er50 => ?_)
                  refine gl_callH cx hzx hcx (q := 343) (d0 := 9) (u0 := 3) (As := [.ref (ad 11 0 0), .int v10, .int v45]) (x := r50.1) (Γ' := GM w r50.2 sb) (st := []) (by rw [er50]; exact ml_L_buy hl D ta ad v10 v45) hG cs_L_88 ⟨by decide, by decide⟩ (by omega) (by simp [Value.category]) rfl dL_act_340 rfl (fun M hG => ?_)
                  exact gl_iret cx hr rfl rfl hG (by omega) dL_act_343
                · refine mw_ifb_eq cx (tgt := 330) (q := 316) dL_act_313 (by decide) rfl (fun h47 => ?_) (fun h47 => ?_)
                  · refine mw_iconst cx (q := 331) (v := 1) dL_act_330 rfl rfl ?_
                    refine mw_iload_n cx (q := 332) 2 rfl rfl dL_act_331 rfl ?_
                    refine mw_bipush cx (q := 334) (v := 9) dL_act_332 rfl rfl ?_
                    refine mw_ishr cx (q := 335) dL_act_334 rfl ?_
                    refine mw_iconst cx (q := 336) (v := 5) dL_act_335 rfl rfl ?_
                    refine mw_bnd (fun r48 er48 => ?_)
                    refine mw_callS cx (q := 339) (d := 0) (As := [.int (p2 >>> (9 &&& 31)), .int 5]) (z := fip M r48) (st := [.int 1, .int v10, .ref (ad 11 0 0)]) (st1 := [.int r48, .int 1, .int v10, .ref (ad 11 0 0)]) (M' := M) (by rw [er48]; exact mc_L_low l D ta ad M (p2 >>> (9 &&& 31)) 5 (by decide)) cs_L_67 ⟨by decide, by decide⟩ (cs_ok (by omega)) (by simp [Value.category]) rfl rfl rfl dL_act_336 rfl ?_
                    refine mw_iadd cx (q := 340) dL_act_339 rfl ?_
                    refine mw_sub [] rfl ?_
                    exact gl_w (by omega) (hK46 (1 + r48) M hG)
                  · refine mw_iload_n cx (q := 317) 2 rfl rfl dL_act_316 rfl ?_
                    refine mw_bipush cx (q := 319) (v := 9) dL_act_317 rfl rfl ?_
                    refine mw_ishr cx (q := 320) dL_act_319 rfl ?_
                    refine mw_bipush cx (q := 322) (v := 30) dL_act_320 rfl rfl ?_
                    refine mw_bnd (fun r49 er49 => ?_)
                    refine mw_callS cx (q := 325) (d := 0) (As := [.int (p2 >>> (9 &&& 31)), .int 30]) (z := fip M r49) (st := [.int v10, .ref (ad 11 0 0)]) (st1 := [.int r49, .int v10, .ref (ad 11 0 0)]) (M' := M) (by rw [er49]; exact mc_L_low l D ta ad M (p2 >>> (9 &&& 31)) 30 (by decide)) cs_L_67 ⟨by decide, by decide⟩ (cs_ok (by omega)) (by simp [Value.category]) rfl rfl rfl dL_act_322 rfl ?_
                    refine mw_iconst cx (q := 326) (v := 1) dL_act_325 rfl rfl ?_
                    refine mw_isub cx (q := 327) dL_act_326 rfl ?_
                    refine mw_goto cx (tgt := 340) dL_act_327 (by decide) ?_
                    refine mw_sub [] rfl ?_
                    exact gl_w (by omega) (hK46 (r49 - 1) M hG)
              · refine mw_split (fun h51 => ?_) (fun h51 => ?_)
                · refine mw_tableIn cx (tgt := 344) dL_act_77 (by rw [h51]; decide) (by rw [h51]; decide) (by rw [h51]; try rfl) (by decide) ?_
                  refine mw_aload_n cx (q := 345) 1 rfl rfl dL_act_344 rfl ?_
                  refine mw_iload_n cx (q := 346) 3 rfl rfl dL_act_345 rfl ?_
                  refine gl_jn (fun (v52 : Int32) (M : Wm) => GM w sa sb M) (0) 372 (fun (v52 : Int32) => []) (fun (v52 : Int32) => [.int v52, .ref (ad 11 0 0)]) (fun v52 M hG => ?_) (fun K53 hK53 => ?_)
                  · refine mw_bnd (fun r57 er57 => ?_)
                    refine gl_callH cx hzx hcx (q := 375) (d0 := 9) (u0 := 1) (As := [.ref (ad 11 0 0), .int v52]) (x := r57.1) (Γ' := GM w r57.2 sb) (st := []) (by rw [er57]; exact ml_L_setTariff hl D ta ad v52) hG cs_L_90 ⟨by decide, by decide⟩ (by omega) (by simp [Value.category]) rfl dL_act_372 rfl (fun M hG => ?_)
                    exact gl_iret cx hr rfl rfl hG (by omega) dL_act_375
                  · refine mw_ifb_eq cx (tgt := 363) (q := 349) dL_act_346 (by decide) rfl (fun h54 => ?_) (fun h54 => ?_)
                    · refine mw_iload_n cx (q := 364) 2 rfl rfl dL_act_363 rfl ?_
                      refine mw_bipush cx (q := 366) (v := 9) dL_act_364 rfl rfl ?_
                      refine mw_ishr cx (q := 367) dL_act_366 rfl ?_
                      refine mw_bipush cx (q := 369) (v := 12) dL_act_367 rfl rfl ?_
                      refine mw_bnd (fun r55 er55 => ?_)
                      refine mw_callS cx (q := 372) (d := 0) (As := [.int (p2 >>> (9 &&& 31)), .int 12]) (z := fip M r55) (st := [.ref (ad 11 0 0)]) (st1 := [.int r55, .ref (ad 11 0 0)]) (M' := M) (by rw [er55]; exact mc_L_low l D ta ad M (p2 >>> (9 &&& 31)) 12 (by decide)) cs_L_67 ⟨by decide, by decide⟩ (cs_ok (by omega)) (by simp [Value.category]) rfl rfl rfl dL_act_369 rfl ?_
                      refine mw_sub [] rfl ?_
                      exact gl_w (by omega) (hK53 r55 M hG)
                    · refine mw_iload_n cx (q := 350) 2 rfl rfl dL_act_349 rfl ?_
                      refine mw_bipush cx (q := 352) (v := 9) dL_act_350 rfl rfl ?_
                      refine mw_ishr cx (q := 353) dL_act_352 rfl ?_
                      refine mw_bipush cx (q := 355) (v := 103) dL_act_353 rfl rfl ?_
                      refine mw_bnd (fun r56 er56 => ?_)
                      refine mw_callS cx (q := 358) (d := 0) (As := [.int (p2 >>> (9 &&& 31)), .int 103]) (z := fip M r56) (st := [.ref (ad 11 0 0)]) (st1 := [.int r56, .ref (ad 11 0 0)]) (M' := M) (by rw [er56]; exact mc_L_low l D ta ad M (p2 >>> (9 &&& 31)) 103 (by decide)) cs_L_67 ⟨by decide, by decide⟩ (cs_ok (by omega)) (by simp [Value.category]) rfl rfl rfl dL_act_355 rfl ?_
                      refine mw_iconst cx (q := 359) (v := 1) dL_act_358 rfl rfl ?_
                      refine mw_isub cx (q := 360) dL_act_359 rfl ?_
                      refine mw_goto cx (tgt := 372) dL_act_360 (by decide) ?_
                      refine mw_sub [] rfl ?_
                      exact gl_w (by omega) (hK53 (r56 - 1) M hG)
                · refine mw_split (fun h58 => ?_) (fun h58 => ?_)
                  · refine mw_tableIn cx (tgt := 376) dL_act_77 (by rw [h58]; decide) (by rw [h58]; decide) (by rw [h58]; try rfl) (by decide) ?_
                    refine mw_aload_n cx (q := 377) 1 rfl rfl dL_act_376 rfl ?_
                    refine mw_iload cx (q := 379) 0 rfl dL_act_377 rfl ?_
                    refine mw_iload_n cx (q := 380) 2 rfl rfl dL_act_379 rfl ?_
                    refine mw_bipush cx (q := 382) (v := 9) dL_act_380 rfl rfl ?_
                    refine mw_ishr cx (q := 383) dL_act_382 rfl ?_
                    refine mw_iconst cx (q := 384) (v := 1) dL_act_383 rfl rfl ?_
                    refine mw_iand cx (q := 385) dL_act_384 rfl ?_
                    refine mw_iconst cx (q := 386) (v := 1) dL_act_385 rfl rfl ?_
                    refine gl_jn (fun (v59 : Bool) (M : Wm) => GM w sa sb M) (0) 394 (fun (v59 : Bool) => []) (fun (v59 : Bool) => [.int (b2i v59), .int v10, .ref (ad 11 0 0)]) (fun v59 M hG => ?_) (fun K60 hK60 => ?_)
                    · refine mw_bnd (fun r62 er62 => ?_)
                      refine gl_callH cx hzx hcx (q := 397) (d0 := 9) (u0 := 1) (As := [.ref (ad 11 0 0), .int v10, .int (b2i v59)]) (x := r62.1) (Γ' := GM w r62.2 sb) (st := []) (by rw [er62]; exact ml_L_setBuying hl D ta ad v10 v59) hG cs_L_93 ⟨by decide, by decide⟩ (by omega) (by simp [Value.category]) rfl dL_act_394 rfl (fun M hG => ?_)
                      exact gl_iret cx hr rfl rfl hG (by omega) dL_act_397
                    · refine mw_icmp_ne cx (tgt := 393) (q := 389) dL_act_386 (by decide) rfl (fun h61 => ?_) (fun h61 => ?_)
                      · refine mw_iconst cx (q := 394) (v := 0) dL_act_393 rfl rfl ?_
                        refine mw_sub [] rfl ?_
                        exact gl_w (by omega) (hK60 false M hG)
                      · refine mw_iconst cx (q := 390) (v := 1) dL_act_389 rfl rfl ?_
                        refine mw_goto cx (tgt := 394) dL_act_390 (by decide) ?_
                        refine mw_sub [] rfl ?_
                        exact gl_w (by omega) (hK60 true M hG)
                  · refine mw_split (fun h63 => ?_) (fun h63 => ?_)
                    · refine mw_tableIn cx (tgt := 398) dL_act_77 (by rw [h63]; decide) (by rw [h63]; decide) (by rw [h63]; try rfl) (by decide) ?_
                      refine mw_aload_n cx (q := 399) 1 rfl rfl dL_act_398 rfl ?_
                      refine mw_iload cx (q := 401) 0 rfl dL_act_399 rfl ?_
                      refine mw_iload_n cx (q := 402) 2 rfl rfl dL_act_401 rfl ?_
                      refine mw_bipush cx (q := 404) (v := 9) dL_act_402 rfl rfl ?_
                      refine mw_ishr cx (q := 405) dL_act_404 rfl ?_
                      refine mw_iconst cx (q := 406) (v := 4) dL_act_405 rfl rfl ?_
                      refine mw_bnd (fun r64 er64 => ?_)
                      refine mw_callS cx (q := 409) (d := 0) (As := [.int (p2 >>> (9 &&& 31)), .int 4]) (z := fip M r64) (st := [.int v10, .ref (ad 11 0 0)]) (st1 := [.int r64, .int v10, .ref (ad 11 0 0)]) (M' := M) (by rw [er64]; exact mc_L_low l D ta ad M (p2 >>> (9 &&& 31)) 4 (by decide)) cs_L_67 ⟨by decide, by decide⟩ (cs_ok (by omega)) (by simp [Value.category]) rfl rfl rfl dL_act_406 rfl ?_
                      refine mw_iload_n cx (q := 410) 3 rfl rfl dL_act_409 rfl ?_
                      refine gl_jn (fun (v65 : Int32) (M : Wm) => GM w sa sb M) (0) 437 (fun (v65 : Int32) => []) (fun (v65 : Int32) => [.int v65, .int r64, .int v10, .ref (ad 11 0 0)]) (fun v65 M hG => ?_) (fun K66 hK66 => ?_)
                      · refine mw_bnd (fun r70 er70 => ?_)
                        refine gl_callH cx hzx hcx (q := 440) (d0 := 9) (u0 := 3) (As := [.ref (ad 11 0 0), .int v10, .int r64, .int v65]) (x := r70.1) (Γ' := GM w r70.2 sb) (st := []) (by rw [er70]; exact ml_L_setCredit hl D ta ad v10 r64 v65) hG cs_L_96 ⟨by decide, by decide⟩ (by omega) (by simp [Value.category]) rfl dL_act_437 rfl (fun M hG => ?_)
                        exact gl_iret cx hr rfl rfl hG (by omega) dL_act_440
                      · refine mw_ifb_eq cx (tgt := 428) (q := 413) dL_act_410 (by decide) rfl (fun h67 => ?_) (fun h67 => ?_)
                        · refine mw_iload_n cx (q := 429) 2 rfl rfl dL_act_428 rfl ?_
                          refine mw_bipush cx (q := 431) (v := 11) dL_act_429 rfl rfl ?_
                          refine mw_ishr cx (q := 432) dL_act_431 rfl ?_
                          refine mw_bipush cx (q := 434) (v := 30) dL_act_432 rfl rfl ?_
                          refine mw_bnd (fun r68 er68 => ?_)
                          refine mw_callS cx (q := 437) (d := 0) (As := [.int (p2 >>> (11 &&& 31)), .int 30]) (z := fip M r68) (st := [.int r64, .int v10, .ref (ad 11 0 0)]) (st1 := [.int r68, .int r64, .int v10, .ref (ad 11 0 0)]) (M' := M) (by rw [er68]; exact mc_L_low l D ta ad M (p2 >>> (11 &&& 31)) 30 (by decide)) cs_L_67 ⟨by decide, by decide⟩ (cs_ok (by omega)) (by simp [Value.category]) rfl rfl rfl dL_act_434 rfl ?_
                          refine mw_sub [] rfl ?_
                          exact gl_w (by omega) (hK66 r68 M hG)
                        · refine mw_iload_n cx (q := 414) 2 rfl rfl dL_act_413 rfl ?_
                          refine mw_bipush cx (q := 416) (v := 11) dL_act_414 rfl rfl ?_
                          refine mw_ishr cx (q := 417) dL_act_416 rfl ?_
                          refine mw_sipush cx (q := 420) (v := 1003) dL_act_417 rfl rfl ?_
                          refine mw_bnd (fun r69 er69 => ?_)
                          refine mw_callS cx (q := 423) (d := 0) (As := [.int (p2 >>> (11 &&& 31)), .int 1003]) (z := fip M r69) (st := [.int r64, .int v10, .ref (ad 11 0 0)]) (st1 := [.int r69, .int r64, .int v10, .ref (ad 11 0 0)]) (M' := M) (by rw [er69]; exact mc_L_low l D ta ad M (p2 >>> (11 &&& 31)) 1003 (by decide)) cs_L_67 ⟨by decide, by decide⟩ (cs_ok (by omega)) (by simp [Value.category]) rfl rfl rfl dL_act_420 rfl ?_
                          refine mw_iconst cx (q := 424) (v := 1) dL_act_423 rfl rfl ?_
                          refine mw_isub cx (q := 425) dL_act_424 rfl ?_
                          refine mw_goto cx (tgt := 437) dL_act_425 (by decide) ?_
                          refine mw_sub [] rfl ?_
                          exact gl_w (by omega) (hK66 (r69 - 1) M hG)
                    · refine mw_split (fun h71 => ?_) (fun h71 => ?_)
                      · refine mw_tableIn cx (tgt := 441) dL_act_77 (by rw [h71]; decide) (by rw [h71]; decide) (by rw [h71]; try rfl) (by decide) ?_
                        refine mw_aload_n cx (q := 442) 1 rfl rfl dL_act_441 rfl ?_
                        refine mw_iload cx (q := 444) 0 rfl dL_act_442 rfl ?_
                        refine mw_iload_n cx (q := 445) 2 rfl rfl dL_act_444 rfl ?_
                        refine mw_bipush cx (q := 447) (v := 9) dL_act_445 rfl rfl ?_
                        refine mw_ishr cx (q := 448) dL_act_447 rfl ?_
                        refine mw_iconst cx (q := 449) (v := 4) dL_act_448 rfl rfl ?_
                        refine mw_bnd (fun r72 er72 => ?_)
                        refine mw_callS cx (q := 452) (d := 0) (As := [.int (p2 >>> (9 &&& 31)), .int 4]) (z := fip M r72) (st := [.int v10, .ref (ad 11 0 0)]) (st1 := [.int r72, .int v10, .ref (ad 11 0 0)]) (M' := M) (by rw [er72]; exact mc_L_low l D ta ad M (p2 >>> (9 &&& 31)) 4 (by decide)) cs_L_67 ⟨by decide, by decide⟩ (cs_ok (by omega)) (by simp [Value.category]) rfl rfl rfl dL_act_449 rfl ?_
                        refine mw_iload_n cx (q := 453) 2 rfl rfl dL_act_452 rfl ?_
                        refine mw_bipush cx (q := 455) (v := 11) dL_act_453 rfl rfl ?_
                        refine mw_ishr cx (q := 456) dL_act_455 rfl ?_
                        refine mw_bipush cx (q := 458) (v := 9) dL_act_456 rfl rfl ?_
                        refine mw_bnd (fun r73 er73 => ?_)
                        refine mw_callS cx (q := 461) (d := 0) (As := [.int (p2 >>> (11 &&& 31)), .int 9]) (z := fip M r73) (st := [.int r72, .int v10, .ref (ad 11 0 0)]) (st1 := [.int r73, .int r72, .int v10, .ref (ad 11 0 0)]) (M' := M) (by rw [er73]; exact mc_L_low l D ta ad M (p2 >>> (11 &&& 31)) 9 (by decide)) cs_L_67 ⟨by decide, by decide⟩ (cs_ok (by omega)) (by simp [Value.category]) rfl rfl rfl dL_act_458 rfl ?_
                        refine mw_iload_n cx (q := 462) 3 rfl rfl dL_act_461 rfl ?_
                        refine gl_jn (fun (v74 : Int32) (M : Wm) => GM w sa sb M) (0) 470 (fun (v74 : Int32) => []) (fun (v74 : Int32) => [.int v74, .int r73, .int r72, .int v10, .ref (ad 11 0 0)]) (fun v74 M hG => ?_) (fun K75 hK75 => ?_)
                        · refine mw_isub cx (q := 471) dL_act_470 rfl ?_
                          refine mw_bnd (fun r77 er77 => ?_)
                          refine gl_callH cx hzx hcx (q := 474) (d0 := 9) (u0 := 4) (As := [.ref (ad 11 0 0), .int v10, .int r72, .int (r73 - v74)]) (x := r77.1) (Γ' := GM w r77.2 sb) (st := []) (by rw [er77]; exact ml_L_payBack hl D ta ad v10 r72 (r73 - v74)) hG cs_L_99 ⟨by decide, by decide⟩ (by omega) (by simp [Value.category]) rfl dL_act_471 rfl (fun M hG => ?_)
                          exact gl_iret cx hr rfl rfl hG (by omega) dL_act_474
                        · refine mw_ifb_eq cx (tgt := 469) (q := 465) dL_act_462 (by decide) rfl (fun h76 => ?_) (fun h76 => ?_)
                          · refine mw_iconst cx (q := 470) (v := (-1)) dL_act_469 rfl rfl ?_
                            refine mw_sub [] rfl ?_
                            exact gl_w (by omega) (hK75 (-1) M hG)
                          · refine mw_iconst cx (q := 466) (v := 1) dL_act_465 rfl rfl ?_
                            refine mw_goto cx (tgt := 470) dL_act_466 (by decide) ?_
                            refine mw_sub [] rfl ?_
                            exact gl_w (by omega) (hK75 1 M hG)
                      · refine mw_split (fun h78 => ?_) (fun h78 => ?_)
                        · refine mw_tableIn cx (tgt := 475) dL_act_77 (by rw [h78]; decide) (by rw [h78]; decide) (by rw [h78]; try rfl) (by decide) ?_
                          refine mw_aload_n cx (q := 476) 1 rfl rfl dL_act_475 rfl ?_
                          refine mw_iload cx (q := 478) 0 rfl dL_act_476 rfl ?_
                          refine mw_iload_n cx (q := 479) 4 rfl rfl dL_act_478 rfl ?_
                          refine mw_iload_n cx (q := 480) 3 rfl rfl dL_act_479 rfl ?_
                          refine gl_jn (fun (v79 : Int32) (M : Wm) => GM w sa sb M) (0) 507 (fun (v79 : Int32) => [(1, .int p2), (2, .int (b2i v2))]) (fun (v79 : Int32) => [.int v79, .int v5, .int v10, .ref (ad 11 0 0)]) (fun v79 M hG => ?_) (fun K80 hK80 => ?_)
                          · refine mw_iload_n cx (q := 508) 1 rfl rfl dL_act_507 rfl ?_
                            refine gl_jn (fun (v84 : Int32) (M : Wm) => GM w sa sb M) (0) 537 (fun (v84 : Int32) => []) (fun (v84 : Int32) => [.int v84, .int v79, .int v5, .int v10, .ref (ad 11 0 0)]) (fun v84 M hG => ?_) (fun K85 hK85 => ?_)
                            · refine mw_bnd (fun r89 er89 => ?_)
                              refine gl_callH cx hzx hcx (q := 540) (d0 := 9) (u0 := 4) (As := [.ref (ad 11 0 0), .int v10, .int v5, .int v79, .int v84]) (x := r89.1) (Γ' := GM w r89.2 sb) (st := []) (by rw [er89]; exact ml_L_order hl D ta ad v10 v5 v79 v84) hG cs_L_101 ⟨by decide, by decide⟩ (by omega) (by simp [Value.category]) rfl dL_act_537 rfl (fun M hG => ?_)
                              exact gl_iret cx hr rfl rfl hG (by omega) dL_act_540
                            · refine mw_ifb_eq cx (tgt := 526) (q := 511) dL_act_508 (by decide) rfl (fun h86 => ?_) (fun h86 => ?_)
                              · refine mw_iconst cx (q := 527) (v := 1) dL_act_526 rfl rfl ?_
                                refine mw_iload_n cx (q := 528) 0 rfl rfl dL_act_527 rfl ?_
                                refine mw_bipush cx (q := 530) (v := 11) dL_act_528 rfl rfl ?_
                                refine mw_ishr cx (q := 531) dL_act_530 rfl ?_
                                refine mw_bipush cx (q := 533) (v := 20) dL_act_531 rfl rfl ?_
                                refine mw_bnd (fun r87 er87 => ?_)
                                refine mw_callS cx (q := 536) (d := 0) (As := [.int (p2 >>> (11 &&& 31)), .int 20]) (z := fip M r87) (st := [.int 1, .int v79, .int v5, .int v10, .ref (ad 11 0 0)]) (st1 := [.int r87, .int 1, .int v79, .int v5, .int v10, .ref (ad 11 0 0)]) (M' := M) (by rw [er87]; exact mc_L_low l D ta ad M (p2 >>> (11 &&& 31)) 20 (by decide)) cs_L_67 ⟨by decide, by decide⟩ (cs_ok (by omega)) (by simp [Value.category]) rfl rfl rfl dL_act_533 rfl ?_
                                refine mw_iadd cx (q := 537) dL_act_536 rfl ?_
                                refine mw_sub [] rfl ?_
                                exact gl_w (by omega) (hK85 (1 + r87) M hG)
                              · refine mw_iload_n cx (q := 512) 0 rfl rfl dL_act_511 rfl ?_
                                refine mw_bipush cx (q := 514) (v := 9) dL_act_512 rfl rfl ?_
                                refine mw_ishr cx (q := 515) dL_act_514 rfl ?_
                                refine mw_sipush cx (q := 518) (v := 1003) dL_act_515 rfl rfl ?_
                                refine mw_bnd (fun r88 er88 => ?_)
                                refine mw_callS cx (q := 521) (d := 0) (As := [.int (p2 >>> (9 &&& 31)), .int 1003]) (z := fip M r88) (st := [.int v79, .int v5, .int v10, .ref (ad 11 0 0)]) (st1 := [.int r88, .int v79, .int v5, .int v10, .ref (ad 11 0 0)]) (M' := M) (by rw [er88]; exact mc_L_low l D ta ad M (p2 >>> (9 &&& 31)) 1003 (by decide)) cs_L_67 ⟨by decide, by decide⟩ (cs_ok (by omega)) (by simp [Value.category]) rfl rfl rfl dL_act_518 rfl ?_
                                refine mw_iconst cx (q := 522) (v := 1) dL_act_521 rfl rfl ?_
                                refine mw_isub cx (q := 523) dL_act_522 rfl ?_
                                refine mw_goto cx (tgt := 537) dL_act_523 (by decide) ?_
                                refine mw_sub [] rfl ?_
                                exact gl_w (by omega) (hK85 (r88 - 1) M hG)
                          · refine mw_ifb_eq cx (tgt := 497) (q := 483) dL_act_480 (by decide) rfl (fun h81 => ?_) (fun h81 => ?_)
                            · refine mw_iconst cx (q := 498) (v := 1) dL_act_497 rfl rfl ?_
                              refine mw_iload_n cx (q := 499) 2 rfl rfl dL_act_498 rfl ?_
                              refine mw_bipush cx (q := 501) (v := 9) dL_act_499 rfl rfl ?_
                              refine mw_ishr cx (q := 502) dL_act_501 rfl ?_
                              refine mw_iconst cx (q := 503) (v := 2) dL_act_502 rfl rfl ?_
                              refine mw_bnd (fun r82 er82 => ?_)
                              refine mw_callS cx (q := 506) (d := 0) (As := [.int (p2 >>> (9 &&& 31)), .int 2]) (z := fip M r82) (st := [.int 1, .int v5, .int v10, .ref (ad 11 0 0)]) (st1 := [.int r82, .int 1, .int v5, .int v10, .ref (ad 11 0 0)]) (M' := M) (by rw [er82]; exact mc_L_low l D ta ad M (p2 >>> (9 &&& 31)) 2 (by decide)) cs_L_67 ⟨by decide, by decide⟩ (cs_ok (by omega)) (by simp [Value.category]) rfl rfl rfl dL_act_503 rfl ?_
                              refine mw_iadd cx (q := 507) dL_act_506 rfl ?_
                              refine mw_sub [2, 3] rfl ?_
                              exact gl_w (by omega) (hK80 (1 + r82) M hG)
                            · refine mw_iload_n cx (q := 484) 2 rfl rfl dL_act_483 rfl ?_
                              refine mw_bipush cx (q := 486) (v := 9) dL_act_484 rfl rfl ?_
                              refine mw_ishr cx (q := 487) dL_act_486 rfl ?_
                              refine mw_bipush cx (q := 489) (v := 103) dL_act_487 rfl rfl ?_
                              refine mw_bnd (fun r83 er83 => ?_)
                              refine mw_callS cx (q := 492) (d := 0) (As := [.int (p2 >>> (9 &&& 31)), .int 103]) (z := fip M r83) (st := [.int v5, .int v10, .ref (ad 11 0 0)]) (st1 := [.int r83, .int v5, .int v10, .ref (ad 11 0 0)]) (M' := M) (by rw [er83]; exact mc_L_low l D ta ad M (p2 >>> (9 &&& 31)) 103 (by decide)) cs_L_67 ⟨by decide, by decide⟩ (cs_ok (by omega)) (by simp [Value.category]) rfl rfl rfl dL_act_489 rfl ?_
                              refine mw_iconst cx (q := 493) (v := 1) dL_act_492 rfl rfl ?_
                              refine mw_isub cx (q := 494) dL_act_493 rfl ?_
                              refine mw_goto cx (tgt := 507) dL_act_494 (by decide) ?_
                              refine mw_sub [2, 3] rfl ?_
                              exact gl_w (by omega) (hK80 (r83 - 1) M hG)
                        · refine mw_split (fun h90 => ?_) (fun h90 => ?_)
                          · refine mw_tableIn cx (tgt := 475) dL_act_77 (by rw [h90]; decide) (by rw [h90]; decide) (by rw [h90]; try rfl) (by decide) ?_
                            refine mw_aload_n cx (q := 476) 1 rfl rfl dL_act_475 rfl ?_
                            refine mw_iload cx (q := 478) 0 rfl dL_act_476 rfl ?_
                            refine mw_iload_n cx (q := 479) 4 rfl rfl dL_act_478 rfl ?_
                            refine mw_iload_n cx (q := 480) 3 rfl rfl dL_act_479 rfl ?_
                            refine gl_jn (fun (v91 : Int32) (M : Wm) => GM w sa sb M) (0) 507 (fun (v91 : Int32) => [(1, .int p2), (2, .int (b2i v2))]) (fun (v91 : Int32) => [.int v91, .int v5, .int v10, .ref (ad 11 0 0)]) (fun v91 M hG => ?_) (fun K92 hK92 => ?_)
                            · refine mw_iload_n cx (q := 508) 1 rfl rfl dL_act_507 rfl ?_
                              refine gl_jn (fun (v96 : Int32) (M : Wm) => GM w sa sb M) (0) 537 (fun (v96 : Int32) => []) (fun (v96 : Int32) => [.int v96, .int v91, .int v5, .int v10, .ref (ad 11 0 0)]) (fun v96 M hG => ?_) (fun K97 hK97 => ?_)
                              · refine mw_bnd (fun r101 er101 => ?_)
                                refine gl_callH cx hzx hcx (q := 540) (d0 := 9) (u0 := 4) (As := [.ref (ad 11 0 0), .int v10, .int v5, .int v91, .int v96]) (x := r101.1) (Γ' := GM w r101.2 sb) (st := []) (by rw [er101]; exact ml_L_order hl D ta ad v10 v5 v91 v96) hG cs_L_101 ⟨by decide, by decide⟩ (by omega) (by simp [Value.category]) rfl dL_act_537 rfl (fun M hG => ?_)
                                exact gl_iret cx hr rfl rfl hG (by omega) dL_act_540
                              · refine mw_ifb_eq cx (tgt := 526) (q := 511) dL_act_508 (by decide) rfl (fun h98 => ?_) (fun h98 => ?_)
                                · refine mw_iconst cx (q := 527) (v := 1) dL_act_526 rfl rfl ?_
                                  refine mw_iload_n cx (q := 528) 0 rfl rfl dL_act_527 rfl ?_
                                  refine mw_bipush cx (q := 530) (v := 11) dL_act_528 rfl rfl ?_
                                  refine mw_ishr cx (q := 531) dL_act_530 rfl ?_
                                  refine mw_bipush cx (q := 533) (v := 20) dL_act_531 rfl rfl ?_
                                  refine mw_bnd (fun r99 er99 => ?_)
                                  refine mw_callS cx (q := 536) (d := 0) (As := [.int (p2 >>> (11 &&& 31)), .int 20]) (z := fip M r99) (st := [.int 1, .int v91, .int v5, .int v10, .ref (ad 11 0 0)]) (st1 := [.int r99, .int 1, .int v91, .int v5, .int v10, .ref (ad 11 0 0)]) (M' := M) (by rw [er99]; exact mc_L_low l D ta ad M (p2 >>> (11 &&& 31)) 20 (by decide)) cs_L_67 ⟨by decide, by decide⟩ (cs_ok (by omega)) (by simp [Value.category]) rfl rfl rfl dL_act_533 rfl ?_
                                  refine mw_iadd cx (q := 537) dL_act_536 rfl ?_
                                  refine mw_sub [] rfl ?_
                                  exact gl_w (by omega) (hK97 (1 + r99) M hG)
                                · refine mw_iload_n cx (q := 512) 0 rfl rfl dL_act_511 rfl ?_
                                  refine mw_bipush cx (q := 514) (v := 9) dL_act_512 rfl rfl ?_
                                  refine mw_ishr cx (q := 515) dL_act_514 rfl ?_
                                  refine mw_sipush cx (q := 518) (v := 1003) dL_act_515 rfl rfl ?_
                                  refine mw_bnd (fun r100 er100 => ?_)
                                  refine mw_callS cx (q := 521) (d := 0) (As := [.int (p2 >>> (9 &&& 31)), .int 1003]) (z := fip M r100) (st := [.int v91, .int v5, .int v10, .ref (ad 11 0 0)]) (st1 := [.int r100, .int v91, .int v5, .int v10, .ref (ad 11 0 0)]) (M' := M) (by rw [er100]; exact mc_L_low l D ta ad M (p2 >>> (9 &&& 31)) 1003 (by decide)) cs_L_67 ⟨by decide, by decide⟩ (cs_ok (by omega)) (by simp [Value.category]) rfl rfl rfl dL_act_518 rfl ?_
                                  refine mw_iconst cx (q := 522) (v := 1) dL_act_521 rfl rfl ?_
                                  refine mw_isub cx (q := 523) dL_act_522 rfl ?_
                                  refine mw_goto cx (tgt := 537) dL_act_523 (by decide) ?_
                                  refine mw_sub [] rfl ?_
                                  exact gl_w (by omega) (hK97 (r100 - 1) M hG)
                            · refine mw_ifb_eq cx (tgt := 497) (q := 483) dL_act_480 (by decide) rfl (fun h93 => ?_) (fun h93 => ?_)
                              · refine mw_iconst cx (q := 498) (v := 1) dL_act_497 rfl rfl ?_
                                refine mw_iload_n cx (q := 499) 2 rfl rfl dL_act_498 rfl ?_
                                refine mw_bipush cx (q := 501) (v := 9) dL_act_499 rfl rfl ?_
                                refine mw_ishr cx (q := 502) dL_act_501 rfl ?_
                                refine mw_iconst cx (q := 503) (v := 2) dL_act_502 rfl rfl ?_
                                refine mw_bnd (fun r94 er94 => ?_)
                                refine mw_callS cx (q := 506) (d := 0) (As := [.int (p2 >>> (9 &&& 31)), .int 2]) (z := fip M r94) (st := [.int 1, .int v5, .int v10, .ref (ad 11 0 0)]) (st1 := [.int r94, .int 1, .int v5, .int v10, .ref (ad 11 0 0)]) (M' := M) (by rw [er94]; exact mc_L_low l D ta ad M (p2 >>> (9 &&& 31)) 2 (by decide)) cs_L_67 ⟨by decide, by decide⟩ (cs_ok (by omega)) (by simp [Value.category]) rfl rfl rfl dL_act_503 rfl ?_
                                refine mw_iadd cx (q := 507) dL_act_506 rfl ?_
                                refine mw_sub [2, 3] rfl ?_
                                exact gl_w (by omega) (hK92 (1 + r94) M hG)
                              · refine mw_iload_n cx (q := 484) 2 rfl rfl dL_act_483 rfl ?_
                                refine mw_bipush cx (q := 486) (v := 9) dL_act_484 rfl rfl ?_
                                refine mw_ishr cx (q := 487) dL_act_486 rfl ?_
                                refine mw_bipush cx (q := 489) (v := 103) dL_act_487 rfl rfl ?_
                                refine mw_bnd (fun r95 er95 => ?_)
                                refine mw_callS cx (q := 492) (d := 0) (As := [.int (p2 >>> (9 &&& 31)), .int 103]) (z := fip M r95) (st := [.int v5, .int v10, .ref (ad 11 0 0)]) (st1 := [.int r95, .int v5, .int v10, .ref (ad 11 0 0)]) (M' := M) (by rw [er95]; exact mc_L_low l D ta ad M (p2 >>> (9 &&& 31)) 103 (by decide)) cs_L_67 ⟨by decide, by decide⟩ (cs_ok (by omega)) (by simp [Value.category]) rfl rfl rfl dL_act_489 rfl ?_
                                refine mw_iconst cx (q := 493) (v := 1) dL_act_492 rfl rfl ?_
                                refine mw_isub cx (q := 494) dL_act_493 rfl ?_
                                refine mw_goto cx (tgt := 507) dL_act_494 (by decide) ?_
                                refine mw_sub [2, 3] rfl ?_
                                exact gl_w (by omega) (hK92 (r95 - 1) M hG)
                          · refine mw_split (fun h102 => ?_) (fun h102 => ?_)
                            · refine mw_tableIn cx (tgt := 475) dL_act_77 (by rw [h102]; decide) (by rw [h102]; decide) (by rw [h102]; try rfl) (by decide) ?_
                              refine mw_aload_n cx (q := 476) 1 rfl rfl dL_act_475 rfl ?_
                              refine mw_iload cx (q := 478) 0 rfl dL_act_476 rfl ?_
                              refine mw_iload_n cx (q := 479) 4 rfl rfl dL_act_478 rfl ?_
                              refine mw_iload_n cx (q := 480) 3 rfl rfl dL_act_479 rfl ?_
                              refine gl_jn (fun (v103 : Int32) (M : Wm) => GM w sa sb M) (0) 507 (fun (v103 : Int32) => [(1, .int p2), (2, .int (b2i v2))]) (fun (v103 : Int32) => [.int v103, .int v5, .int v10, .ref (ad 11 0 0)]) (fun v103 M hG => ?_) (fun K104 hK104 => ?_)
                              · refine mw_iload_n cx (q := 508) 1 rfl rfl dL_act_507 rfl ?_
                                refine gl_jn (fun (v108 : Int32) (M : Wm) => GM w sa sb M) (0) 537 (fun (v108 : Int32) => []) (fun (v108 : Int32) => [.int v108, .int v103, .int v5, .int v10, .ref (ad 11 0 0)]) (fun v108 M hG => ?_) (fun K109 hK109 => ?_)
                                · refine mw_bnd (fun r113 er113 => ?_)
                                  refine gl_callH cx hzx hcx (q := 540) (d0 := 9) (u0 := 4) (As := [.ref (ad 11 0 0), .int v10, .int v5, .int v103, .int v108]) (x := r113.1) (Γ' := GM w r113.2 sb) (st := []) (by rw [er113]; exact ml_L_order hl D ta ad v10 v5 v103 v108) hG cs_L_101 ⟨by decide, by decide⟩ (by omega) (by simp [Value.category]) rfl dL_act_537 rfl (fun M hG => ?_)
                                  exact gl_iret cx hr rfl rfl hG (by omega) dL_act_540
                                · refine mw_ifb_eq cx (tgt := 526) (q := 511) dL_act_508 (by decide) rfl (fun h110 => ?_) (fun h110 => ?_)
                                  · refine mw_iconst cx (q := 527) (v := 1) dL_act_526 rfl rfl ?_
                                    refine mw_iload_n cx (q := 528) 0 rfl rfl dL_act_527 rfl ?_
                                    refine mw_bipush cx (q := 530) (v := 11) dL_act_528 rfl rfl ?_
                                    refine mw_ishr cx (q := 531) dL_act_530 rfl ?_
                                    refine mw_bipush cx (q := 533) (v := 20) dL_act_531 rfl rfl ?_
                                    refine mw_bnd (fun r111 er111 => ?_)
                                    refine mw_callS cx (q := 536) (d := 0) (As := [.int (p2 >>> (11 &&& 31)), .int 20]) (z := fip M r111) (st := [.int 1, .int v103, .int v5, .int v10, .ref (ad 11 0 0)]) (st1 := [.int r111, .int 1, .int v103, .int v5, .int v10, .ref (ad 11 0 0)]) (M' := M) (by rw [er111]; exact mc_L_low l D ta ad M (p2 >>> (11 &&& 31)) 20 (by decide)) cs_L_67 ⟨by decide, by decide⟩ (cs_ok (by omega)) (by simp [Value.category]) rfl rfl rfl dL_act_533 rfl ?_
                                    refine mw_iadd cx (q := 537) dL_act_536 rfl ?_
                                    refine mw_sub [] rfl ?_
                                    exact gl_w (by omega) (hK109 (1 + r111) M hG)
                                  · refine mw_iload_n cx (q := 512) 0 rfl rfl dL_act_511 rfl ?_
                                    refine mw_bipush cx (q := 514) (v := 9) dL_act_512 rfl rfl ?_
                                    refine mw_ishr cx (q := 515) dL_act_514 rfl ?_
                                    refine mw_sipush cx (q := 518) (v := 1003) dL_act_515 rfl rfl ?_
                                    refine mw_bnd (fun r112 er112 => ?_)
                                    refine mw_callS cx (q := 521) (d := 0) (As := [.int (p2 >>> (9 &&& 31)), .int 1003]) (z := fip M r112) (st := [.int v103, .int v5, .int v10, .ref (ad 11 0 0)]) (st1 := [.int r112, .int v103, .int v5, .int v10, .ref (ad 11 0 0)]) (M' := M) (by rw [er112]; exact mc_L_low l D ta ad M (p2 >>> (9 &&& 31)) 1003 (by decide)) cs_L_67 ⟨by decide, by decide⟩ (cs_ok (by omega)) (by simp [Value.category]) rfl rfl rfl dL_act_518 rfl ?_
                                    refine mw_iconst cx (q := 522) (v := 1) dL_act_521 rfl rfl ?_
                                    refine mw_isub cx (q := 523) dL_act_522 rfl ?_
                                    refine mw_goto cx (tgt := 537) dL_act_523 (by decide) ?_
                                    refine mw_sub [] rfl ?_
                                    exact gl_w (by omega) (hK109 (r112 - 1) M hG)
                              · refine mw_ifb_eq cx (tgt := 497) (q := 483) dL_act_480 (by decide) rfl (fun h105 => ?_) (fun h105 => ?_)
                                · refine mw_iconst cx (q := 498) (v := 1) dL_act_497 rfl rfl ?_
                                  refine mw_iload_n cx (q := 499) 2 rfl rfl dL_act_498 rfl ?_
                                  refine mw_bipush cx (q := 501) (v := 9) dL_act_499 rfl rfl ?_
                                  refine mw_ishr cx (q := 502) dL_act_501 rfl ?_
                                  refine mw_iconst cx (q := 503) (v := 2) dL_act_502 rfl rfl ?_
                                  refine mw_bnd (fun r106 er106 => ?_)
                                  refine mw_callS cx (q := 506) (d := 0) (As := [.int (p2 >>> (9 &&& 31)), .int 2]) (z := fip M r106) (st := [.int 1, .int v5, .int v10, .ref (ad 11 0 0)]) (st1 := [.int r106, .int 1, .int v5, .int v10, .ref (ad 11 0 0)]) (M' := M) (by rw [er106]; exact mc_L_low l D ta ad M (p2 >>> (9 &&& 31)) 2 (by decide)) cs_L_67 ⟨by decide, by decide⟩ (cs_ok (by omega)) (by simp [Value.category]) rfl rfl rfl dL_act_503 rfl ?_
                                  refine mw_iadd cx (q := 507) dL_act_506 rfl ?_
                                  refine mw_sub [2, 3] rfl ?_
                                  exact gl_w (by omega) (hK104 (1 + r106) M hG)
                                · refine mw_iload_n cx (q := 484) 2 rfl rfl dL_act_483 rfl ?_
                                  refine mw_bipush cx (q := 486) (v := 9) dL_act_484 rfl rfl ?_
                                  refine mw_ishr cx (q := 487) dL_act_486 rfl ?_
                                  refine mw_bipush cx (q := 489) (v := 103) dL_act_487 rfl rfl ?_
                                  refine mw_bnd (fun r107 er107 => ?_)
                                  refine mw_callS cx (q := 492) (d := 0) (As := [.int (p2 >>> (9 &&& 31)), .int 103]) (z := fip M r107) (st := [.int v5, .int v10, .ref (ad 11 0 0)]) (st1 := [.int r107, .int v5, .int v10, .ref (ad 11 0 0)]) (M' := M) (by rw [er107]; exact mc_L_low l D ta ad M (p2 >>> (9 &&& 31)) 103 (by decide)) cs_L_67 ⟨by decide, by decide⟩ (cs_ok (by omega)) (by simp [Value.category]) rfl rfl rfl dL_act_489 rfl ?_
                                  refine mw_iconst cx (q := 493) (v := 1) dL_act_492 rfl rfl ?_
                                  refine mw_isub cx (q := 494) dL_act_493 rfl ?_
                                  refine mw_goto cx (tgt := 507) dL_act_494 (by decide) ?_
                                  refine mw_sub [2, 3] rfl ?_
                                  exact gl_w (by omega) (hK104 (r107 - 1) M hG)
                            · refine mw_split (fun h114 => ?_) (fun h114 => ?_)
                              · refine mw_tableIn cx (tgt := 541) dL_act_77 (by rw [h114]; decide) (by rw [h114]; decide) (by rw [h114]; try rfl) (by decide) ?_
                                refine mw_aload_n cx (q := 542) 1 rfl rfl dL_act_541 rfl ?_
                                refine mw_iload_n cx (q := 543) 3 rfl rfl dL_act_542 rfl ?_
                                refine gl_jn (fun (v115 : Int32) (M : Wm) => GM w sa sb M) (0) 568 (fun (v115 : Int32) => []) (fun (v115 : Int32) => [.int v115, .ref (ad 11 0 0)]) (fun v115 M hG => ?_) (fun K116 hK116 => ?_)
                                · refine mw_bnd (fun r120 er120 => ?_)
                                  refine gl_callH cx hzx hcx (q := 571) (d0 := 221) (u0 := 2) (As := [.ref (ad 11 0 0), .int v115]) (x := r120.1) (Γ' := GM w r120.2 sb) (st := []) (by rw [er120]; exact ml_L_pass hl D ta ad v115) hG cs_L_104 ⟨by decide, by decide⟩ (by omega) (by simp [Value.category]) rfl dL_act_568 rfl (fun M hG => ?_)
                                  exact gl_iret cx hr rfl rfl hG (by omega) dL_act_571
                                · refine mw_ifb_eq cx (tgt := 559) (q := 546) dL_act_543 (by decide) rfl (fun h117 => ?_) (fun h117 => ?_)
                                  · refine mw_iconst cx (q := 560) (v := 1) dL_act_559 rfl rfl ?_
                                    refine mw_iload_n cx (q := 561) 2 rfl rfl dL_act_560 rfl ?_
                                    refine mw_iconst cx (q := 562) (v := 4) dL_act_561 rfl rfl ?_
                                    refine mw_ishr cx (q := 563) dL_act_562 rfl ?_
                                    refine mw_iconst cx (q := 564) (v := 2) dL_act_563 rfl rfl ?_
                                    refine mw_bnd (fun r118 er118 => ?_)
                                    refine mw_callS cx (q := 567) (d := 0) (As := [.int (p2 >>> (4 &&& 31)), .int 2]) (z := fip M r118) (st := [.int 1, .ref (ad 11 0 0)]) (st1 := [.int r118, .int 1, .ref (ad 11 0 0)]) (M' := M) (by rw [er118]; exact mc_L_low l D ta ad M (p2 >>> (4 &&& 31)) 2 (by decide)) cs_L_67 ⟨by decide, by decide⟩ (cs_ok (by omega)) (by simp [Value.category]) rfl rfl rfl dL_act_564 rfl ?_
                                    refine mw_iadd cx (q := 568) dL_act_567 rfl ?_
                                    refine mw_sub [] rfl ?_
                                    exact gl_w (by omega) (hK116 (1 + r118) M hG)
                                  · refine mw_iload_n cx (q := 547) 2 rfl rfl dL_act_546 rfl ?_
                                    refine mw_iconst cx (q := 548) (v := 4) dL_act_547 rfl rfl ?_
                                    refine mw_ishr cx (q := 549) dL_act_548 rfl ?_
                                    refine mw_bipush cx (q := 551) (v := 103) dL_act_549 rfl rfl ?_
                                    refine mw_bnd (fun r119 er119 => ?_)
                                    refine mw_callS cx (q := 554) (d := 0) (As := [.int (p2 >>> (4 &&& 31)), .int 103]) (z := fip M r119) (st := [.ref (ad 11 0 0)]) (st1 := [.int r119, .ref (ad 11 0 0)]) (M' := M) (by rw [er119]; exact mc_L_low l D ta ad M (p2 >>> (4 &&& 31)) 103 (by decide)) cs_L_67 ⟨by decide, by decide⟩ (cs_ok (by omega)) (by simp [Value.category]) rfl rfl rfl dL_act_551 rfl ?_
                                    refine mw_iconst cx (q := 555) (v := 1) dL_act_554 rfl rfl ?_
                                    refine mw_isub cx (q := 556) dL_act_555 rfl ?_
                                    refine mw_goto cx (tgt := 568) dL_act_556 (by decide) ?_
                                    refine mw_sub [] rfl ?_
                                    exact gl_w (by omega) (hK116 (r119 - 1) M hG)
                              · refine mw_split (fun h121 => ?_) (fun h121 => ?_)
                                · refine mw_tableIn cx (tgt := 541) dL_act_77 (by rw [h121]; decide) (by rw [h121]; decide) (by rw [h121]; try rfl) (by decide) ?_
                                  refine mw_aload_n cx (q := 542) 1 rfl rfl dL_act_541 rfl ?_
                                  refine mw_iload_n cx (q := 543) 3 rfl rfl dL_act_542 rfl ?_
                                  refine gl_jn (fun (v122 : Int32) (M : Wm) => GM w sa sb M) (0) 568 (fun (v122 : Int32) => []) (fun (v122 : Int32) => [.int v122, .ref (ad 11 0 0)]) (fun v122 M hG => ?_) (fun K123 hK123 => ?_)
                                  · refine mw_bnd (fun r127 er127 => ?_)
                                    refine gl_callH cx hzx hcx (q := 571) (d0 := 221) (u0 := 2) (As := [.ref (ad 11 0 0), .int v122]) (x := r127.1) (Γ' := GM w r127.2 sb) (st := []) (by rw [er127]; exact ml_L_pass hl D ta ad v122) hG cs_L_104 ⟨by decide, by decide⟩ (by omega) (by simp [Value.category]) rfl dL_act_568 rfl (fun M hG => ?_)
                                    exact gl_iret cx hr rfl rfl hG (by omega) dL_act_571
                                  · refine mw_ifb_eq cx (tgt := 559) (q := 546) dL_act_543 (by decide) rfl (fun h124 => ?_) (fun h124 => ?_)
                                    · refine mw_iconst cx (q := 560) (v := 1) dL_act_559 rfl rfl ?_
                                      refine mw_iload_n cx (q := 561) 2 rfl rfl dL_act_560 rfl ?_
                                      refine mw_iconst cx (q := 562) (v := 4) dL_act_561 rfl rfl ?_
                                      refine mw_ishr cx (q := 563) dL_act_562 rfl ?_
                                      refine mw_iconst cx (q := 564) (v := 2) dL_act_563 rfl rfl ?_
                                      refine mw_bnd (fun r125 er125 => ?_)
                                      refine mw_callS cx (q := 567) (d := 0) (As := [.int (p2 >>> (4 &&& 31)), .int 2]) (z := fip M r125) (st := [.int 1, .ref (ad 11 0 0)]) (st1 := [.int r125, .int 1, .ref (ad 11 0 0)]) (M' := M) (by rw [er125]; exact mc_L_low l D ta ad M (p2 >>> (4 &&& 31)) 2 (by decide)) cs_L_67 ⟨by decide, by decide⟩ (cs_ok (by omega)) (by simp [Value.category]) rfl rfl rfl dL_act_564 rfl ?_
                                      refine mw_iadd cx (q := 568) dL_act_567 rfl ?_
                                      refine mw_sub [] rfl ?_
                                      exact gl_w (by omega) (hK123 (1 + r125) M hG)
                                    · refine mw_iload_n cx (q := 547) 2 rfl rfl dL_act_546 rfl ?_
                                      refine mw_iconst cx (q := 548) (v := 4) dL_act_547 rfl rfl ?_
                                      refine mw_ishr cx (q := 549) dL_act_548 rfl ?_
                                      refine mw_bipush cx (q := 551) (v := 103) dL_act_549 rfl rfl ?_
                                      refine mw_bnd (fun r126 er126 => ?_)
                                      refine mw_callS cx (q := 554) (d := 0) (As := [.int (p2 >>> (4 &&& 31)), .int 103]) (z := fip M r126) (st := [.ref (ad 11 0 0)]) (st1 := [.int r126, .ref (ad 11 0 0)]) (M' := M) (by rw [er126]; exact mc_L_low l D ta ad M (p2 >>> (4 &&& 31)) 103 (by decide)) cs_L_67 ⟨by decide, by decide⟩ (cs_ok (by omega)) (by simp [Value.category]) rfl rfl rfl dL_act_551 rfl ?_
                                      refine mw_iconst cx (q := 555) (v := 1) dL_act_554 rfl rfl ?_
                                      refine mw_isub cx (q := 556) dL_act_555 rfl ?_
                                      refine mw_goto cx (tgt := 568) dL_act_556 (by decide) ?_
                                      refine mw_sub [] rfl ?_
                                      exact gl_w (by omega) (hK123 (r126 - 1) M hG)
                                · refine mw_split (fun h128 => ?_) (fun h128 => ?_)
                                  · refine mw_tableIn cx (tgt := 572) dL_act_77 (by rw [h128]; decide) (by rw [h128]; decide) (by rw [h128]; try rfl) (by decide) ?_
                                    refine mw_aload_n cx (q := 573) 1 rfl rfl dL_act_572 rfl ?_
                                    refine mw_iload_n cx (q := 574) 3 rfl rfl dL_act_573 rfl ?_
                                    refine gl_jn (fun (v129 : Int32) (M : Wm) => GM w sa sb M) (0) 611 (fun (v129 : Int32) => [(1, .int p2), (2, .int (b2i v2))]) (fun (v129 : Int32) => [.int v129, .ref (ad 11 0 0)]) (fun v129 M hG => ?_) (fun K130 hK130 => ?_)
                                    · refine mw_iload_n cx (q := 612) 1 rfl rfl dL_act_611 rfl ?_
                                      refine gl_jn (fun (v135 : Int32) (M : Wm) => GM w sa sb M) (0) 639 (fun (v135 : Int32) => []) (fun (v135 : Int32) => [.int v135, .int v129, .ref (ad 11 0 0)]) (fun v135 M hG => ?_) (fun K136 hK136 => ?_)
                                      · refine mw_bnd (fun r140 er140 => ?_)
                                        refine gl_callH cx hzx hcx (q := 642) (d0 := 221) (u0 := 3) (As := [.ref (ad 11 0 0), .int v129, .int v135]) (x := r140.1) (Γ' := GM w r140.2 sb) (st := []) (by rw [er140]; exact ml_L_takeUp hl D ta ad v129 v135 hk) hG cs_L_110 ⟨by decide, by decide⟩ (by omega) (by simp [Value.category]) rfl dL_act_639 rfl (fun M hG => ?_)
                                        exact gl_iret cx hr rfl rfl hG (by omega) dL_act_642
                                      · refine mw_ifb_eq cx (tgt := 628) (q := 615) dL_act_612 (by decide) rfl (fun h137 => ?_) (fun h137 => ?_)
                                        · refine mw_iconst cx (q := 629) (v := 5) dL_act_628 rfl rfl ?_
                                          refine mw_iload_n cx (q := 630) 0 rfl rfl dL_act_629 rfl ?_
                                          refine mw_bipush cx (q := 632) (v := 9) dL_act_630 rfl rfl ?_
                                          refine mw_ishr cx (q := 633) dL_act_632 rfl ?_
                                          refine mw_bipush cx (q := 635) (v := 30) dL_act_633 rfl rfl ?_
                                          refine mw_bnd (fun r138 er138 => ?_)
                                          refine mw_callS cx (q := 638) (d := 0) (As := [.int (p2 >>> (9 &&& 31)), .int 30]) (z := fip M r138) (st := [.int 5, .int v129, .ref (ad 11 0 0)]) (st1 := [.int r138, .int 5, .int v129, .ref (ad 11 0 0)]) (M' := M) (by rw [er138]; exact mc_L_low l D ta ad M (p2 >>> (9 &&& 31)) 30 (by decide)) cs_L_67 ⟨by decide, by decide⟩ (cs_ok (by omega)) (by simp [Value.category]) rfl rfl rfl dL_act_635 rfl ?_
                                          refine mw_iadd cx (q := 639) dL_act_638 rfl ?_
                                          refine mw_sub [] rfl ?_
                                          exact gl_w (by omega) (hK136 (5 + r138) M hG)
                                        · refine mw_iload_n cx (q := 616) 0 rfl rfl dL_act_615 rfl ?_
                                          refine mw_bipush cx (q := 618) (v := 9) dL_act_616 rfl rfl ?_
                                          refine mw_ishr cx (q := 619) dL_act_618 rfl ?_
                                          refine mw_sipush cx (q := 622) (v := 1003) dL_act_619 rfl rfl ?_
                                          refine mw_bnd (fun r139 er139 => ?_)
                                          refine mw_callS cx (q := 625) (d := 0) (As := [.int (p2 >>> (9 &&& 31)), .int 1003]) (z := fip M r139) (st := [.int v129, .ref (ad 11 0 0)]) (st1 := [.int r139, .int v129, .ref (ad 11 0 0)]) (M' := M) (by rw [er139]; exact mc_L_low l D ta ad M (p2 >>> (9 &&& 31)) 1003 (by decide)) cs_L_67 ⟨by decide, by decide⟩ (cs_ok (by omega)) (by simp [Value.category]) rfl rfl rfl dL_act_622 rfl ?_
                                          refine mw_goto cx (tgt := 639) dL_act_625 (by decide) ?_
                                          refine mw_sub [] rfl ?_
                                          exact gl_w (by omega) (hK136 r139 M hG)
                                    · refine mw_ifb_eq cx (tgt := 590) (q := 577) dL_act_574 (by decide) rfl (fun h131 => ?_) (fun h131 => ?_)
                                      · refine mw_aload_n cx (q := 591) 1 rfl rfl dL_act_590 rfl ?_
                                        obtain ⟨M, hG, hM⟩ := C_orders (D := D) (ta := ta) (ad := ad) hl hG
                                        refine gl_callVn cx hzx (q := 594) (d0 := 8) (u0 := 0) (As := []) (r := (0, (sa.2.2 0 0 11))) (M' := M) (st := [.ref (ad 11 0 0)]) hM cv_L_106 rfl rfl rfl vi_11_0 ⟨by decide, by decide⟩ (by omega) (by simp [Value.category]) rfl rfl dL_act_591 rfl ?_
                                        refine mw_if_ne cx (tgt := 601) (q := 597) dL_act_594 (by decide) rfl (fun h132 => ?_) (fun h132 => ?_)
                                        · refine mw_iload_n cx (q := 602) 2 rfl rfl dL_act_601 rfl ?_
                                          refine mw_iconst cx (q := 603) (v := 4) dL_act_602 rfl rfl ?_
                                          refine mw_ishr cx (q := 604) dL_act_603 rfl ?_
                                          refine mw_aload_n cx (q := 605) 1 rfl rfl dL_act_604 rfl ?_
                                          obtain ⟨M, hG, hM⟩ := C_orders (D := D) (ta := ta) (ad := ad) hl hG
                                          refine gl_callVn cx hzx (q := 608) (d0 := 8) (u0 := 0) (As := []) (r := (0, (sa.2.2 0 0 11))) (M' := M) (st := [.int (p2 >>> (4 &&& 31)), .ref (ad 11 0 0)]) hM cv_L_106 rfl rfl rfl vi_11_0 ⟨by decide, by decide⟩ (by omega) (by simp [Value.category]) rfl rfl dL_act_605 rfl ?_
                                          refine mw_bnd (fun r133 er133 => ?_)
                                          refine mw_callS cx (q := 611) (d := 0) (As := [.int (p2 >>> (4 &&& 31)), .int (sa.2.2 0 0 11)]) (z := fip M r133) (st := [.ref (ad 11 0 0)]) (st1 := [.int r133, .ref (ad 11 0 0)]) (M' := M) (by rw [er133]; exact mc_L_low l D ta ad M (p2 >>> (4 &&& 31)) (sa.2.2 0 0 11) h132) cs_L_67 ⟨by decide, by decide⟩ (cs_ok (by omega)) (by simp [Value.category]) rfl rfl rfl dL_act_608 rfl ?_
                                          refine mw_sub [2, 3] rfl ?_
                                          exact gl_w (by omega) (hK130 r133 M hG)
                                        · refine mw_iconst cx (q := 598) (v := 0) dL_act_597 rfl rfl ?_
                                          refine mw_goto cx (tgt := 611) dL_act_598 (by decide) ?_
                                          refine mw_sub [2, 3] rfl ?_
                                          exact gl_w (by omega) (hK130 0 M hG)
                                      · refine mw_iload_n cx (q := 578) 2 rfl rfl dL_act_577 rfl ?_
                                        refine mw_iconst cx (q := 579) (v := 4) dL_act_578 rfl rfl ?_
                                        refine mw_ishr cx (q := 580) dL_act_579 rfl ?_
                                        refine mw_bipush cx (q := 582) (v := 63) dL_act_580 rfl rfl ?_
                                        refine mw_bnd (fun r134 er134 => ?_)
                                        refine mw_callS cx (q := 585) (d := 0) (As := [.int (p2 >>> (4 &&& 31)), .int 63]) (z := fip M r134) (st := [.ref (ad 11 0 0)]) (st1 := [.int r134, .ref (ad 11 0 0)]) (M' := M) (by rw [er134]; exact mc_L_low l D ta ad M (p2 >>> (4 &&& 31)) 63 (by decide)) cs_L_67 ⟨by decide, by decide⟩ (cs_ok (by omega)) (by simp [Value.category]) rfl rfl rfl dL_act_582 rfl ?_
                                        refine mw_iconst cx (q := 586) (v := 1) dL_act_585 rfl rfl ?_
                                        refine mw_isub cx (q := 587) dL_act_586 rfl ?_
                                        refine mw_goto cx (tgt := 611) dL_act_587 (by decide) ?_
                                        refine mw_sub [2, 3] rfl ?_
                                        exact gl_w (by omega) (hK130 (r134 - 1) M hG)
                                  · refine mw_tableOut cx (tgt := 643) dL_act_77 (by simp only [i32eq, t32_0, t32_1, t32_2, t32_3, t32_4, t32_5, t32_6, t32_7, t32_8, t32_9, t32_10, t32_11, t32_12, t32_13] at h16 h28 h37 h44 h51 h58 h63 h71 h78 h90 h102 h114 h121 h128; omega) (by decide) ?_
                                    refine mw_iload_n cx (q := 644) 3 rfl rfl dL_act_643 rfl ?_
                                    refine mw_ifb_eq cx (tgt := 657) (q := 647) dL_act_644 (by decide) rfl (fun h141 => ?_) (fun h141 => ?_)
                                    · refine mw_aload_n cx (q := 658) 1 rfl rfl dL_act_657 rfl ?_
                                      refine mw_iload_n cx (q := 659) 4 rfl rfl dL_act_658 rfl ?_
                                      refine mw_iload_n cx (q := 660) 2 rfl rfl dL_act_659 rfl ?_
                                      refine mw_bipush cx (q := 662) (v := 7) dL_act_660 rfl rfl ?_
                                      refine mw_ishr cx (q := 663) dL_act_662 rfl ?_
                                      refine mw_bnd (fun r142 er142 => ?_)
                                      refine gl_callS cx hzx hcx ht (q := 666) (d0 := 10) (u0 := 133) (As := [.ref (ad 11 0 0), .int v5, .int (p2 >>> (7 &&& 31))]) (r := r142.1) (Γ' := GM w r142.2 sb) (st := []) (by rw [er142]; exact ml_L_say hl D ta ad v5 (p2 >>> (7 &&& 31))) hG cs_L_112 ⟨by decide, by decide⟩ (by omega) (by simp [Value.category]) rfl (fun _ => ⟨rfl, rfl⟩) dL_act_663 rfl (fun h143 M hG => ?_)
                                      exact gl_iret cx hr rfl rfl hG (by omega) dL_act_666
                                    · refine mw_aload_n cx (q := 648) 1 rfl rfl dL_act_647 rfl ?_
                                      refine mw_iconst cx (q := 649) (v := 0) dL_act_648 rfl rfl ?_
                                      refine mw_bipush cx (q := 651) (v := 33) dL_act_649 rfl rfl ?_
                                      refine mw_bnd (fun r144 er144 => ?_)
                                      refine gl_callH cx hzx hcx (q := 654) (d0 := 9) (u0 := 3) (As := [.ref (ad 11 0 0), .int 0, .int 33]) (x := r144.1) (Γ' := GM w r144.2 sb) (st := []) (by rw [er144]; exact ml_L_type hl D ta ad 0 33) hG cs_L_82 ⟨by decide, by decide⟩ (by omega) (by simp [Value.category]) rfl dL_act_651 rfl (fun M hG => ?_)
                                      refine mw_goto cx (tgt := 666) dL_act_654 (by decide) ?_
                                      exact gl_iret cx hr rfl rfl hG (by omega) dL_act_666
      · refine mw_ifb_eq cx (tgt := 61) (q := 47) dL_act_44 (by decide) rfl (fun h12 => ?_) (fun h12 => ?_)
        · refine mw_iload_n cx (q := 62) 2 rfl rfl dL_act_61 rfl ?_
          refine mw_bipush cx (q := 64) (v := 7) dL_act_62 rfl rfl ?_
          refine mw_ishr cx (q := 65) dL_act_64 rfl ?_
          refine mw_iconst cx (q := 66) (v := 4) dL_act_65 rfl rfl ?_
          refine mw_bnd (fun r13 er13 => ?_)
          refine mw_callS cx (q := 69) (d := 0) (As := [.int (p2 >>> (7 &&& 31)), .int 4]) (z := fip M r13) (st := []) (st1 := [.int r13]) (M' := M) (by rw [er13]; exact mc_L_low l D ta ad M (p2 >>> (7 &&& 31)) 4 (by decide)) cs_L_67 ⟨by decide, by decide⟩ (cs_ok (by omega)) (by simp [Value.category]) rfl rfl rfl dL_act_66 rfl ?_
          refine mw_sub [1, 2, 3, 0] rfl ?_
          exact gl_w (by omega) (hK11 r13 M hG)
        · refine mw_iload_n cx (q := 48) 2 rfl rfl dL_act_47 rfl ?_
          refine mw_bipush cx (q := 50) (v := 7) dL_act_48 rfl rfl ?_
          refine mw_ishr cx (q := 51) dL_act_50 rfl ?_
          refine mw_bipush cx (q := 53) (v := 6) dL_act_51 rfl rfl ?_
          refine mw_bnd (fun r14 er14 => ?_)
          refine mw_callS cx (q := 56) (d := 0) (As := [.int (p2 >>> (7 &&& 31)), .int 6]) (z := fip M r14) (st := []) (st1 := [.int r14]) (M' := M) (by rw [er14]; exact mc_L_low l D ta ad M (p2 >>> (7 &&& 31)) 6 (by decide)) cs_L_67 ⟨by decide, by decide⟩ (cs_ok (by omega)) (by simp [Value.category]) rfl rfl rfl dL_act_53 rfl ?_
          refine mw_iconst cx (q := 57) (v := 1) dL_act_56 rfl rfl ?_
          refine mw_isub cx (q := 58) dL_act_57 rfl ?_
          refine mw_goto cx (tgt := 69) dL_act_58 (by decide) ?_
          refine mw_sub [1, 2, 3, 0] rfl ?_
          exact gl_w (by omega) (hK11 (r14 - 1) M hG)
    · refine mw_ifb_eq cx (tgt := 35) (q := 22) dL_act_19 (by decide) rfl (fun h7 => ?_) (fun h7 => ?_)
      · refine mw_iload_n cx (q := 36) 2 rfl rfl dL_act_35 rfl ?_
        refine mw_iconst cx (q := 37) (v := 4) dL_act_36 rfl rfl ?_
        refine mw_ishr cx (q := 38) dL_act_37 rfl ?_
        refine mw_iconst cx (q := 39) (v := 3) dL_act_38 rfl rfl ?_
        refine mw_bnd (fun r8 er8 => ?_)
        refine mw_callS cx (q := 42) (d := 0) (As := [.int (p2 >>> (4 &&& 31)), .int 3]) (z := fip M r8) (st := []) (st1 := [.int r8]) (M' := M) (by rw [er8]; exact mc_L_low l D ta ad M (p2 >>> (4 &&& 31)) 3 (by decide)) cs_L_67 ⟨by decide, by decide⟩ (cs_ok (by omega)) (by simp [Value.category]) rfl rfl rfl dL_act_39 rfl ?_
        refine mw_sub [1, 2, 0] rfl ?_
        exact gl_w (by omega) (hK6 r8 M hG)
      · refine mw_iload_n cx (q := 23) 2 rfl rfl dL_act_22 rfl ?_
        refine mw_iconst cx (q := 24) (v := 4) dL_act_23 rfl rfl ?_
        refine mw_ishr cx (q := 25) dL_act_24 rfl ?_
        refine mw_bipush cx (q := 27) (v := 10) dL_act_25 rfl rfl ?_
        refine mw_bnd (fun r9 er9 => ?_)
        refine mw_callS cx (q := 30) (d := 0) (As := [.int (p2 >>> (4 &&& 31)), .int 10]) (z := fip M r9) (st := []) (st1 := [.int r9]) (M' := M) (by rw [er9]; exact mc_L_low l D ta ad M (p2 >>> (4 &&& 31)) 10 (by decide)) cs_L_67 ⟨by decide, by decide⟩ (cs_ok (by omega)) (by simp [Value.category]) rfl rfl rfl dL_act_27 rfl ?_
        refine mw_iconst cx (q := 31) (v := 1) dL_act_30 rfl rfl ?_
        refine mw_isub cx (q := 32) dL_act_31 rfl ?_
        refine mw_goto cx (tgt := 42) dL_act_32 (by decide) ?_
        refine mw_sub [1, 2, 0] rfl ?_
        exact gl_w (by omega) (hK6 (r9 - 1) M hG)
  · refine mw_if_ne cx (tgt := 16) (q := 12) dL_act_9 (by decide) rfl (fun h4 => ?_) (fun h4 => ?_)
    · refine mw_iconst cx (q := 17) (v := 0) dL_act_16 rfl rfl ?_
      exact gl_w (by omega) (hK3 false M hG)
    · refine mw_iconst cx (q := 13) (v := 1) dL_act_12 rfl rfl ?_
      refine mw_goto cx (tgt := 17) dL_act_13 (by decide) ?_
      exact gl_w (by omega) (hK3 true M hG)
def fL_areAlike_lp85 (sa : ST) (sb : ST) (x6 : Int32 × Bool) (K26 : Bool → (Nat × Int32)) : Nat → (Int32 × Bool) → (Nat × Int32)
  | 0, x24 => (0, 0)
  | n27 + 1, x24 => if 4 ≤ x24.1 then K26 x24.2 else jn (fun (v29 : Bool) => bnd (x24.1 + 1) (fun (v37 : Int32) => fL_areAlike_lp85 sa sb x6 K26 n27 (v37, v29))) (fun K30 => if x24.2 = true then bnd (g_debt sa.2.2 x6.1 x24.1) (fun (r32 : Nat × Int32) => if r32.1 = 0 then bnd (g_debt sb.2.2 x6.1 x24.1) (fun (r34 : Nat × Int32) => if r34.1 = 0 then if r32.2 = r34.2 then K30 true else K30 false else (r34.1, 0)) else (r32.1, 0)) else K30 false)
theorem fL_areAlike_lp85_s (sa : ST) (sb : ST) (x6 : Int32 × Bool) (K26 : Bool → (Nat × Int32)) (n27 : Nat) (x24 : Int32 × Bool) : fL_areAlike_lp85 sa sb x6 K26 (n27 + 1) x24 = if 4 ≤ x24.1 then K26 x24.2 else jn (fun (v29 : Bool) => bnd (x24.1 + 1) (fun (v37 : Int32) => fL_areAlike_lp85 sa sb x6 K26 n27 (v37, v29))) (fun K30 => if x24.2 = true then bnd (g_debt sa.2.2 x6.1 x24.1) (fun (r32 : Nat × Int32) => if r32.1 = 0 then bnd (g_debt sb.2.2 x6.1 x24.1) (fun (r34 : Nat × Int32) => if r34.1 = 0 then if r32.2 = r34.2 then K30 true else K30 false else (r34.1, 0)) else (r32.1, 0)) else K30 false) := rfl
def fL_areAlike_lp41 (sa : ST) (sb : ST) (K8 : Bool → (Nat × Int32)) : Nat → (Int32 × Bool) → (Nat × Int32)
  | 0, x6 => (0, 0)
  | n9 + 1, x6 => if 4 ≤ x6.1 then K8 x6.2 else if x6.2 = true then bnd (g_fuel sa.2.2 x6.1) (fun (r12 : Nat × Int32) => if r12.1 = 0 then bnd (g_fuel sb.2.2 x6.1) (fun (r14 : Nat × Int32) => if r14.1 = 0 then jn (fun (v16 : Bool) => jn (fun (y38 : Bool) => bnd (x6.1 + 1) (fun (v39 : Int32) => fL_areAlike_lp41 sa sb K8 n9 (v39, y38))) (fun K26 => fL_areAlike_lp85 sa sb x6 K26 5 (0, v16))) (fun K17 => if r12.2 = r14.2 then bnd (g_rations sa.2.2 x6.1) (fun (r19 : Nat × Int32) => if r19.1 = 0 then bnd (g_rations sb.2.2 x6.1) (fun (r21 : Nat × Int32) => if r21.1 = 0 then if r19.2 = r21.2 then K17 true else K17 false else (r21.1, 0)) else (r19.1, 0)) else K17 false) else (r14.1, 0)) else (r12.1, 0)) else K8 x6.2
theorem fL_areAlike_lp41_s (sa : ST) (sb : ST) (K8 : Bool → (Nat × Int32)) (n9 : Nat) (x6 : Int32 × Bool) : fL_areAlike_lp41 sa sb K8 (n9 + 1) x6 = if 4 ≤ x6.1 then K8 x6.2 else if x6.2 = true then bnd (g_fuel sa.2.2 x6.1) (fun (r12 : Nat × Int32) => if r12.1 = 0 then bnd (g_fuel sb.2.2 x6.1) (fun (r14 : Nat × Int32) => if r14.1 = 0 then jn (fun (v16 : Bool) => jn (fun (y38 : Bool) => bnd (x6.1 + 1) (fun (v39 : Int32) => fL_areAlike_lp41 sa sb K8 n9 (v39, y38))) (fun K26 => fL_areAlike_lp85 sa sb x6 K26 5 (0, v16))) (fun K17 => if r12.2 = r14.2 then bnd (g_rations sa.2.2 x6.1) (fun (r19 : Nat × Int32) => if r19.1 = 0 then bnd (g_rations sb.2.2 x6.1) (fun (r21 : Nat × Int32) => if r21.1 = 0 then if r19.2 = r21.2 then K17 true else K17 false else (r21.1, 0)) else (r19.1, 0)) else K17 false) else (r14.1, 0)) else (r12.1, 0)) else K8 x6.2 := rfl
def fL_areAlike_lp132 (sa : ST) (sb : ST) (K43 : Bool → (Nat × Int32)) : Nat → (Int32 × Bool) → (Nat × Int32)
  | 0, x41 => (0, 0)
  | n44 + 1, x41 => if 8 ≤ x41.1 then K43 x41.2 else if x41.2 = true then bnd (g_length sa.2.2 x41.1) (fun (r47 : Nat × Int32) => if r47.1 = 0 then bnd (g_length sb.2.2 x41.1) (fun (r49 : Nat × Int32) => if r49.1 = 0 then jn (fun (v51 : Bool) => bnd (x41.1 + 1) (fun (v59 : Int32) => fL_areAlike_lp132 sa sb K43 n44 (v59, v51))) (fun K52 => if r47.2 = r49.2 then bnd (g_fault sa.2.2 x41.1) (fun (r54 : Nat × Int32) => if r54.1 = 0 then bnd (g_fault sb.2.2 x41.1) (fun (r56 : Nat × Int32) => if r56.1 = 0 then if r54.2 = r56.2 then K52 true else K52 false else (r56.1, 0)) else (r54.1, 0)) else K52 false) else (r49.1, 0)) else (r47.1, 0)) else K43 x41.2
theorem fL_areAlike_lp132_s (sa : ST) (sb : ST) (K43 : Bool → (Nat × Int32)) (n44 : Nat) (x41 : Int32 × Bool) : fL_areAlike_lp132 sa sb K43 (n44 + 1) x41 = if 8 ≤ x41.1 then K43 x41.2 else if x41.2 = true then bnd (g_length sa.2.2 x41.1) (fun (r47 : Nat × Int32) => if r47.1 = 0 then bnd (g_length sb.2.2 x41.1) (fun (r49 : Nat × Int32) => if r49.1 = 0 then jn (fun (v51 : Bool) => bnd (x41.1 + 1) (fun (v59 : Int32) => fL_areAlike_lp132 sa sb K43 n44 (v59, v51))) (fun K52 => if r47.2 = r49.2 then bnd (g_fault sa.2.2 x41.1) (fun (r54 : Nat × Int32) => if r54.1 = 0 then bnd (g_fault sb.2.2 x41.1) (fun (r56 : Nat × Int32) => if r56.1 = 0 then if r54.2 = r56.2 then K52 true else K52 false else (r56.1, 0)) else (r54.1, 0)) else K52 false) else (r49.1, 0)) else (r47.1, 0)) else K43 x41.2 := rfl
def fL_areAlike_lp182 (sa : ST) (sb : ST) (K63 : Bool → (Nat × Int32)) : Nat → (Int32 × Bool) → (Nat × Int32)
  | 0, x61 => (0, 0)
  | n64 + 1, x61 => if (sa.2.2 0 0 11) ≤ x61.1 then K63 x61.2 else if x61.2 = true then bnd (g_state sa.2.2 x61.1) (fun (r67 : Nat × Int32) => if r67.1 = 0 then bnd (g_state sb.2.2 x61.1) (fun (r69 : Nat × Int32) => if r69.1 = 0 then jn (fun (v71 : Bool) => bnd (x61.1 + 1) (fun (v89 : Int32) => fL_areAlike_lp182 sa sb K63 n64 (v89, v71))) (fun K72 => if r67.2 = r69.2 then bnd (g_done sa.2.2 x61.1) (fun (r74 : Nat × Int32) => if r74.1 = 0 then bnd (g_done sb.2.2 x61.1) (fun (r76 : Nat × Int32) => if r76.1 = 0 then if r74.2 = r76.2 then bnd (g_used sa.2.2 x61.1) (fun (r79 : Nat × Int32) => if r79.1 = 0 then bnd (g_used sb.2.2 x61.1) (fun (r81 : Nat × Int32) => if r81.1 = 0 then if r79.2 = r81.2 then bnd (g_value sa.2.2 x61.1) (fun (r84 : Nat × Int32) => if r84.1 = 0 then bnd (g_value sb.2.2 x61.1) (fun (r86 : Nat × Int32) => if r86.1 = 0 then if r84.2 = r86.2 then K72 true else K72 false else (r86.1, 0)) else (r84.1, 0)) else K72 false else (r81.1, 0)) else (r79.1, 0)) else K72 false else (r76.1, 0)) else (r74.1, 0)) else K72 false) else (r69.1, 0)) else (r67.1, 0)) else K63 x61.2
theorem fL_areAlike_lp182_s (sa : ST) (sb : ST) (K63 : Bool → (Nat × Int32)) (n64 : Nat) (x61 : Int32 × Bool) : fL_areAlike_lp182 sa sb K63 (n64 + 1) x61 = if (sa.2.2 0 0 11) ≤ x61.1 then K63 x61.2 else if x61.2 = true then bnd (g_state sa.2.2 x61.1) (fun (r67 : Nat × Int32) => if r67.1 = 0 then bnd (g_state sb.2.2 x61.1) (fun (r69 : Nat × Int32) => if r69.1 = 0 then jn (fun (v71 : Bool) => bnd (x61.1 + 1) (fun (v89 : Int32) => fL_areAlike_lp182 sa sb K63 n64 (v89, v71))) (fun K72 => if r67.2 = r69.2 then bnd (g_done sa.2.2 x61.1) (fun (r74 : Nat × Int32) => if r74.1 = 0 then bnd (g_done sb.2.2 x61.1) (fun (r76 : Nat × Int32) => if r76.1 = 0 then if r74.2 = r76.2 then bnd (g_used sa.2.2 x61.1) (fun (r79 : Nat × Int32) => if r79.1 = 0 then bnd (g_used sb.2.2 x61.1) (fun (r81 : Nat × Int32) => if r81.1 = 0 then if r79.2 = r81.2 then bnd (g_value sa.2.2 x61.1) (fun (r84 : Nat × Int32) => if r84.1 = 0 then bnd (g_value sb.2.2 x61.1) (fun (r86 : Nat × Int32) => if r86.1 = 0 then if r84.2 = r86.2 then K72 true else K72 false else (r86.1, 0)) else (r84.1, 0)) else K72 false else (r81.1, 0)) else (r79.1, 0)) else K72 false else (r76.1, 0)) else (r74.1, 0)) else K72 false) else (r69.1, 0)) else (r67.1, 0)) else K63 x61.2 := rfl
def fL_areAlike (sa : ST) (sb : ST) : (Nat × Int32) := jn (fun (v1 : Bool) => jn (fun (y40 : Bool) => jn (fun (y60 : Bool) => jn (fun (y90 : Bool) => (0, (b2i y90))) (fun K63 => fL_areAlike_lp182 sa sb K63 61 (0, y60))) (fun K43 => fL_areAlike_lp132 sa sb K43 9 (0, y40))) (fun K8 => fL_areAlike_lp41 sa sb K8 5 (0, v1))) (fun K2 => if (sa.2.2 0 0 10) = (sb.2.2 0 0 10) then if (sa.2.2 0 0 11) = (sb.2.2 0 0 11) then if (sa.2.2 0 0 21) = (sb.2.2 0 0 21) then K2 true else K2 false else K2 false else K2 false)
set_option maxHeartbeats 4000000 in
set_option maxRecDepth 100000 in
theorem ml_L_areAlike (hl : l.stackTraces = false) (D : va_G) (ta : wTa) (ad : wAd) : ML l D ta ad yL_areAlike (.code yL_areAlike cL_areAlike 5 (some .boolean)) 9 644 [.ref (ad 11 0 0), .ref (ad 31 0 0)] (GM w sa sb) (fL_areAlike sa sb, GM w sa sb) := by
  refine ML.of (fun z : Nat × Int32 => (z, GM w sa sb)) (fL_areAlike sa sb) rfl (by decide) (Nat.le_of_ble_eq_true rfl) (fun p e s m args below meth c cx hzx hcx ht hr M hG => ?_)
  have ho : (sa.2.2 0 0 11).toInt ≤ 60 := hG.o60.2
  unfold fL_areAlike
  refine mw_sub (lv' := [(0, .ref (ad 11 0 0)), (1, .ref (ad 31 0 0))]) [0, 1] rfl ?_
  refine mw_aload_n cx (q := 1) 0 rfl rfl dL_areAlike_0 rfl ?_
  obtain ⟨M, hG, hM⟩ := C_hour (D := D) (ta := ta) (ad := ad) hl hG
  refine gl_callVn cx hzx (q := 4) (d0 := 8) (u0 := 0) (As := []) (r := (0, (sa.2.2 0 0 10))) (M' := M) (st := []) hM cv_L_115 rfl rfl rfl vi_11_0 ⟨by decide, by decide⟩ (by omega) (by simp [Value.category]) rfl rfl dL_areAlike_1 rfl ?_
  refine mw_aload_n cx (q := 5) 1 rfl rfl dL_areAlike_4 rfl ?_
  obtain ⟨M, hG, hM⟩ := D_hour (D := D) (ta := ta) (ad := ad) hl hG
  refine gl_callVn cx hzx (q := 8) (d0 := 8) (u0 := 0) (As := []) (r := (0, (sb.2.2 0 0 10))) (M' := M) (st := [.int (sa.2.2 0 0 10)]) hM cv_L_115 rfl rfl rfl vi_31_0 ⟨by decide, by decide⟩ (by omega) (by simp [Value.category]) rfl rfl dL_areAlike_5 rfl ?_
  refine gl_jn (fun (v1 : Bool) (M : Wm) => GM w sa sb M) (0) 38 (fun (v1 : Bool) => [(0, .ref (ad 11 0 0)), (1, .ref (ad 31 0 0))]) (fun (v1 : Bool) => [.int (b2i v1)]) (fun v1 M hG => ?_) (fun K2 hK2 => ?_)
  · refine mw_istore_n cx (q := 39) (lv' := [(2, .int (b2i v1)), (0, .ref (ad 11 0 0)), (1, .ref (ad 31 0 0))]) rfl rfl (by decide) dL_areAlike_38 rfl ?_
    refine mw_iconst cx (q := 40) (v := 0) dL_areAlike_39 rfl rfl ?_
    refine mw_istore_n cx (q := 41) (lv' := [(3, .int 0), (2, .int (b2i v1)), (0, .ref (ad 11 0 0)), (1, .ref (ad 31 0 0))]) rfl rfl (by decide) dL_areAlike_40 rfl ?_
    refine gl_jn (fun (y40 : Bool) (M : Wm) => GM w sa sb M) (0 + 120) 130 (fun (y40 : Bool) => [(2, .int (b2i y40)), (0, .ref (ad 11 0 0)), (1, .ref (ad 31 0 0))]) (fun (y40 : Bool) => []) (fun y40 M hG => ?_) (fun K8 hK8 => ?_)
    · refine mw_iconst cx (q := 131) (v := 0) dL_areAlike_130 rfl rfl ?_
      refine mw_istore_n cx (q := 132) (lv' := [(3, .int 0), (2, .int (b2i y40)), (0, .ref (ad 11 0 0)), (1, .ref (ad 31 0 0))]) rfl rfl (by decide) dL_areAlike_131 rfl ?_
      refine gl_jn (fun (y60 : Bool) (M : Wm) => GM w sa sb M) (0 + 156) 180 (fun (y60 : Bool) => [(2, .int (b2i y60)), (0, .ref (ad 11 0 0)), (1, .ref (ad 31 0 0))]) (fun (y60 : Bool) => []) (fun y60 M hG => ?_) (fun K43 hK43 => ?_)
      · refine mw_iconst cx (q := 181) (v := 0) dL_areAlike_180 rfl rfl ?_
        refine mw_istore_n cx (q := 182) (lv' := [(3, .int 0), (2, .int (b2i y60)), (0, .ref (ad 11 0 0)), (1, .ref (ad 31 0 0))]) rfl rfl (by decide) dL_areAlike_181 rfl ?_
        refine gl_jn (fun (y90 : Bool) (M : Wm) => GM w sa sb M) (0 + 644) 258 (fun (y90 : Bool) => [(2, .int (b2i y90))]) (fun (y90 : Bool) => []) (fun y90 M hG => ?_) (fun K63 hK63 => ?_)
        · refine mw_iload_n cx (q := 259) 0 rfl rfl dL_areAlike_258 rfl ?_
          exact gl_iret cx hr (b2i_nar _) rfl hG (by omega) dL_areAlike_259
        · refine gl_loop (F := fL_areAlike_lp182 sa sb K63) (I := fun (x61 : Int32 × Bool) => 0 ≤ (x61.1).toInt) (μ := fun (x61 : Int32 × Bool) => ((sa.2.2 0 0 11).toInt - (x61.1).toInt).toNat) (Γx := fun (x61 : Int32 × Bool) (M : Wm) => GM w sa sb M) (px := 182) (lx := fun (x61 : Int32 × Bool) => [(3, .int x61.1), (2, .int (b2i x61.2)), (0, .ref (ad 11 0 0)), (1, .ref (ad 31 0 0))]) (per := 8) (N := 61) (fun n64 x61 M cl62 hcl62 hG ivx61 ih => ?_) 61 (0, y60) M hG (by (try simp only [vp_in_iff, i32lt, i32le, i32eq, i32add, i32sub, i32mul, i32neg, t32_0]); omega) (by (try simp only [vp_in_iff, i32lt, i32le, i32eq, i32add, i32sub, i32mul, i32neg, t32_0, t32_11, t32_60, t32_61] at ho ⊢); omega) (by (try simp only [vp_in_iff, i32lt, i32le, i32eq, i32add, i32sub, i32mul, i32neg, t32_0, t32_11, t32_60, t32_61] at ho ⊢); omega)
          have ivx61_0 := ivx61
          refine mw_eqS (fL_areAlike_lp182_s sa sb K63 n64 x61) ?_
          refine mw_iload_n cx (q := 183) 0 rfl rfl dL_areAlike_182 rfl ?_
          refine mw_aload_n cx (q := 184) 2 rfl rfl dL_areAlike_183 rfl ?_
          obtain ⟨M, hG, hM⟩ := C_orders (D := D) (ta := ta) (ad := ad) hl hG
          refine gl_callVn cx hzx (q := 187) (d0 := 8) (u0 := 0) (As := []) (r := (0, (sa.2.2 0 0 11))) (M' := M) (st := [.int x61.1]) hM cv_L_106 rfl rfl rfl vi_11_0 ⟨by decide, by decide⟩ (by omega) (by simp [Value.category]) rfl rfl dL_areAlike_184 rfl ?_
          refine mw_icmp_ge cx (tgt := 258) (q := 190) dL_areAlike_187 (by decide) rfl (fun h65 => ?_) (fun h65 => ?_)
          · refine mw_sub [1] rfl ?_
            exact gl_w (by omega) (hK63 x61.2 M hG)
          · refine mw_iload_n cx (q := 191) 1 rfl rfl dL_areAlike_190 rfl ?_
            refine mw_ifb_eq cx (tgt := 258) (q := 194) dL_areAlike_191 (by decide) rfl (fun h66 => ?_) (fun h66 => ?_)
            · refine mw_sub [1] rfl ?_
              exact gl_w (by omega) (hK63 x61.2 M hG)
            · refine mw_aload_n cx (q := 195) 2 rfl rfl dL_areAlike_194 rfl ?_
              refine mw_iload_n cx (q := 196) 0 rfl rfl dL_areAlike_195 rfl ?_
              refine mw_bnd (fun r67 er67 => ?_)
              obtain ⟨M, hG, hM⟩ := C_state (D := D) (ta := ta) (ad := ad) hl hG x61.1
              rw [← er67] at hM
              refine gl_callV cx hzx ht (q := 199) (d0 := 8) (u0 := 1) (As := [.int x61.1]) (r := r67) (M' := M) (st := []) hM cv_L_133 rfl rfl rfl vi_11_0 ⟨by decide, by decide⟩ (by omega) (by simp [Value.category]) rfl (fun _ => ⟨rfl, hG⟩) dL_areAlike_196 rfl (fun h68 => ?_)
              refine mw_aload_n cx (q := 200) 3 rfl rfl dL_areAlike_199 rfl ?_
              refine mw_iload_n cx (q := 201) 0 rfl rfl dL_areAlike_200 rfl ?_
              refine mw_bnd (fun r69 er69 => ?_)
              obtain ⟨M, hG, hM⟩ := D_state (D := D) (ta := ta) (ad := ad) hl hG x61.1
              rw [← er69] at hM
              refine gl_callV cx hzx ht (q := 204) (d0 := 8) (u0 := 1) (As := [.int x61.1]) (r := r69) (M' := M) (st := [.int r67.2]) hM cv_L_133 rfl rfl rfl vi_31_0 ⟨by decide, by decide⟩ (by omega) (by simp [Value.category]) rfl (fun _ => ⟨rfl, hG⟩) dL_areAlike_201 rfl (fun h70 => ?_)
              refine gl_jn (fun (v71 : Bool) (M : Wm) => GM w sa sb M) (cl62 + 8) 251 (fun (v71 : Bool) => [(0, .ref (ad 11 0 0)), (1, .ref (ad 31 0 0)), (3, .int x61.1)]) (fun (v71 : Bool) => [.int (b2i v71)]) (fun v71 M hG => ?_) (fun K72 hK72 => ?_)
              · refine mw_istore_n cx (q := 252) (lv' := [(2, .int (b2i v71)), (0, .ref (ad 11 0 0)), (1, .ref (ad 31 0 0)), (3, .int x61.1)]) rfl rfl (by decide) dL_areAlike_251 rfl ?_
                refine mw_bnd (fun v89 ev89 => ?_)
                refine mw_iinc cx (q := 255) (v := v89) (lv' := [(3, .int v89), (2, .int (b2i v71)), (0, .ref (ad 11 0 0)), (1, .ref (ad 31 0 0))]) 3 rfl (by rw [ev89]; rfl) rfl (by decide) dL_areAlike_252 rfl ?_
                refine mw_goto cx (tgt := 182) dL_areAlike_255 (by decide) ?_
                exact gl_w (by omega) (ih (v89, v71) M hG (by (try simp only [vp_in_iff, i32lt, i32le, i32eq, i32add, i32sub, i32mul, i32neg, t32_0, t32_1, t32_11, t32_60] at ev89 ivx61_0 h65 ho ⊢); omega) (by (try simp only [vp_in_iff, i32lt, i32le, i32eq, i32add, i32sub, i32mul, i32neg, t32_0, t32_1, t32_11, t32_60] at ho ivx61_0 h65 ev89 ⊢); omega))
              · refine mw_icmp_ne cx (tgt := 250) (q := 207) dL_areAlike_204 (by decide) rfl (fun h73 => ?_) (fun h73 => ?_)
                · refine mw_iconst cx (q := 251) (v := 0) dL_areAlike_250 rfl rfl ?_
                  refine mw_sub [2, 3, 0] rfl ?_
                  exact gl_w (by omega) (hK72 false M hG)
                · refine mw_aload_n cx (q := 208) 2 rfl rfl dL_areAlike_207 rfl ?_
                  refine mw_iload_n cx (q := 209) 0 rfl rfl dL_areAlike_208 rfl ?_
                  refine mw_bnd (fun r74 er74 => ?_)
                  obtain ⟨M, hG, hM⟩ := C_done (D := D) (ta := ta) (ad := ad) hl hG x61.1
                  rw [← er74] at hM
                  refine gl_callV cx hzx ht (q := 212) (d0 := 8) (u0 := 1) (As := [.int x61.1]) (r := r74) (M' := M) (st := []) hM cv_L_136 rfl rfl rfl vi_11_0 ⟨by decide, by decide⟩ (by omega) (by simp [Value.category]) rfl (fun _ => ⟨rfl, hG⟩) dL_areAlike_209 rfl (fun h75 => ?_)
                  refine mw_aload_n cx (q := 213) 3 rfl rfl dL_areAlike_212 rfl ?_
                  refine mw_iload_n cx (q := 214) 0 rfl rfl dL_areAlike_213 rfl ?_
                  refine mw_bnd (fun r76 er76 => ?_)
                  obtain ⟨M, hG, hM⟩ := D_done (D := D) (ta := ta) (ad := ad) hl hG x61.1
                  rw [← er76] at hM
                  refine gl_callV cx hzx ht (q := 217) (d0 := 8) (u0 := 1) (As := [.int x61.1]) (r := r76) (M' := M) (st := [.int r74.2]) hM cv_L_136 rfl rfl rfl vi_31_0 ⟨by decide, by decide⟩ (by omega) (by simp [Value.category]) rfl (fun _ => ⟨rfl, hG⟩) dL_areAlike_214 rfl (fun h77 => ?_)
                  refine mw_icmp_ne cx (tgt := 250) (q := 220) dL_areAlike_217 (by decide) rfl (fun h78 => ?_) (fun h78 => ?_)
                  · refine mw_iconst cx (q := 251) (v := 0) dL_areAlike_250 rfl rfl ?_
                    refine mw_sub [2, 3, 0] rfl ?_
                    exact gl_w (by omega) (hK72 false M hG)
                  · refine mw_aload_n cx (q := 221) 2 rfl rfl dL_areAlike_220 rfl ?_
                    refine mw_iload_n cx (q := 222) 0 rfl rfl dL_areAlike_221 rfl ?_
                    refine mw_bnd (fun r79 er79 => ?_)
                    obtain ⟨M, hG, hM⟩ := C_used (D := D) (ta := ta) (ad := ad) hl hG x61.1
                    rw [← er79] at hM
                    refine gl_callV cx hzx ht (q := 225) (d0 := 8) (u0 := 1) (As := [.int x61.1]) (r := r79) (M' := M) (st := []) hM cv_L_139 rfl rfl rfl vi_11_0 ⟨by decide, by decide⟩ (by omega) (by simp [Value.category]) rfl (fun _ => ⟨rfl, hG⟩) dL_areAlike_222 rfl (fun h80 => ?_)
                    refine mw_aload_n cx (q := 226) 3 rfl rfl dL_areAlike_225 rfl ?_
                    refine mw_iload_n cx (q := 227) 0 rfl rfl dL_areAlike_226 rfl ?_
                    refine mw_bnd (fun r81 er81 => ?_)
                    obtain ⟨M, hG, hM⟩ := D_used (D := D) (ta := ta) (ad := ad) hl hG x61.1
                    rw [← er81] at hM
                    refine gl_callV cx hzx ht (q := 230) (d0 := 8) (u0 := 1) (As := [.int x61.1]) (r := r81) (M' := M) (st := [.int r79.2]) hM cv_L_139 rfl rfl rfl vi_31_0 ⟨by decide, by decide⟩ (by omega) (by simp [Value.category]) rfl (fun _ => ⟨rfl, hG⟩) dL_areAlike_227 rfl (fun h82 => ?_)
                    refine mw_icmp_ne cx (tgt := 250) (q := 233) dL_areAlike_230 (by decide) rfl (fun h83 => ?_) (fun h83 => ?_)
                    · refine mw_iconst cx (q := 251) (v := 0) dL_areAlike_250 rfl rfl ?_
                      refine mw_sub [2, 3, 0] rfl ?_
                      exact gl_w (by omega) (hK72 false M hG)
                    · refine mw_aload_n cx (q := 234) 2 rfl rfl dL_areAlike_233 rfl ?_
                      refine mw_iload_n cx (q := 235) 0 rfl rfl dL_areAlike_234 rfl ?_
                      refine mw_bnd (fun r84 er84 => ?_)
                      obtain ⟨M, hG, hM⟩ := C_value (D := D) (ta := ta) (ad := ad) hl hG x61.1
                      rw [← er84] at hM
                      refine gl_callV cx hzx ht (q := 238) (d0 := 8) (u0 := 1) (As := [.int x61.1]) (r := r84) (M' := M) (st := []) hM cv_L_142 rfl rfl rfl vi_11_0 ⟨by decide, by decide⟩ (by omega) (by simp [Value.category]) rfl (fun _ => ⟨rfl, hG⟩) dL_areAlike_235 rfl (fun h85 => ?_)
                      refine mw_aload_n cx (q := 239) 3 rfl rfl dL_areAlike_238 rfl ?_
                      refine mw_iload_n cx (q := 240) 0 rfl rfl dL_areAlike_239 rfl ?_
                      refine mw_bnd (fun r86 er86 => ?_)
                      obtain ⟨M, hG, hM⟩ := D_value (D := D) (ta := ta) (ad := ad) hl hG x61.1
                      rw [← er86] at hM
                      refine gl_callV cx hzx ht (q := 243) (d0 := 8) (u0 := 1) (As := [.int x61.1]) (r := r86) (M' := M) (st := [.int r84.2]) hM cv_L_142 rfl rfl rfl vi_31_0 ⟨by decide, by decide⟩ (by omega) (by simp [Value.category]) rfl (fun _ => ⟨rfl, hG⟩) dL_areAlike_240 rfl (fun h87 => ?_)
                      refine mw_icmp_ne cx (tgt := 250) (q := 246) dL_areAlike_243 (by decide) rfl (fun h88 => ?_) (fun h88 => ?_)
                      · refine mw_iconst cx (q := 251) (v := 0) dL_areAlike_250 rfl rfl ?_
                        refine mw_sub [2, 3, 0] rfl ?_
                        exact gl_w (by omega) (hK72 false M hG)
                      · refine mw_iconst cx (q := 247) (v := 1) dL_areAlike_246 rfl rfl ?_
                        refine mw_goto cx (tgt := 251) dL_areAlike_247 (by decide) ?_
                        refine mw_sub [2, 3, 0] rfl ?_
                        exact gl_w (by omega) (hK72 true M hG)
      · refine gl_loop (F := fL_areAlike_lp132 sa sb K43) (I := fun (x41 : Int32 × Bool) => 0 ≤ (x41.1).toInt) (μ := fun (x41 : Int32 × Bool) => (8 - (x41.1).toInt).toNat) (Γx := fun (x41 : Int32 × Bool) (M : Wm) => GM w sa sb M) (px := 132) (lx := fun (x41 : Int32 × Bool) => [(3, .int x41.1), (2, .int (b2i x41.2)), (0, .ref (ad 11 0 0)), (1, .ref (ad 31 0 0))]) (per := 4) (N := 9) (fun n44 x41 M cl42 hcl42 hG ivx41 ih => ?_) 9 (0, y40) M hG (by (try simp only [vp_in_iff, i32lt, i32le, i32eq, i32add, i32sub, i32mul, i32neg, t32_0]); omega) (by (try simp only [vp_in_iff, i32lt, i32le, i32eq, i32add, i32sub, i32mul, i32neg, t32_0, t32_8, t32_9]); omega) (by (try simp only [vp_in_iff, i32lt, i32le, i32eq, i32add, i32sub, i32mul, i32neg, t32_0, t32_8, t32_9]); omega)
        have ivx41_0 := ivx41
        refine mw_eqS (fL_areAlike_lp132_s sa sb K43 n44 x41) ?_
        refine mw_iload_n cx (q := 133) 0 rfl rfl dL_areAlike_132 rfl ?_
        refine mw_bipush cx (q := 135) (v := 8) dL_areAlike_133 rfl rfl ?_
        refine mw_icmp_ge cx (tgt := 180) (q := 138) dL_areAlike_135 (by decide) rfl (fun h45 => ?_) (fun h45 => ?_)
        · refine mw_sub [1, 2, 3] rfl ?_
          exact gl_w (by omega) (hK43 x41.2 M hG)
        · refine mw_iload_n cx (q := 139) 1 rfl rfl dL_areAlike_138 rfl ?_
          refine mw_ifb_eq cx (tgt := 180) (q := 142) dL_areAlike_139 (by decide) rfl (fun h46 => ?_) (fun h46 => ?_)
          · refine mw_sub [1, 2, 3] rfl ?_
            exact gl_w (by omega) (hK43 x41.2 M hG)
          · refine mw_aload_n cx (q := 143) 2 rfl rfl dL_areAlike_142 rfl ?_
            refine mw_iload_n cx (q := 144) 0 rfl rfl dL_areAlike_143 rfl ?_
            refine mw_bnd (fun r47 er47 => ?_)
            obtain ⟨M, hG, hM⟩ := C_length (D := D) (ta := ta) (ad := ad) hl hG x41.1
            rw [← er47] at hM
            refine gl_callV cx hzx ht (q := 147) (d0 := 8) (u0 := 1) (As := [.int x41.1]) (r := r47) (M' := M) (st := []) hM cv_L_64 rfl rfl rfl vi_11_0 ⟨by decide, by decide⟩ (by omega) (by simp [Value.category]) rfl (fun _ => ⟨rfl, hG⟩) dL_areAlike_144 rfl (fun h48 => ?_)
            refine mw_aload_n cx (q := 148) 3 rfl rfl dL_areAlike_147 rfl ?_
            refine mw_iload_n cx (q := 149) 0 rfl rfl dL_areAlike_148 rfl ?_
            refine mw_bnd (fun r49 er49 => ?_)
            obtain ⟨M, hG, hM⟩ := D_length (D := D) (ta := ta) (ad := ad) hl hG x41.1
            rw [← er49] at hM
            refine gl_callV cx hzx ht (q := 152) (d0 := 8) (u0 := 1) (As := [.int x41.1]) (r := r49) (M' := M) (st := [.int r47.2]) hM cv_L_64 rfl rfl rfl vi_31_0 ⟨by decide, by decide⟩ (by omega) (by simp [Value.category]) rfl (fun _ => ⟨rfl, hG⟩) dL_areAlike_149 rfl (fun h50 => ?_)
            refine gl_jn (fun (v51 : Bool) (M : Wm) => GM w sa sb M) (cl42 + 4) 173 (fun (v51 : Bool) => [(0, .ref (ad 11 0 0)), (1, .ref (ad 31 0 0)), (3, .int x41.1)]) (fun (v51 : Bool) => [.int (b2i v51)]) (fun v51 M hG => ?_) (fun K52 hK52 => ?_)
            · refine mw_istore_n cx (q := 174) (lv' := [(2, .int (b2i v51)), (0, .ref (ad 11 0 0)), (1, .ref (ad 31 0 0)), (3, .int x41.1)]) rfl rfl (by decide) dL_areAlike_173 rfl ?_
              refine mw_bnd (fun v59 ev59 => ?_)
              refine mw_iinc cx (q := 177) (v := v59) (lv' := [(3, .int v59), (2, .int (b2i v51)), (0, .ref (ad 11 0 0)), (1, .ref (ad 31 0 0))]) 3 rfl (by rw [ev59]; rfl) rfl (by decide) dL_areAlike_174 rfl ?_
              refine mw_goto cx (tgt := 132) dL_areAlike_177 (by decide) ?_
              exact gl_w (by omega) (ih (v59, v51) M hG (by (try simp only [vp_in_iff, i32lt, i32le, i32eq, i32add, i32sub, i32mul, i32neg, t32_0, t32_1, t32_8] at ev59 ivx41_0 h45 ⊢); omega) (by (try simp only [vp_in_iff, i32lt, i32le, i32eq, i32add, i32sub, i32mul, i32neg, t32_0, t32_1, t32_8] at ivx41_0 h45 ev59 ⊢); omega))
            · refine mw_icmp_ne cx (tgt := 172) (q := 155) dL_areAlike_152 (by decide) rfl (fun h53 => ?_) (fun h53 => ?_)
              · refine mw_iconst cx (q := 173) (v := 0) dL_areAlike_172 rfl rfl ?_
                refine mw_sub [2, 3, 0] rfl ?_
                exact gl_w (by omega) (hK52 false M hG)
              · refine mw_aload_n cx (q := 156) 2 rfl rfl dL_areAlike_155 rfl ?_
                refine mw_iload_n cx (q := 157) 0 rfl rfl dL_areAlike_156 rfl ?_
                refine mw_bnd (fun r54 er54 => ?_)
                obtain ⟨M, hG, hM⟩ := C_fault (D := D) (ta := ta) (ad := ad) hl hG x41.1
                rw [← er54] at hM
                refine gl_callV cx hzx ht (q := 160) (d0 := 8) (u0 := 1) (As := [.int x41.1]) (r := r54) (M' := M) (st := []) hM cv_L_130 rfl rfl rfl vi_11_0 ⟨by decide, by decide⟩ (by omega) (by simp [Value.category]) rfl (fun _ => ⟨rfl, hG⟩) dL_areAlike_157 rfl (fun h55 => ?_)
                refine mw_aload_n cx (q := 161) 3 rfl rfl dL_areAlike_160 rfl ?_
                refine mw_iload_n cx (q := 162) 0 rfl rfl dL_areAlike_161 rfl ?_
                refine mw_bnd (fun r56 er56 => ?_)
                obtain ⟨M, hG, hM⟩ := D_fault (D := D) (ta := ta) (ad := ad) hl hG x41.1
                rw [← er56] at hM
                refine gl_callV cx hzx ht (q := 165) (d0 := 8) (u0 := 1) (As := [.int x41.1]) (r := r56) (M' := M) (st := [.int r54.2]) hM cv_L_130 rfl rfl rfl vi_31_0 ⟨by decide, by decide⟩ (by omega) (by simp [Value.category]) rfl (fun _ => ⟨rfl, hG⟩) dL_areAlike_162 rfl (fun h57 => ?_)
                refine mw_icmp_ne cx (tgt := 172) (q := 168) dL_areAlike_165 (by decide) rfl (fun h58 => ?_) (fun h58 => ?_)
                · refine mw_iconst cx (q := 173) (v := 0) dL_areAlike_172 rfl rfl ?_
                  refine mw_sub [2, 3, 0] rfl ?_
                  exact gl_w (by omega) (hK52 false M hG)
                · refine mw_iconst cx (q := 169) (v := 1) dL_areAlike_168 rfl rfl ?_
                  refine mw_goto cx (tgt := 173) dL_areAlike_169 (by decide) ?_
                  refine mw_sub [2, 3, 0] rfl ?_
                  exact gl_w (by omega) (hK52 true M hG)
    · refine gl_loop (F := fL_areAlike_lp41 sa sb K8) (I := fun (x6 : Int32 × Bool) => 0 ≤ (x6.1).toInt) (μ := fun (x6 : Int32 × Bool) => (4 - (x6.1).toInt).toNat) (Γx := fun (x6 : Int32 × Bool) (M : Wm) => GM w sa sb M) (px := 41) (lx := fun (x6 : Int32 × Bool) => [(3, .int x6.1), (2, .int (b2i x6.2)), (0, .ref (ad 11 0 0)), (1, .ref (ad 31 0 0))]) (per := 24) (N := 5) (fun n9 x6 M cl7 hcl7 hG ivx6 ih => ?_) 5 (0, v1) M hG (by (try simp only [vp_in_iff, i32lt, i32le, i32eq, i32add, i32sub, i32mul, i32neg, t32_0]); omega) (by (try simp only [vp_in_iff, i32lt, i32le, i32eq, i32add, i32sub, i32mul, i32neg, t32_0, t32_4, t32_5]); omega) (by (try simp only [vp_in_iff, i32lt, i32le, i32eq, i32add, i32sub, i32mul, i32neg, t32_0, t32_4, t32_5]); omega)
      have ivx6_0 := ivx6
      refine mw_eqS (fL_areAlike_lp41_s sa sb K8 n9 x6) ?_
      refine mw_iload_n cx (q := 42) 0 rfl rfl dL_areAlike_41 rfl ?_
      refine mw_iconst cx (q := 43) (v := 4) dL_areAlike_42 rfl rfl ?_
      refine mw_icmp_ge cx (tgt := 130) (q := 46) dL_areAlike_43 (by decide) rfl (fun h10 => ?_) (fun h10 => ?_)
      · refine mw_sub [1, 2, 3] rfl ?_
        exact gl_w (by omega) (hK8 x6.2 M hG)
      · refine mw_iload_n cx (q := 47) 1 rfl rfl dL_areAlike_46 rfl ?_
        refine mw_ifb_eq cx (tgt := 130) (q := 50) dL_areAlike_47 (by decide) rfl (fun h11 => ?_) (fun h11 => ?_)
        · refine mw_sub [1, 2, 3] rfl ?_
          exact gl_w (by omega) (hK8 x6.2 M hG)
        · refine mw_aload_n cx (q := 51) 2 rfl rfl dL_areAlike_50 rfl ?_
          refine mw_iload_n cx (q := 52) 0 rfl rfl dL_areAlike_51 rfl ?_
          refine mw_bnd (fun r12 er12 => ?_)
          obtain ⟨M, hG, hM⟩ := C_fuel (D := D) (ta := ta) (ad := ad) hl hG x6.1
          rw [← er12] at hM
          refine gl_callV cx hzx ht (q := 55) (d0 := 8) (u0 := 1) (As := [.int x6.1]) (r := r12) (M' := M) (st := []) hM cv_L_121 rfl rfl rfl vi_11_0 ⟨by decide, by decide⟩ (by omega) (by simp [Value.category]) rfl (fun _ => ⟨rfl, hG⟩) dL_areAlike_52 rfl (fun h13 => ?_)
          refine mw_aload_n cx (q := 56) 3 rfl rfl dL_areAlike_55 rfl ?_
          refine mw_iload_n cx (q := 57) 0 rfl rfl dL_areAlike_56 rfl ?_
          refine mw_bnd (fun r14 er14 => ?_)
          obtain ⟨M, hG, hM⟩ := D_fuel (D := D) (ta := ta) (ad := ad) hl hG x6.1
          rw [← er14] at hM
          refine gl_callV cx hzx ht (q := 60) (d0 := 8) (u0 := 1) (As := [.int x6.1]) (r := r14) (M' := M) (st := [.int r12.2]) hM cv_L_121 rfl rfl rfl vi_31_0 ⟨by decide, by decide⟩ (by omega) (by simp [Value.category]) rfl (fun _ => ⟨rfl, hG⟩) dL_areAlike_57 rfl (fun h15 => ?_)
          refine gl_jn (fun (v16 : Bool) (M : Wm) => GM w sa sb M) (cl7 + 4) 81 (fun (v16 : Bool) => [(0, .ref (ad 11 0 0)), (1, .ref (ad 31 0 0)), (3, .int x6.1)]) (fun (v16 : Bool) => [.int (b2i v16)]) (fun v16 M hG => ?_) (fun K17 hK17 => ?_)
          · refine mw_istore_n cx (q := 82) (lv' := [(2, .int (b2i v16)), (0, .ref (ad 11 0 0)), (1, .ref (ad 31 0 0)), (3, .int x6.1)]) rfl rfl (by decide) dL_areAlike_81 rfl ?_
            refine mw_iconst cx (q := 83) (v := 0) dL_areAlike_82 rfl rfl ?_
            refine mw_istore cx (q := 85) (lv' := [(4, .int 0), (2, .int (b2i v16)), (0, .ref (ad 11 0 0)), (1, .ref (ad 31 0 0)), (3, .int x6.1)]) rfl (by decide) dL_areAlike_83 rfl ?_
            refine gl_jn (fun (y38 : Bool) (M : Wm) => GM w sa sb M) (cl7 + 24) 124 (fun (y38 : Bool) => [(2, .int (b2i y38)), (0, .ref (ad 11 0 0)), (1, .ref (ad 31 0 0)), (3, .int x6.1)]) (fun (y38 : Bool) => []) (fun y38 M hG => ?_) (fun K26 hK26 => ?_)
            · refine mw_bnd (fun v39 ev39 => ?_)
              refine mw_iinc cx (q := 127) (v := v39) (lv' := [(3, .int v39), (2, .int (b2i y38)), (0, .ref (ad 11 0 0)), (1, .ref (ad 31 0 0))]) 3 rfl (by rw [ev39]; rfl) rfl (by decide) dL_areAlike_124 rfl ?_
              refine mw_goto cx (tgt := 41) dL_areAlike_127 (by decide) ?_
              exact gl_w (by omega) (ih (v39, y38) M hG (by (try simp only [vp_in_iff, i32lt, i32le, i32eq, i32add, i32sub, i32mul, i32neg, t32_0, t32_1, t32_4] at ev39 ivx6_0 h10 ⊢); omega) (by (try simp only [vp_in_iff, i32lt, i32le, i32eq, i32add, i32sub, i32mul, i32neg, t32_0, t32_1, t32_4] at ivx6_0 h10 ev39 ⊢); omega))
            · refine gl_loop (F := fL_areAlike_lp85 sa sb x6 K26) (I := fun (x24 : Int32 × Bool) => 0 ≤ (x24.1).toInt) (μ := fun (x24 : Int32 × Bool) => (4 - (x24.1).toInt).toNat) (Γx := fun (x24 : Int32 × Bool) (M : Wm) => GM w sa sb M) (px := 85) (lx := fun (x24 : Int32 × Bool) => [(4, .int x24.1), (2, .int (b2i x24.2)), (0, .ref (ad 11 0 0)), (1, .ref (ad 31 0 0)), (3, .int x6.1)]) (per := 4) (N := 5) (fun n27 x24 M cl25 hcl25 hG ivx24 ih => ?_) 5 (0, v16) M hG (by (try simp only [vp_in_iff, i32lt, i32le, i32eq, i32add, i32sub, i32mul, i32neg, t32_0]); omega) (by (try simp only [vp_in_iff, i32lt, i32le, i32eq, i32add, i32sub, i32mul, i32neg, t32_0, t32_4, t32_5]); omega) (by (try simp only [vp_in_iff, i32lt, i32le, i32eq, i32add, i32sub, i32mul, i32neg, t32_0, t32_4, t32_5]); omega)
              have ivx24_0 := ivx24
              refine mw_eqS (fL_areAlike_lp85_s sa sb x6 K26 n27 x24) ?_
              refine mw_iload cx (q := 87) 0 rfl dL_areAlike_85 rfl ?_
              refine mw_iconst cx (q := 88) (v := 4) dL_areAlike_87 rfl rfl ?_
              refine mw_icmp_ge cx (tgt := 124) (q := 91) dL_areAlike_88 (by decide) rfl (fun h28 => ?_) (fun h28 => ?_)
              · refine mw_sub [1, 2, 3, 4] rfl ?_
                exact gl_w (by omega) (hK26 x24.2 M hG)
              · refine mw_iload_n cx (q := 92) 1 rfl rfl dL_areAlike_91 rfl ?_
                refine gl_jn (fun (v29 : Bool) (M : Wm) => GM w sa sb M) (cl25 + 4) 117 (fun (v29 : Bool) => [(0, .ref (ad 11 0 0)), (1, .ref (ad 31 0 0)), (3, .int x6.1), (4, .int x24.1)]) (fun (v29 : Bool) => [.int (b2i v29)]) (fun v29 M hG => ?_) (fun K30 hK30 => ?_)
                · refine mw_istore_n cx (q := 118) (lv' := [(2, .int (b2i v29)), (0, .ref (ad 11 0 0)), (1, .ref (ad 31 0 0)), (3, .int x6.1), (4, .int x24.1)]) rfl rfl (by decide) dL_areAlike_117 rfl ?_
                  refine mw_bnd (fun v37 ev37 => ?_)
                  refine mw_iinc cx (q := 121) (v := v37) (lv' := [(4, .int v37), (2, .int (b2i v29)), (0, .ref (ad 11 0 0)), (1, .ref (ad 31 0 0)), (3, .int x6.1)]) 4 rfl (by rw [ev37]; rfl) rfl (by decide) dL_areAlike_118 rfl ?_
                  refine mw_goto cx (tgt := 85) dL_areAlike_121 (by decide) ?_
                  exact gl_w (by omega) (ih (v37, v29) M hG (by (try simp only [vp_in_iff, i32lt, i32le, i32eq, i32add, i32sub, i32mul, i32neg, t32_0, t32_1, t32_4] at ev37 ivx24_0 h28 ⊢); omega) (by (try simp only [vp_in_iff, i32lt, i32le, i32eq, i32add, i32sub, i32mul, i32neg, t32_0, t32_1, t32_4] at ivx24_0 h28 ev37 ⊢); omega))
                · refine mw_ifb_eq cx (tgt := 116) (q := 95) dL_areAlike_92 (by decide) rfl (fun h31 => ?_) (fun h31 => ?_)
                  · refine mw_iconst cx (q := 117) (v := 0) dL_areAlike_116 rfl rfl ?_
                    refine mw_sub [2, 3, 4, 0] rfl ?_
                    exact gl_w (by omega) (hK30 false M hG)
                  · refine mw_aload_n cx (q := 96) 2 rfl rfl dL_areAlike_95 rfl ?_
                    refine mw_iload_n cx (q := 97) 4 rfl rfl dL_areAlike_96 rfl ?_
                    refine mw_iload cx (q := 99) 0 rfl dL_areAlike_97 rfl ?_
                    refine mw_bnd (fun r32 er32 => ?_)
                    obtain ⟨M, hG, hM⟩ := C_debt (D := D) (ta := ta) (ad := ad) hl hG x6.1 x24.1
                    rw [← er32] at hM
                    refine gl_callV cx hzx ht (q := 102) (d0 := 8) (u0 := 2) (As := [.int x6.1, .int x24.1]) (r := r32) (M' := M) (st := []) hM cv_L_127 rfl rfl rfl vi_11_0 ⟨by decide, by decide⟩ (by omega) (by simp [Value.category]) rfl (fun _ => ⟨rfl, hG⟩) dL_areAlike_99 rfl (fun h33 => ?_)
                    refine mw_aload_n cx (q := 103) 3 rfl rfl dL_areAlike_102 rfl ?_
                    refine mw_iload_n cx (q := 104) 4 rfl rfl dL_areAlike_103 rfl ?_
                    refine mw_iload cx (q := 106) 0 rfl dL_areAlike_104 rfl ?_
                    refine mw_bnd (fun r34 er34 => ?_)
                    obtain ⟨M, hG, hM⟩ := D_debt (D := D) (ta := ta) (ad := ad) hl hG x6.1 x24.1
                    rw [← er34] at hM
                    refine gl_callV cx hzx ht (q := 109) (d0 := 8) (u0 := 2) (As := [.int x6.1, .int x24.1]) (r := r34) (M' := M) (st := [.int r32.2]) hM cv_L_127 rfl rfl rfl vi_31_0 ⟨by decide, by decide⟩ (by omega) (by simp [Value.category]) rfl (fun _ => ⟨rfl, hG⟩) dL_areAlike_106 rfl (fun h35 => ?_)
                    refine mw_icmp_ne cx (tgt := 116) (q := 112) dL_areAlike_109 (by decide) rfl (fun h36 => ?_) (fun h36 => ?_)
                    · refine mw_iconst cx (q := 117) (v := 0) dL_areAlike_116 rfl rfl ?_
                      refine mw_sub [2, 3, 4, 0] rfl ?_
                      exact gl_w (by omega) (hK30 false M hG)
                    · refine mw_iconst cx (q := 113) (v := 1) dL_areAlike_112 rfl rfl ?_
                      refine mw_goto cx (tgt := 117) dL_areAlike_113 (by decide) ?_
                      refine mw_sub [2, 3, 4, 0] rfl ?_
                      exact gl_w (by omega) (hK30 true M hG)
          · refine mw_icmp_ne cx (tgt := 80) (q := 63) dL_areAlike_60 (by decide) rfl (fun h18 => ?_) (fun h18 => ?_)
            · refine mw_iconst cx (q := 81) (v := 0) dL_areAlike_80 rfl rfl ?_
              refine mw_sub [2, 3, 0] rfl ?_
              exact gl_w (by omega) (hK17 false M hG)
            · refine mw_aload_n cx (q := 64) 2 rfl rfl dL_areAlike_63 rfl ?_
              refine mw_iload_n cx (q := 65) 0 rfl rfl dL_areAlike_64 rfl ?_
              refine mw_bnd (fun r19 er19 => ?_)
              obtain ⟨M, hG, hM⟩ := C_rations (D := D) (ta := ta) (ad := ad) hl hG x6.1
              rw [← er19] at hM
              refine gl_callV cx hzx ht (q := 68) (d0 := 8) (u0 := 1) (As := [.int x6.1]) (r := r19) (M' := M) (st := []) hM cv_L_124 rfl rfl rfl vi_11_0 ⟨by decide, by decide⟩ (by omega) (by simp [Value.category]) rfl (fun _ => ⟨rfl, hG⟩) dL_areAlike_65 rfl (fun h20 => ?_)
              refine mw_aload_n cx (q := 69) 3 rfl rfl dL_areAlike_68 rfl ?_
              refine mw_iload_n cx (q := 70) 0 rfl rfl dL_areAlike_69 rfl ?_
              refine mw_bnd (fun r21 er21 => ?_)
              obtain ⟨M, hG, hM⟩ := D_rations (D := D) (ta := ta) (ad := ad) hl hG x6.1
              rw [← er21] at hM
              refine gl_callV cx hzx ht (q := 73) (d0 := 8) (u0 := 1) (As := [.int x6.1]) (r := r21) (M' := M) (st := [.int r19.2]) hM cv_L_124 rfl rfl rfl vi_31_0 ⟨by decide, by decide⟩ (by omega) (by simp [Value.category]) rfl (fun _ => ⟨rfl, hG⟩) dL_areAlike_70 rfl (fun h22 => ?_)
              refine mw_icmp_ne cx (tgt := 80) (q := 76) dL_areAlike_73 (by decide) rfl (fun h23 => ?_) (fun h23 => ?_)
              · refine mw_iconst cx (q := 81) (v := 0) dL_areAlike_80 rfl rfl ?_
                refine mw_sub [2, 3, 0] rfl ?_
                exact gl_w (by omega) (hK17 false M hG)
              · refine mw_iconst cx (q := 77) (v := 1) dL_areAlike_76 rfl rfl ?_
                refine mw_goto cx (tgt := 81) dL_areAlike_77 (by decide) ?_
                refine mw_sub [2, 3, 0] rfl ?_
                exact gl_w (by omega) (hK17 true M hG)
  · refine mw_icmp_ne cx (tgt := 37) (q := 11) dL_areAlike_8 (by decide) rfl (fun h3 => ?_) (fun h3 => ?_)
    · refine mw_iconst cx (q := 38) (v := 0) dL_areAlike_37 rfl rfl ?_
      exact gl_w (by omega) (hK2 false M hG)
    · refine mw_aload_n cx (q := 12) 0 rfl rfl dL_areAlike_11 rfl ?_
      obtain ⟨M, hG, hM⟩ := C_orders (D := D) (ta := ta) (ad := ad) hl hG
      refine gl_callVn cx hzx (q := 15) (d0 := 8) (u0 := 0) (As := []) (r := (0, (sa.2.2 0 0 11))) (M' := M) (st := []) hM cv_L_106 rfl rfl rfl vi_11_0 ⟨by decide, by decide⟩ (by omega) (by simp [Value.category]) rfl rfl dL_areAlike_12 rfl ?_
      refine mw_aload_n cx (q := 16) 1 rfl rfl dL_areAlike_15 rfl ?_
      obtain ⟨M, hG, hM⟩ := D_orders (D := D) (ta := ta) (ad := ad) hl hG
      refine gl_callVn cx hzx (q := 19) (d0 := 8) (u0 := 0) (As := []) (r := (0, (sb.2.2 0 0 11))) (M' := M) (st := [.int (sa.2.2 0 0 11)]) hM cv_L_106 rfl rfl rfl vi_31_0 ⟨by decide, by decide⟩ (by omega) (by simp [Value.category]) rfl rfl dL_areAlike_16 rfl ?_
      refine mw_icmp_ne cx (tgt := 37) (q := 22) dL_areAlike_19 (by decide) rfl (fun h4 => ?_) (fun h4 => ?_)
      · refine mw_iconst cx (q := 38) (v := 0) dL_areAlike_37 rfl rfl ?_
        exact gl_w (by omega) (hK2 false M hG)
      · refine mw_aload_n cx (q := 23) 0 rfl rfl dL_areAlike_22 rfl ?_
        obtain ⟨M, hG, hM⟩ := C_moves (D := D) (ta := ta) (ad := ad) hl hG
        refine gl_callVn cx hzx (q := 26) (d0 := 8) (u0 := 0) (As := []) (r := (0, (sa.2.2 0 0 21))) (M' := M) (st := []) hM cv_L_118 rfl rfl rfl vi_11_0 ⟨by decide, by decide⟩ (by omega) (by simp [Value.category]) rfl rfl dL_areAlike_23 rfl ?_
        refine mw_aload_n cx (q := 27) 1 rfl rfl dL_areAlike_26 rfl ?_
        obtain ⟨M, hG, hM⟩ := D_moves (D := D) (ta := ta) (ad := ad) hl hG
        refine gl_callVn cx hzx (q := 30) (d0 := 8) (u0 := 0) (As := []) (r := (0, (sb.2.2 0 0 21))) (M' := M) (st := [.int (sa.2.2 0 0 21)]) hM cv_L_118 rfl rfl rfl vi_31_0 ⟨by decide, by decide⟩ (by omega) (by simp [Value.category]) rfl rfl dL_areAlike_27 rfl ?_
        refine mw_icmp_ne cx (tgt := 37) (q := 33) dL_areAlike_30 (by decide) rfl (fun h5 => ?_) (fun h5 => ?_)
        · refine mw_iconst cx (q := 38) (v := 0) dL_areAlike_37 rfl rfl ?_
          exact gl_w (by omega) (hK2 false M hG)
        · refine mw_iconst cx (q := 34) (v := 1) dL_areAlike_33 rfl rfl ?_
          refine mw_goto cx (tgt := 38) dL_areAlike_34 (by decide) ?_
          exact gl_w (by omega) (hK2 true M hG)
def fL_areStocksSo_lp16 (sa : ST) (x1 : Int32) (K8 : Int32 → (Nat × Int32)) : Nat → (Int32 × Int32) → (Nat × Int32)
  | 0, x6 => (0, 0)
  | n9 + 1, x6 => if 4 ≤ x6.1 then K8 x6.2 else bnd (g_stock sa.2.2 x6.1 x1) (fun (r11 : Nat × Int32) => if r11.1 = 0 then if r11.2 < 0 then (0, 0) else bnd (g_stockByMoves sa.2.2 x6.1 x1) (fun (r14 : Nat × Int32) => if r14.1 = 0 then if r11.2 = r14.2 then bnd ((x6.2 + r11.2)) (fun (v17 : Int32) => bnd (x6.1 + 1) (fun (v18 : Int32) => fL_areStocksSo_lp16 sa x1 K8 n9 (v18, v17))) else (0, 0) else (r14.1, 0)) else (r11.1, 0))
theorem fL_areStocksSo_lp16_s (sa : ST) (x1 : Int32) (K8 : Int32 → (Nat × Int32)) (n9 : Nat) (x6 : Int32 × Int32) : fL_areStocksSo_lp16 sa x1 K8 (n9 + 1) x6 = if 4 ≤ x6.1 then K8 x6.2 else bnd (g_stock sa.2.2 x6.1 x1) (fun (r11 : Nat × Int32) => if r11.1 = 0 then if r11.2 < 0 then (0, 0) else bnd (g_stockByMoves sa.2.2 x6.1 x1) (fun (r14 : Nat × Int32) => if r14.1 = 0 then if r11.2 = r14.2 then bnd ((x6.2 + r11.2)) (fun (v17 : Int32) => bnd (x6.1 + 1) (fun (v18 : Int32) => fL_areStocksSo_lp16 sa x1 K8 n9 (v18, v17))) else (0, 0) else (r14.1, 0)) else (r11.1, 0)) := rfl
def fL_areStocksSo_lp64 (sa : ST) (x1 : Int32) (K22 : Int32 → (Nat × Int32)) : Nat → (Int32 × Int32) → (Nat × Int32)
  | 0, x20 => (0, 0)
  | n23 + 1, x20 => if (sa.2.2 0 0 11) ≤ x20.1 then K22 x20.2 else bnd (g_leftBy sa.2.2 x20.1 x1) (fun (r25 : Nat × Int32) => if r25.1 = 0 then bnd ((x20.2 + r25.2)) (fun (v27 : Int32) => bnd (x20.1 + 1) (fun (v28 : Int32) => fL_areStocksSo_lp64 sa x1 K22 n23 (v28, v27))) else (r25.1, 0))
theorem fL_areStocksSo_lp64_s (sa : ST) (x1 : Int32) (K22 : Int32 → (Nat × Int32)) (n23 : Nat) (x20 : Int32 × Int32) : fL_areStocksSo_lp64 sa x1 K22 (n23 + 1) x20 = if (sa.2.2 0 0 11) ≤ x20.1 then K22 x20.2 else bnd (g_leftBy sa.2.2 x20.1 x1) (fun (r25 : Nat × Int32) => if r25.1 = 0 then bnd ((x20.2 + r25.2)) (fun (v27 : Int32) => bnd (x20.1 + 1) (fun (v28 : Int32) => fL_areStocksSo_lp64 sa x1 K22 n23 (v28, v27))) else (r25.1, 0)) := rfl
def fL_areStocksSo_lp2 (w : Int32 → Int32) (sa : ST) (K3 : Unit → (Nat × Int32)) : Nat → Int32 → (Nat × Int32)
  | 0, x1 => (0, 0)
  | n4 + 1, x1 => if 8 ≤ x1 then K3 () else jn (fun (y19 : Int32) => jn (fun (y29 : Int32) => if y19 = (w x1) then bnd (g_stock sa.2.2 (-1) x1) (fun (r31 : Nat × Int32) => if r31.1 = 0 then if r31.2 = ((w x1) - y29) then bnd (x1 + 1) (fun (v34 : Int32) => fL_areStocksSo_lp2 w sa K3 n4 v34) else (0, 0) else (r31.1, 0)) else (0, 0)) (fun K22 => fL_areStocksSo_lp64 sa x1 K22 61 (0, 0))) (fun K8 => fL_areStocksSo_lp16 sa x1 K8 6 ((-1), 0))
theorem fL_areStocksSo_lp2_s (w : Int32 → Int32) (sa : ST) (K3 : Unit → (Nat × Int32)) (n4 : Nat) (x1 : Int32) : fL_areStocksSo_lp2 w sa K3 (n4 + 1) x1 = if 8 ≤ x1 then K3 () else jn (fun (y19 : Int32) => jn (fun (y29 : Int32) => if y19 = (w x1) then bnd (g_stock sa.2.2 (-1) x1) (fun (r31 : Nat × Int32) => if r31.1 = 0 then if r31.2 = ((w x1) - y29) then bnd (x1 + 1) (fun (v34 : Int32) => fL_areStocksSo_lp2 w sa K3 n4 v34) else (0, 0) else (r31.1, 0)) else (0, 0)) (fun K22 => fL_areStocksSo_lp64 sa x1 K22 61 (0, 0))) (fun K8 => fL_areStocksSo_lp16 sa x1 K8 6 ((-1), 0)) := rfl
def fL_areStocksSo (w : Int32 → Int32) (sa : ST) : (Nat × Int32) := jn (fun (y35 : Unit) => (0, 1)) (fun K3 => fL_areStocksSo_lp2 w sa K3 9 0)
set_option maxHeartbeats 4000000 in
set_option maxRecDepth 100000 in
theorem ml_L_areStocksSo (hl : l.stackTraces = false) (D : va_G) (ta : wTa) (ad : wAd) : ML l D ta ad yL_areStocksSo (.code yL_areStocksSo cL_areStocksSo 7 (some .boolean)) 9 1332 [.ref (ad 11 0 0), .ref (ad 13 0 0)] (GM w sa sb) (fL_areStocksSo w sa, GM w sa sb) := by
  refine ML.of (fun z : Nat × Int32 => (z, GM w sa sb)) (fL_areStocksSo w sa) rfl (by decide) (Nat.le_of_ble_eq_true rfl) (fun p e s m args below meth c cx hzx hcx ht hr M hG => ?_)
  have ho : (sa.2.2 0 0 11).toInt ≤ 60 := hG.o60.2
  unfold fL_areStocksSo
  refine mw_sub (lv' := [(0, .ref (ad 11 0 0)), (1, .ref (ad 13 0 0))]) [0, 1] rfl ?_
  refine mw_iconst cx (q := 1) (v := 0) dL_areStocksSo_0 rfl rfl ?_
  refine mw_istore_n cx (q := 2) (lv' := [(2, .int 0), (0, .ref (ad 11 0 0)), (1, .ref (ad 13 0 0))]) rfl rfl (by decide) dL_areStocksSo_1 rfl ?_
  refine gl_jn (fun (y35 : Unit) (M : Wm) => GM w sa sb M) (0 + 1332) 121 (fun (y35 : Unit) => []) (fun (y35 : Unit) => []) (fun y35 M hG => ?_) (fun K3 hK3 => ?_)
  · refine mw_iconst cx (q := 122) (v := 1) dL_areStocksSo_121 rfl rfl ?_
    exact gl_iret cx hr rfl rfl hG (by omega) dL_areStocksSo_122
  · refine gl_loop (F := fL_areStocksSo_lp2 w sa K3) (I := fun (x1 : Int32) => 0 ≤ (x1).toInt) (μ := fun (x1 : Int32) => (8 - (x1).toInt).toNat) (Γx := fun (x1 : Int32) (M : Wm) => GM w sa sb M) (px := 2) (lx := fun (x1 : Int32) => [(2, .int x1), (0, .ref (ad 11 0 0)), (1, .ref (ad 13 0 0))]) (per := 148) (N := 9) (fun n4 x1 M cl2 hcl2 hG ivx1 ih => ?_) 9 0 M hG (by (try simp only [vp_in_iff, i32lt, i32le, i32eq, i32add, i32sub, i32mul, i32neg, t32_0]); omega) (by (try simp only [vp_in_iff, i32lt, i32le, i32eq, i32add, i32sub, i32mul, i32neg, t32_0, t32_8, t32_9]); omega) (by (try simp only [vp_in_iff, i32lt, i32le, i32eq, i32add, i32sub, i32mul, i32neg, t32_0, t32_8, t32_9]); omega)
    have ivx1_0 := ivx1
    refine mw_eqS (fL_areStocksSo_lp2_s w sa K3 n4 x1) ?_
    refine mw_iload_n cx (q := 3) 0 rfl rfl dL_areStocksSo_2 rfl ?_
    refine mw_bipush cx (q := 5) (v := 8) dL_areStocksSo_3 rfl rfl ?_
    refine mw_icmp_ge cx (tgt := 121) (q := 8) dL_areStocksSo_5 (by decide) rfl (fun h5 => ?_) (fun h5 => ?_)
    · refine mw_sub [] rfl ?_
      exact gl_w (by omega) (hK3 () M hG)
    · refine mw_iconst cx (q := 9) (v := 0) dL_areStocksSo_8 rfl rfl ?_
      refine mw_istore_n cx (q := 10) (lv' := [(3, .int 0), (2, .int x1), (0, .ref (ad 11 0 0)), (1, .ref (ad 13 0 0))]) rfl rfl (by decide) dL_areStocksSo_9 rfl ?_
      refine mw_iconst cx (q := 11) (v := 0) dL_areStocksSo_10 rfl rfl ?_
      refine mw_istore cx (q := 13) (lv' := [(4, .int 0), (3, .int 0), (2, .int x1), (0, .ref (ad 11 0 0)), (1, .ref (ad 13 0 0))]) rfl (by decide) dL_areStocksSo_11 rfl ?_
      refine mw_iconst cx (q := 14) (v := (-1)) dL_areStocksSo_13 rfl rfl ?_
      refine mw_istore cx (q := 16) (lv' := [(5, .int (-1)), (4, .int 0), (3, .int 0), (2, .int x1), (0, .ref (ad 11 0 0)), (1, .ref (ad 13 0 0))]) rfl (by decide) dL_areStocksSo_14 rfl ?_
      refine gl_jn (fun (y19 : Int32) (M : Wm) => GM w sa sb M) (cl2 + 24) 61 (fun (y19 : Int32) => [(4, .int 0), (3, .int y19), (2, .int x1), (0, .ref (ad 11 0 0)), (1, .ref (ad 13 0 0))]) (fun (y19 : Int32) => []) (fun y19 M hG => ?_) (fun K8 hK8 => ?_)
      · refine mw_iconst cx (q := 62) (v := 0) dL_areStocksSo_61 rfl rfl ?_
        refine mw_istore cx (q := 64) (lv' := [(5, .int 0), (4, .int 0), (3, .int y19), (2, .int x1), (0, .ref (ad 11 0 0)), (1, .ref (ad 13 0 0))]) rfl (by decide) dL_areStocksSo_62 rfl ?_
        refine gl_jn (fun (y29 : Int32) (M : Wm) => GM w sa sb M) (cl2 + 146) 91 (fun (y29 : Int32) => [(4, .int y29), (3, .int y19), (2, .int x1), (0, .ref (ad 11 0 0)), (1, .ref (ad 13 0 0))]) (fun (y29 : Int32) => []) (fun y29 M hG => ?_) (fun K22 hK22 => ?_)
        · refine mw_iload_n cx (q := 92) 1 rfl rfl dL_areStocksSo_91 rfl ?_
          refine mw_aload_n cx (q := 93) 4 rfl rfl dL_areStocksSo_92 rfl ?_
          refine mw_iload_n cx (q := 94) 2 rfl rfl dL_areStocksSo_93 rfl ?_
          refine mw_iald cx (q := 95) (w := (w x1)) (congrFun hG.1 _) (fun _ => rfl) vi_13_0 (by (try simp only [vp_in_iff, i32lt, i32le, i32eq, i32add, i32sub, i32mul, i32neg, t32_0, t32_8] at ivx1_0 h5 ⊢); omega) dL_areStocksSo_94 rfl ?_
          refine mw_icmp_ne cx (tgt := 113) (q := 98) dL_areStocksSo_95 (by decide) rfl (fun h30 => ?_) (fun h30 => ?_)
          · refine mw_iconst cx (q := 114) (v := 0) dL_areStocksSo_113 rfl rfl ?_
            exact gl_iret cx hr rfl rfl hG (by omega) dL_areStocksSo_114
          · refine mw_aload_n cx (q := 99) 3 rfl rfl dL_areStocksSo_98 rfl ?_
            refine mw_iconst cx (q := 100) (v := (-1)) dL_areStocksSo_99 rfl rfl ?_
            refine mw_iload_n cx (q := 101) 2 rfl rfl dL_areStocksSo_100 rfl ?_
            refine mw_bnd (fun r31 er31 => ?_)
            obtain ⟨M, hG, hM⟩ := C_stock (D := D) (ta := ta) (ad := ad) hl hG (-1) x1
            rw [← er31] at hM
            refine gl_callV cx hzx ht (q := 104) (d0 := 8) (u0 := 2) (As := [.int (-1), .int x1]) (r := r31) (M' := M) (st := []) hM cv_L_145 rfl rfl rfl vi_11_0 ⟨by decide, by decide⟩ (by omega) (by simp [Value.category]) rfl (fun _ => ⟨rfl, hG⟩) dL_areStocksSo_101 rfl (fun h32 => ?_)
            refine mw_aload_n cx (q := 105) 4 rfl rfl dL_areStocksSo_104 rfl ?_
            refine mw_iload_n cx (q := 106) 2 rfl rfl dL_areStocksSo_105 rfl ?_
            refine mw_iald cx (q := 107) (w := (w x1)) (congrFun hG.1 _) (fun _ => rfl) vi_13_0 (by (try simp only [vp_in_iff, i32lt, i32le, i32eq, i32add, i32sub, i32mul, i32neg, t32_0, t32_8] at ivx1_0 h5 h30 ⊢); omega) dL_areStocksSo_106 rfl ?_
            refine mw_iload cx (q := 109) 0 rfl dL_areStocksSo_107 rfl ?_
            refine mw_isub cx (q := 110) dL_areStocksSo_109 rfl ?_
            refine mw_icmp_eq cx (tgt := 115) (q := 113) dL_areStocksSo_110 (by decide) rfl (fun h33 => ?_) (fun h33 => ?_)
            · refine mw_bnd (fun v34 ev34 => ?_)
              refine mw_iinc cx (q := 118) (v := v34) (lv' := [(2, .int v34), (4, .int y29), (3, .int y19), (0, .ref (ad 11 0 0)), (1, .ref (ad 13 0 0))]) 2 rfl (by rw [ev34]; rfl) rfl (by decide) dL_areStocksSo_115 rfl ?_
              refine mw_goto cx (tgt := 2) dL_areStocksSo_118 (by decide) ?_
              refine mw_sub [0, 3, 4] rfl ?_
              exact gl_w (by omega) (ih v34 M hG (by (try simp only [vp_in_iff, i32lt, i32le, i32eq, i32add, i32sub, i32mul, i32neg, t32_0, t32_1, t32_8] at ev34 ivx1_0 h5 h30 h33 ⊢); omega) (by (try simp only [vp_in_iff, i32lt, i32le, i32eq, i32add, i32sub, i32mul, i32neg, t32_0, t32_1, t32_8] at ivx1_0 h5 h30 h33 ev34 ⊢); omega))
            · refine mw_iconst cx (q := 114) (v := 0) dL_areStocksSo_113 rfl rfl ?_
              exact gl_iret cx hr rfl rfl hG (by omega) dL_areStocksSo_114
        · refine gl_loop (F := fL_areStocksSo_lp64 sa x1 K22) (I := fun (x20 : Int32 × Int32) => 0 ≤ (x20.1).toInt) (μ := fun (x20 : Int32 × Int32) => ((sa.2.2 0 0 11).toInt - (x20.1).toInt).toNat) (Γx := fun (x20 : Int32 × Int32) (M : Wm) => GM w sa sb M) (px := 64) (lx := fun (x20 : Int32 × Int32) => [(5, .int x20.1), (4, .int x20.2), (3, .int y19), (2, .int x1), (0, .ref (ad 11 0 0)), (1, .ref (ad 13 0 0))]) (per := 2) (N := 61) (fun n23 x20 M cl21 hcl21 hG ivx20 ih => ?_) 61 (0, 0) M hG (by (try simp only [vp_in_iff, i32lt, i32le, i32eq, i32add, i32sub, i32mul, i32neg, t32_0]); omega) (by (try simp only [vp_in_iff, i32lt, i32le, i32eq, i32add, i32sub, i32mul, i32neg, t32_0, t32_11, t32_60, t32_61] at ho ⊢); omega) (by (try simp only [vp_in_iff, i32lt, i32le, i32eq, i32add, i32sub, i32mul, i32neg, t32_0, t32_11, t32_60, t32_61] at ho ⊢); omega)
          have ivx20_0 := ivx20
          refine mw_eqS (fL_areStocksSo_lp64_s sa x1 K22 n23 x20) ?_
          refine mw_iload cx (q := 66) 0 rfl dL_areStocksSo_64 rfl ?_
          refine mw_aload_n cx (q := 67) 4 rfl rfl dL_areStocksSo_66 rfl ?_
          obtain ⟨M, hG, hM⟩ := C_orders (D := D) (ta := ta) (ad := ad) hl hG
          refine gl_callVn cx hzx (q := 70) (d0 := 8) (u0 := 0) (As := []) (r := (0, (sa.2.2 0 0 11))) (M' := M) (st := [.int x20.1]) hM cv_L_106 rfl rfl rfl vi_11_0 ⟨by decide, by decide⟩ (by omega) (by simp [Value.category]) rfl rfl dL_areStocksSo_67 rfl ?_
          refine mw_icmp_ge cx (tgt := 91) (q := 73) dL_areStocksSo_70 (by decide) rfl (fun h24 => ?_) (fun h24 => ?_)
          · refine mw_sub [1, 2, 3, 4, 5] rfl ?_
            exact gl_w (by omega) (hK22 x20.2 M hG)
          · refine mw_iload cx (q := 75) 1 rfl dL_areStocksSo_73 rfl ?_
            refine mw_aload_n cx (q := 76) 4 rfl rfl dL_areStocksSo_75 rfl ?_
            refine mw_iload cx (q := 78) 0 rfl dL_areStocksSo_76 rfl ?_
            refine mw_iload_n cx (q := 79) 3 rfl rfl dL_areStocksSo_78 rfl ?_
            refine mw_bnd (fun r25 er25 => ?_)
            obtain ⟨M, hG, hM⟩ := C_leftBy (D := D) (ta := ta) (ad := ad) hl hG x20.1 x1
            rw [← er25] at hM
            refine gl_callV cx hzx ht (q := 82) (d0 := 8) (u0 := 2) (As := [.int x20.1, .int x1]) (r := r25) (M' := M) (st := [.int x20.2]) hM cv_L_151 rfl rfl rfl vi_11_0 ⟨by decide, by decide⟩ (by omega) (by simp [Value.category]) rfl (fun _ => ⟨rfl, hG⟩) dL_areStocksSo_79 rfl (fun h26 => ?_)
            refine mw_iadd cx (q := 83) dL_areStocksSo_82 rfl ?_
            refine mw_bndT (fun v27 ev27 => ?_)
            refine mw_istore cx (q := 85) (lv' := [(4, .int v27), (5, .int x20.1), (3, .int y19), (2, .int x1), (0, .ref (ad 11 0 0)), (1, .ref (ad 13 0 0))]) rfl (by decide) dL_areStocksSo_83 rfl ?_
            refine mw_bnd (fun v28 ev28 => ?_)
            refine mw_iinc cx (q := 88) (v := v28) (lv' := [(5, .int v28), (4, .int v27), (3, .int y19), (2, .int x1), (0, .ref (ad 11 0 0)), (1, .ref (ad 13 0 0))]) 1 rfl (by rw [ev28]; rfl) rfl (by decide) dL_areStocksSo_85 rfl ?_
            refine mw_goto cx (tgt := 64) dL_areStocksSo_88 (by decide) ?_
            exact gl_w (by omega) (ih (v28, v27) M hG (by (try simp only [vp_in_iff, i32lt, i32le, i32eq, i32add, i32sub, i32mul, i32neg, t32_0, t32_1, t32_11, t32_60] at ev28 ivx20_0 h24 ho ⊢); omega) (by (try simp only [vp_in_iff, i32lt, i32le, i32eq, i32add, i32sub, i32mul, i32neg, t32_0, t32_1, t32_11, t32_60] at ho ivx20_0 h24 ev28 ⊢); omega))
      · refine gl_loop (F := fL_areStocksSo_lp16 sa x1 K8) (I := fun (x6 : Int32 × Int32) => -1 ≤ (x6.1).toInt) (μ := fun (x6 : Int32 × Int32) => (4 - (x6.1).toInt).toNat) (Γx := fun (x6 : Int32 × Int32) (M : Wm) => GM w sa sb M) (px := 16) (lx := fun (x6 : Int32 × Int32) => [(5, .int x6.1), (4, .int 0), (3, .int x6.2), (2, .int x1), (0, .ref (ad 11 0 0)), (1, .ref (ad 13 0 0))]) (per := 4) (N := 6) (fun n9 x6 M cl7 hcl7 hG ivx6 ih => ?_) 6 ((-1), 0) M hG (by (try simp only [vp_in_iff, i32lt, i32le, i32eq, i32add, i32sub, i32mul, i32neg, t32_1]); omega) (by (try simp only [vp_in_iff, i32lt, i32le, i32eq, i32add, i32sub, i32mul, i32neg, t32_1, t32_4, t32_6]); omega) (by (try simp only [vp_in_iff, i32lt, i32le, i32eq, i32add, i32sub, i32mul, i32neg, t32_1, t32_4, t32_6]); omega)
        have ivx6_0 := ivx6
        refine mw_eqS (fL_areStocksSo_lp16_s sa x1 K8 n9 x6) ?_
        refine mw_iload cx (q := 18) 0 rfl dL_areStocksSo_16 rfl ?_
        refine mw_iconst cx (q := 19) (v := 4) dL_areStocksSo_18 rfl rfl ?_
        refine mw_icmp_ge cx (tgt := 61) (q := 22) dL_areStocksSo_19 (by decide) rfl (fun h10 => ?_) (fun h10 => ?_)
        · refine mw_sub [1, 2, 3, 4, 5] rfl ?_
          exact gl_w (by omega) (hK8 x6.2 M hG)
        · refine mw_aload_n cx (q := 23) 4 rfl rfl dL_areStocksSo_22 rfl ?_
          refine mw_iload cx (q := 25) 0 rfl dL_areStocksSo_23 rfl ?_
          refine mw_iload_n cx (q := 26) 3 rfl rfl dL_areStocksSo_25 rfl ?_
          refine mw_bnd (fun r11 er11 => ?_)
          obtain ⟨M, hG, hM⟩ := C_stock (D := D) (ta := ta) (ad := ad) hl hG x6.1 x1
          rw [← er11] at hM
          refine gl_callV cx hzx ht (q := 29) (d0 := 8) (u0 := 2) (As := [.int x6.1, .int x1]) (r := r11) (M' := M) (st := []) hM cv_L_145 rfl rfl rfl vi_11_0 ⟨by decide, by decide⟩ (by omega) (by simp [Value.category]) rfl (fun _ => ⟨rfl, hG⟩) dL_areStocksSo_26 rfl (fun h12 => ?_)
          refine mw_istore cx (q := 31) (lv' := [(6, .int r11.2), (5, .int x6.1), (4, .int 0), (3, .int x6.2), (2, .int x1), (0, .ref (ad 11 0 0)), (1, .ref (ad 13 0 0))]) rfl (by decide) dL_areStocksSo_29 rfl ?_
          refine mw_iload cx (q := 33) 0 rfl dL_areStocksSo_31 rfl ?_
          refine mw_if_lt cx (tgt := 48) (q := 36) dL_areStocksSo_33 (by decide) rfl (fun h13 => ?_) (fun h13 => ?_)
          · refine mw_iconst cx (q := 49) (v := 0) dL_areStocksSo_48 rfl rfl ?_
            exact gl_iret cx hr rfl rfl hG (by omega) dL_areStocksSo_49
          · refine mw_iload cx (q := 38) 0 rfl dL_areStocksSo_36 rfl ?_
            refine mw_aload_n cx (q := 39) 5 rfl rfl dL_areStocksSo_38 rfl ?_
            refine mw_iload cx (q := 41) 1 rfl dL_areStocksSo_39 rfl ?_
            refine mw_iload_n cx (q := 42) 4 rfl rfl dL_areStocksSo_41 rfl ?_
            refine mw_bnd (fun r14 er14 => ?_)
            obtain ⟨M, hG, hM⟩ := C_stockByMoves (D := D) (ta := ta) (ad := ad) hl hG x6.1 x1
            rw [← er14] at hM
            refine gl_callV cx hzx ht (q := 45) (d0 := 8) (u0 := 2) (As := [.int x6.1, .int x1]) (r := r14) (M' := M) (st := [.int r11.2]) hM cv_L_148 rfl rfl rfl vi_11_0 ⟨by decide, by decide⟩ (by omega) (by simp [Value.category]) rfl (fun _ => ⟨rfl, hG⟩) dL_areStocksSo_42 rfl (fun h15 => ?_)
            refine mw_icmp_eq cx (tgt := 50) (q := 48) dL_areStocksSo_45 (by decide) rfl (fun h16 => ?_) (fun h16 => ?_)
            · refine mw_iload_n cx (q := 51) 3 rfl rfl dL_areStocksSo_50 rfl ?_
              refine mw_iload cx (q := 53) 0 rfl dL_areStocksSo_51 rfl ?_
              refine mw_iadd cx (q := 54) dL_areStocksSo_53 rfl ?_
              refine mw_bndT (fun v17 ev17 => ?_)
              refine mw_istore_n cx (q := 55) (lv' := [(3, .int v17), (6, .int r11.2), (5, .int x6.1), (4, .int 0), (2, .int x1), (0, .ref (ad 11 0 0)), (1, .ref (ad 13 0 0))]) rfl rfl (by decide) dL_areStocksSo_54 rfl ?_
              refine mw_bnd (fun v18 ev18 => ?_)
              refine mw_iinc cx (q := 58) (v := v18) (lv' := [(5, .int v18), (3, .int v17), (6, .int r11.2), (4, .int 0), (2, .int x1), (0, .ref (ad 11 0 0)), (1, .ref (ad 13 0 0))]) 2 rfl (by rw [ev18]; rfl) rfl (by decide) dL_areStocksSo_55 rfl ?_
              refine mw_goto cx (tgt := 16) dL_areStocksSo_58 (by decide) ?_
              refine mw_sub [0, 3, 1, 4, 5, 6] rfl ?_
              exact gl_w (by omega) (ih (v18, v17) M hG (by (try simp only [vp_in_iff, i32lt, i32le, i32eq, i32add, i32sub, i32mul, i32neg, t32_1, t32_4] at ev18 ivx6_0 h10 ⊢); omega) (by (try simp only [vp_in_iff, i32lt, i32le, i32eq, i32add, i32sub, i32mul, i32neg, t32_1, t32_4] at ivx6_0 h10 ev18 ⊢); omega))
            · refine mw_iconst cx (q := 49) (v := 0) dL_areStocksSo_48 rfl rfl ?_
              exact gl_iret cx hr rfl rfl hG (by omega) dL_areStocksSo_49
def fL_areOrdersSo_lp2 (sa : ST) (K3 : Unit → (Nat × Int32)) : Nat → Int32 → (Nat × Int32)
  | 0, x1 => (0, 0)
  | n4 + 1, x1 => if (sa.2.2 0 0 11) ≤ x1 then K3 () else bnd (g_state sa.2.2 x1) (fun (r6 : Nat × Int32) => if r6.1 = 0 then jn (fun (v8 : Bool) => if v8 = true then if r6.2 = 0 then bnd (g_done sa.2.2 x1) (fun (r36 : Nat × Int32) => if r36.1 = 0 then if r36.2 = 0 then bnd (g_used sa.2.2 x1) (fun (r39 : Nat × Int32) => if r39.1 = 0 then if r39.2 = 0 then bnd (x1 + 1) (fun (v42 : Int32) => fL_areOrdersSo_lp2 sa K3 n4 v42) else (0, 0) else (r39.1, 0)) else (0, 0) else (r36.1, 0)) else bnd (x1 + 1) (fun (v35 : Int32) => fL_areOrdersSo_lp2 sa K3 n4 v35) else (0, 0)) (fun K9 => if r6.2 < 0 then K9 false else if 5 ≤ r6.2 then K9 false else jn (fun (v12 : Bool) => bnd (g_why sa.2.2 x1) (fun (r15 : Nat × Int32) => if r15.1 = 0 then jn (fun (v17 : Bool) => if (b2i v12) = (b2i v17) then bnd (g_why sa.2.2 x1) (fun (r21 : Nat × Int32) => if r21.1 = 0 then if 7 ≤ r21.2 then K9 false else bnd (g_done sa.2.2 x1) (fun (r24 : Nat × Int32) => if r24.1 = 0 then if r24.2 < 0 then K9 false else bnd (g_used sa.2.2 x1) (fun (r27 : Nat × Int32) => if r27.1 = 0 then if r27.2 < 0 then K9 false else bnd (g_hourOf sa.2.2 x1) (fun (r30 : Nat × Int32) => if r30.1 = 0 then if r30.2 ≤ 0 then K9 false else K9 true else (r30.1, 0)) else (r27.1, 0)) else (r24.1, 0)) else (r21.1, 0)) else K9 false) (fun K18 => if r15.2 ≤ 0 then K18 false else K18 true) else (r15.1, 0))) (fun K13 => if r6.2 = 3 then K13 true else K13 false)) else (r6.1, 0))
theorem fL_areOrdersSo_lp2_s (sa : ST) (K3 : Unit → (Nat × Int32)) (n4 : Nat) (x1 : Int32) : fL_areOrdersSo_lp2 sa K3 (n4 + 1) x1 = if (sa.2.2 0 0 11) ≤ x1 then K3 () else bnd (g_state sa.2.2 x1) (fun (r6 : Nat × Int32) => if r6.1 = 0 then jn (fun (v8 : Bool) => if v8 = true then if r6.2 = 0 then bnd (g_done sa.2.2 x1) (fun (r36 : Nat × Int32) => if r36.1 = 0 then if r36.2 = 0 then bnd (g_used sa.2.2 x1) (fun (r39 : Nat × Int32) => if r39.1 = 0 then if r39.2 = 0 then bnd (x1 + 1) (fun (v42 : Int32) => fL_areOrdersSo_lp2 sa K3 n4 v42) else (0, 0) else (r39.1, 0)) else (0, 0) else (r36.1, 0)) else bnd (x1 + 1) (fun (v35 : Int32) => fL_areOrdersSo_lp2 sa K3 n4 v35) else (0, 0)) (fun K9 => if r6.2 < 0 then K9 false else if 5 ≤ r6.2 then K9 false else jn (fun (v12 : Bool) => bnd (g_why sa.2.2 x1) (fun (r15 : Nat × Int32) => if r15.1 = 0 then jn (fun (v17 : Bool) => if (b2i v12) = (b2i v17) then bnd (g_why sa.2.2 x1) (fun (r21 : Nat × Int32) => if r21.1 = 0 then if 7 ≤ r21.2 then K9 false else bnd (g_done sa.2.2 x1) (fun (r24 : Nat × Int32) => if r24.1 = 0 then if r24.2 < 0 then K9 false else bnd (g_used sa.2.2 x1) (fun (r27 : Nat × Int32) => if r27.1 = 0 then if r27.2 < 0 then K9 false else bnd (g_hourOf sa.2.2 x1) (fun (r30 : Nat × Int32) => if r30.1 = 0 then if r30.2 ≤ 0 then K9 false else K9 true else (r30.1, 0)) else (r27.1, 0)) else (r24.1, 0)) else (r21.1, 0)) else K9 false) (fun K18 => if r15.2 ≤ 0 then K18 false else K18 true) else (r15.1, 0))) (fun K13 => if r6.2 = 3 then K13 true else K13 false)) else (r6.1, 0)) := rfl
def fL_areOrdersSo_lp125 (sa : ST) (K46 : Unit → (Nat × Int32)) : Nat → Int32 → (Nat × Int32)
  | 0, x44 => (0, 0)
  | n47 + 1, x44 => if (sa.2.2 0 0 21) ≤ x44 then K46 () else bnd (g_movedFrom sa.2.2 x44) (fun (r49 : Nat × Int32) => if r49.1 = 0 then bnd (g_movedTo sa.2.2 x44) (fun (r51 : Nat × Int32) => if r51.1 = 0 then jn (fun (v53 : Bool) => if v53 = true then bnd (x44 + 1) (fun (v76 : Int32) => fL_areOrdersSo_lp125 sa K46 n47 v76) else (0, 0)) (fun K54 => if r49.2 = r51.2 then K54 false else if r49.2 < (-1) then K54 false else if 4 ≤ r49.2 then K54 false else if r51.2 < (-1) then K54 false else if 4 ≤ r51.2 then K54 false else bnd (g_movedAmount sa.2.2 x44) (fun (r60 : Nat × Int32) => if r60.1 = 0 then if r60.2 ≤ 0 then K54 false else bnd (g_movedGood sa.2.2 x44) (fun (r63 : Nat × Int32) => if r63.1 = 0 then if r63.2 < 0 then K54 false else bnd (g_movedGood sa.2.2 x44) (fun (r66 : Nat × Int32) => if r66.1 = 0 then if 8 ≤ r66.2 then K54 false else bnd (g_movedBy sa.2.2 x44) (fun (r69 : Nat × Int32) => if r69.1 = 0 then if r69.2 < 0 then K54 false else bnd (g_movedBy sa.2.2 x44) (fun (r72 : Nat × Int32) => if r72.1 = 0 then if (sa.2.2 0 0 11) ≤ r72.2 then K54 false else K54 true else (r72.1, 0)) else (r69.1, 0)) else (r66.1, 0)) else (r63.1, 0)) else (r60.1, 0))) else (r51.1, 0)) else (r49.1, 0))
theorem fL_areOrdersSo_lp125_s (sa : ST) (K46 : Unit → (Nat × Int32)) (n47 : Nat) (x44 : Int32) : fL_areOrdersSo_lp125 sa K46 (n47 + 1) x44 = if (sa.2.2 0 0 21) ≤ x44 then K46 () else bnd (g_movedFrom sa.2.2 x44) (fun (r49 : Nat × Int32) => if r49.1 = 0 then bnd (g_movedTo sa.2.2 x44) (fun (r51 : Nat × Int32) => if r51.1 = 0 then jn (fun (v53 : Bool) => if v53 = true then bnd (x44 + 1) (fun (v76 : Int32) => fL_areOrdersSo_lp125 sa K46 n47 v76) else (0, 0)) (fun K54 => if r49.2 = r51.2 then K54 false else if r49.2 < (-1) then K54 false else if 4 ≤ r49.2 then K54 false else if r51.2 < (-1) then K54 false else if 4 ≤ r51.2 then K54 false else bnd (g_movedAmount sa.2.2 x44) (fun (r60 : Nat × Int32) => if r60.1 = 0 then if r60.2 ≤ 0 then K54 false else bnd (g_movedGood sa.2.2 x44) (fun (r63 : Nat × Int32) => if r63.1 = 0 then if r63.2 < 0 then K54 false else bnd (g_movedGood sa.2.2 x44) (fun (r66 : Nat × Int32) => if r66.1 = 0 then if 8 ≤ r66.2 then K54 false else bnd (g_movedBy sa.2.2 x44) (fun (r69 : Nat × Int32) => if r69.1 = 0 then if r69.2 < 0 then K54 false else bnd (g_movedBy sa.2.2 x44) (fun (r72 : Nat × Int32) => if r72.1 = 0 then if (sa.2.2 0 0 11) ≤ r72.2 then K54 false else K54 true else (r72.1, 0)) else (r69.1, 0)) else (r66.1, 0)) else (r63.1, 0)) else (r60.1, 0))) else (r51.1, 0)) else (r49.1, 0)) := rfl
def fL_areOrdersSo_lp245 (sa : ST) (x78 : Int32) (K85 : Unit → (Nat × Int32)) : Nat → Int32 → (Nat × Int32)
  | 0, x83 => (0, 0)
  | n86 + 1, x83 => if 4 ≤ x83 then K85 () else bnd (g_debt sa.2.2 x78 x83) (fun (r88 : Nat × Int32) => if r88.1 = 0 then if r88.2 < 0 then (0, 0) else if x78 = x83 then bnd (g_debt sa.2.2 x78 x83) (fun (r93 : Nat × Int32) => if r93.1 = 0 then if r93.2 = 0 then bnd (x83 + 1) (fun (v96 : Int32) => fL_areOrdersSo_lp245 sa x78 K85 n86 v96) else (0, 0) else (r93.1, 0)) else bnd (x83 + 1) (fun (v92 : Int32) => fL_areOrdersSo_lp245 sa x78 K85 n86 v92) else (r88.1, 0))
theorem fL_areOrdersSo_lp245_s (sa : ST) (x78 : Int32) (K85 : Unit → (Nat × Int32)) (n86 : Nat) (x83 : Int32) : fL_areOrdersSo_lp245 sa x78 K85 (n86 + 1) x83 = if 4 ≤ x83 then K85 () else bnd (g_debt sa.2.2 x78 x83) (fun (r88 : Nat × Int32) => if r88.1 = 0 then if r88.2 < 0 then (0, 0) else if x78 = x83 then bnd (g_debt sa.2.2 x78 x83) (fun (r93 : Nat × Int32) => if r93.1 = 0 then if r93.2 = 0 then bnd (x83 + 1) (fun (v96 : Int32) => fL_areOrdersSo_lp245 sa x78 K85 n86 v96) else (0, 0) else (r93.1, 0)) else bnd (x83 + 1) (fun (v92 : Int32) => fL_areOrdersSo_lp245 sa x78 K85 n86 v92) else (r88.1, 0)) := rfl
def fL_areOrdersSo_lp238 (sa : ST) (K80 : Unit → (Nat × Int32)) : Nat → Int32 → (Nat × Int32)
  | 0, x78 => (0, 0)
  | n81 + 1, x78 => if 4 ≤ x78 then K80 () else jn (fun (y97 : Unit) => bnd (g_fuel sa.2.2 x78) (fun (r98 : Nat × Int32) => if r98.1 = 0 then if r98.2 < 0 then (0, 0) else bnd (g_rations sa.2.2 x78) (fun (r101 : Nat × Int32) => if r101.1 = 0 then if 0 ≤ r101.2 then bnd (x78 + 1) (fun (v104 : Int32) => fL_areOrdersSo_lp238 sa K80 n81 v104) else (0, 0) else (r101.1, 0)) else (r98.1, 0))) (fun K85 => fL_areOrdersSo_lp245 sa x78 K85 5 0)
theorem fL_areOrdersSo_lp238_s (sa : ST) (K80 : Unit → (Nat × Int32)) (n81 : Nat) (x78 : Int32) : fL_areOrdersSo_lp238 sa K80 (n81 + 1) x78 = if 4 ≤ x78 then K80 () else jn (fun (y97 : Unit) => bnd (g_fuel sa.2.2 x78) (fun (r98 : Nat × Int32) => if r98.1 = 0 then if r98.2 < 0 then (0, 0) else bnd (g_rations sa.2.2 x78) (fun (r101 : Nat × Int32) => if r101.1 = 0 then if 0 ≤ r101.2 then bnd (x78 + 1) (fun (v104 : Int32) => fL_areOrdersSo_lp238 sa K80 n81 v104) else (0, 0) else (r101.1, 0)) else (r98.1, 0))) (fun K85 => fL_areOrdersSo_lp245 sa x78 K85 5 0) := rfl
def fL_areOrdersSo (sa : ST) : (Nat × Int32) := jn (fun (y43 : Unit) => jn (fun (y77 : Unit) => jn (fun (y105 : Unit) => (0, 1)) (fun K80 => fL_areOrdersSo_lp238 sa K80 5 0)) (fun K46 => fL_areOrdersSo_lp125 sa K46 3001 0)) (fun K3 => fL_areOrdersSo_lp2 sa K3 61 0)
set_option maxHeartbeats 4000000 in
set_option maxRecDepth 100000 in
theorem ml_L_areOrdersSo (hl : l.stackTraces = false) (D : va_G) (ta : wTa) (ad : wAd) : ML l D ta ad yL_areOrdersSo (.code yL_areOrdersSo cL_areOrdersSo 5 (some .boolean)) 9 21605 [.ref (ad 11 0 0)] (GM w sa sb) (fL_areOrdersSo sa, GM w sa sb) := by
  refine ML.of (fun z : Nat × Int32 => (z, GM w sa sb)) (fL_areOrdersSo sa) rfl (by decide) (Nat.le_of_ble_eq_true rfl) (fun p e s m args below meth c cx hzx hcx ht hr M hG => ?_)
  have ho : (sa.2.2 0 0 11).toInt ≤ 60 := hG.o60.2
  have hm : (sa.2.2 0 0 21).toInt ≤ 3000 := hG.m3.2
  unfold fL_areOrdersSo
  refine mw_sub (lv' := [(0, .ref (ad 11 0 0))]) [0] rfl ?_
  refine mw_iconst cx (q := 1) (v := 0) dL_areOrdersSo_0 rfl rfl ?_
  refine mw_istore_n cx (q := 2) (lv' := [(1, .int 0), (0, .ref (ad 11 0 0))]) rfl rfl (by decide) dL_areOrdersSo_1 rfl ?_
  refine gl_jn (fun (y43 : Unit) (M : Wm) => GM w sa sb M) (0 + 488) 123 (fun (y43 : Unit) => [(0, .ref (ad 11 0 0))]) (fun (y43 : Unit) => []) (fun y43 M hG => ?_) (fun K3 hK3 => ?_)
  · refine mw_iconst cx (q := 124) (v := 0) dL_areOrdersSo_123 rfl rfl ?_
    refine mw_istore_n cx (q := 125) (lv' := [(1, .int 0), (0, .ref (ad 11 0 0))]) rfl rfl (by decide) dL_areOrdersSo_124 rfl ?_
    refine gl_jn (fun (y77 : Unit) (M : Wm) => GM w sa sb M) (0 + 21495) 236 (fun (y77 : Unit) => [(0, .ref (ad 11 0 0))]) (fun (y77 : Unit) => []) (fun y77 M hG => ?_) (fun K46 hK46 => ?_)
    · refine mw_iconst cx (q := 237) (v := 0) dL_areOrdersSo_236 rfl rfl ?_
      refine mw_istore_n cx (q := 238) (lv' := [(1, .int 0), (0, .ref (ad 11 0 0))]) rfl rfl (by decide) dL_areOrdersSo_237 rfl ?_
      refine gl_jn (fun (y105 : Unit) (M : Wm) => GM w sa sb M) (0 + 21605) 305 (fun (y105 : Unit) => []) (fun (y105 : Unit) => []) (fun y105 M hG => ?_) (fun K80 hK80 => ?_)
      · refine mw_iconst cx (q := 306) (v := 1) dL_areOrdersSo_305 rfl rfl ?_
        exact gl_iret cx hr rfl rfl hG (by omega) dL_areOrdersSo_306
      · refine gl_loop (F := fL_areOrdersSo_lp238 sa K80) (I := fun (x78 : Int32) => 0 ≤ (x78).toInt) (μ := fun (x78 : Int32) => (4 - (x78).toInt).toNat) (Γx := fun (x78 : Int32) (M : Wm) => GM w sa sb M) (px := 238) (lx := fun (x78 : Int32) => [(1, .int x78), (0, .ref (ad 11 0 0))]) (per := 22) (N := 5) (fun n81 x78 M cl79 hcl79 hG ivx78 ih => ?_) 5 0 M hG (by (try simp only [vp_in_iff, i32lt, i32le, i32eq, i32add, i32sub, i32mul, i32neg, t32_0]); omega) (by (try simp only [vp_in_iff, i32lt, i32le, i32eq, i32add, i32sub, i32mul, i32neg, t32_0, t32_4, t32_5]); omega) (by (try simp only [vp_in_iff, i32lt, i32le, i32eq, i32add, i32sub, i32mul, i32neg, t32_0, t32_4, t32_5]); omega)
        have ivx78_0 := ivx78
        refine mw_eqS (fL_areOrdersSo_lp238_s sa K80 n81 x78) ?_
        refine mw_iload_n cx (q := 239) 0 rfl rfl dL_areOrdersSo_238 rfl ?_
        refine mw_iconst cx (q := 240) (v := 4) dL_areOrdersSo_239 rfl rfl ?_
        refine mw_icmp_ge cx (tgt := 305) (q := 243) dL_areOrdersSo_240 (by decide) rfl (fun h82 => ?_) (fun h82 => ?_)
        · refine mw_sub [] rfl ?_
          exact gl_w (by omega) (hK80 () M hG)
        · refine mw_iconst cx (q := 244) (v := 0) dL_areOrdersSo_243 rfl rfl ?_
          refine mw_istore_n cx (q := 245) (lv' := [(2, .int 0), (1, .int x78), (0, .ref (ad 11 0 0))]) rfl rfl (by decide) dL_areOrdersSo_244 rfl ?_
          refine gl_jn (fun (y97 : Unit) (M : Wm) => GM w sa sb M) (cl79 + 20) 281 (fun (y97 : Unit) => [(1, .int x78), (0, .ref (ad 11 0 0))]) (fun (y97 : Unit) => []) (fun y97 M hG => ?_) (fun K85 hK85 => ?_)
          · refine mw_aload_n cx (q := 282) 1 rfl rfl dL_areOrdersSo_281 rfl ?_
            refine mw_iload_n cx (q := 283) 0 rfl rfl dL_areOrdersSo_282 rfl ?_
            refine mw_bnd (fun r98 er98 => ?_)
            obtain ⟨M, hG, hM⟩ := C_fuel (D := D) (ta := ta) (ad := ad) hl hG x78
            rw [← er98] at hM
            refine gl_callV cx hzx ht (q := 286) (d0 := 8) (u0 := 1) (As := [.int x78]) (r := r98) (M' := M) (st := []) hM cv_L_121 rfl rfl rfl vi_11_0 ⟨by decide, by decide⟩ (by omega) (by simp [Value.category]) rfl (fun _ => ⟨rfl, hG⟩) dL_areOrdersSo_283 rfl (fun h99 => ?_)
            refine mw_if_lt cx (tgt := 297) (q := 289) dL_areOrdersSo_286 (by decide) rfl (fun h100 => ?_) (fun h100 => ?_)
            · refine mw_iconst cx (q := 298) (v := 0) dL_areOrdersSo_297 rfl rfl ?_
              exact gl_iret cx hr rfl rfl hG (by omega) dL_areOrdersSo_298
            · refine mw_aload_n cx (q := 290) 1 rfl rfl dL_areOrdersSo_289 rfl ?_
              refine mw_iload_n cx (q := 291) 0 rfl rfl dL_areOrdersSo_290 rfl ?_
              refine mw_bnd (fun r101 er101 => ?_)
              obtain ⟨M, hG, hM⟩ := C_rations (D := D) (ta := ta) (ad := ad) hl hG x78
              rw [← er101] at hM
              refine gl_callV cx hzx ht (q := 294) (d0 := 8) (u0 := 1) (As := [.int x78]) (r := r101) (M' := M) (st := []) hM cv_L_124 rfl rfl rfl vi_11_0 ⟨by decide, by decide⟩ (by omega) (by simp [Value.category]) rfl (fun _ => ⟨rfl, hG⟩) dL_areOrdersSo_291 rfl (fun h102 => ?_)
              refine mw_if_ge cx (tgt := 299) (q := 297) dL_areOrdersSo_294 (by decide) rfl (fun h103 => ?_) (fun h103 => ?_)
              · refine mw_bnd (fun v104 ev104 => ?_)
                refine mw_iinc cx (q := 302) (v := v104) (lv' := [(1, .int v104), (0, .ref (ad 11 0 0))]) 0 rfl (by rw [ev104]; rfl) rfl (by decide) dL_areOrdersSo_299 rfl ?_
                refine mw_goto cx (tgt := 238) dL_areOrdersSo_302 (by decide) ?_
                exact gl_w (by omega) (ih v104 M hG (by (try simp only [vp_in_iff, i32lt, i32le, i32eq, i32add, i32sub, i32mul, i32neg, t32_0, t32_1, t32_4] at ev104 ivx78_0 h82 ⊢); omega) (by (try simp only [vp_in_iff, i32lt, i32le, i32eq, i32add, i32sub, i32mul, i32neg, t32_0, t32_1, t32_4] at ivx78_0 h82 ev104 ⊢); omega))
              · refine mw_iconst cx (q := 298) (v := 0) dL_areOrdersSo_297 rfl rfl ?_
                exact gl_iret cx hr rfl rfl hG (by omega) dL_areOrdersSo_298
          · refine gl_loop (F := fL_areOrdersSo_lp245 sa x78 K85) (I := fun (x83 : Int32) => 0 ≤ (x83).toInt) (μ := fun (x83 : Int32) => (4 - (x83).toInt).toNat) (Γx := fun (x83 : Int32) (M : Wm) => GM w sa sb M) (px := 245) (lx := fun (x83 : Int32) => [(2, .int x83), (1, .int x78), (0, .ref (ad 11 0 0))]) (per := 4) (N := 5) (fun n86 x83 M cl84 hcl84 hG ivx83 ih => ?_) 5 0 M hG (by (try simp only [vp_in_iff, i32lt, i32le, i32eq, i32add, i32sub, i32mul, i32neg, t32_0]); omega) (by (try simp only [vp_in_iff, i32lt, i32le, i32eq, i32add, i32sub, i32mul, i32neg, t32_0, t32_4, t32_5]); omega) (by (try simp only [vp_in_iff, i32lt, i32le, i32eq, i32add, i32sub, i32mul, i32neg, t32_0, t32_4, t32_5]); omega)
            have ivx83_0 := ivx83
            refine mw_eqS (fL_areOrdersSo_lp245_s sa x78 K85 n86 x83) ?_
            refine mw_iload_n cx (q := 246) 0 rfl rfl dL_areOrdersSo_245 rfl ?_
            refine mw_iconst cx (q := 247) (v := 4) dL_areOrdersSo_246 rfl rfl ?_
            refine mw_icmp_ge cx (tgt := 281) (q := 250) dL_areOrdersSo_247 (by decide) rfl (fun h87 => ?_) (fun h87 => ?_)
            · refine mw_sub [1, 2] rfl ?_
              exact gl_w (by omega) (hK85 () M hG)
            · refine mw_aload_n cx (q := 251) 2 rfl rfl dL_areOrdersSo_250 rfl ?_
              refine mw_iload_n cx (q := 252) 1 rfl rfl dL_areOrdersSo_251 rfl ?_
              refine mw_iload_n cx (q := 253) 0 rfl rfl dL_areOrdersSo_252 rfl ?_
              refine mw_bnd (fun r88 er88 => ?_)
              obtain ⟨M, hG, hM⟩ := C_debt (D := D) (ta := ta) (ad := ad) hl hG x78 x83
              rw [← er88] at hM
              refine gl_callV cx hzx ht (q := 256) (d0 := 8) (u0 := 2) (As := [.int x78, .int x83]) (r := r88) (M' := M) (st := []) hM cv_L_127 rfl rfl rfl vi_11_0 ⟨by decide, by decide⟩ (by omega) (by simp [Value.category]) rfl (fun _ => ⟨rfl, hG⟩) dL_areOrdersSo_253 rfl (fun h89 => ?_)
              refine mw_if_lt cx (tgt := 273) (q := 259) dL_areOrdersSo_256 (by decide) rfl (fun h90 => ?_) (fun h90 => ?_)
              · refine mw_iconst cx (q := 274) (v := 0) dL_areOrdersSo_273 rfl rfl ?_
                exact gl_iret cx hr rfl rfl hG (by omega) dL_areOrdersSo_274
              · refine mw_iload_n cx (q := 260) 1 rfl rfl dL_areOrdersSo_259 rfl ?_
                refine mw_iload_n cx (q := 261) 0 rfl rfl dL_areOrdersSo_260 rfl ?_
                refine mw_icmp_ne cx (tgt := 275) (q := 264) dL_areOrdersSo_261 (by decide) rfl (fun h91 => ?_) (fun h91 => ?_)
                · refine mw_bnd (fun v92 ev92 => ?_)
                  refine mw_iinc cx (q := 278) (v := v92) (lv' := [(2, .int v92), (1, .int x78), (0, .ref (ad 11 0 0))]) 0 rfl (by rw [ev92]; rfl) rfl (by decide) dL_areOrdersSo_275 rfl ?_
                  refine mw_goto cx (tgt := 245) dL_areOrdersSo_278 (by decide) ?_
                  exact gl_w (by omega) (ih v92 M hG (by (try simp only [vp_in_iff, i32lt, i32le, i32eq, i32add, i32sub, i32mul, i32neg, t32_0, t32_1, t32_4] at ev92 ivx83_0 h87 h91 ivx78_0 h82 ⊢); omega) (by (try simp only [vp_in_iff, i32lt, i32le, i32eq, i32add, i32sub, i32mul, i32neg, t32_0, t32_1, t32_4] at ivx83_0 h87 h91 ev92 ivx78_0 h82 ⊢); omega))
                · refine mw_aload_n cx (q := 265) 2 rfl rfl dL_areOrdersSo_264 rfl ?_
                  refine mw_iload_n cx (q := 266) 1 rfl rfl dL_areOrdersSo_265 rfl ?_
                  refine mw_iload_n cx (q := 267) 0 rfl rfl dL_areOrdersSo_266 rfl ?_
                  refine mw_bnd (fun r93 er93 => ?_)
                  obtain ⟨M, hG, hM⟩ := C_debt (D := D) (ta := ta) (ad := ad) hl hG x78 x83
                  rw [← er93] at hM
                  refine gl_callV cx hzx ht (q := 270) (d0 := 8) (u0 := 2) (As := [.int x78, .int x83]) (r := r93) (M' := M) (st := []) hM cv_L_127 rfl rfl rfl vi_11_0 ⟨by decide, by decide⟩ (by omega) (by simp [Value.category]) rfl (fun _ => ⟨rfl, hG⟩) dL_areOrdersSo_267 rfl (fun h94 => ?_)
                  refine mw_if_eq cx (tgt := 275) (q := 273) dL_areOrdersSo_270 (by decide) rfl (fun h95 => ?_) (fun h95 => ?_)
                  · refine mw_bnd (fun v96 ev96 => ?_)
                    refine mw_iinc cx (q := 278) (v := v96) (lv' := [(2, .int v96), (1, .int x78), (0, .ref (ad 11 0 0))]) 0 rfl (by rw [ev96]; rfl) rfl (by decide) dL_areOrdersSo_275 rfl ?_
                    refine mw_goto cx (tgt := 245) dL_areOrdersSo_278 (by decide) ?_
                    exact gl_w (by omega) (ih v96 M hG (by (try simp only [vp_in_iff, i32lt, i32le, i32eq, i32add, i32sub, i32mul, i32neg, t32_0, t32_1, t32_4] at ev96 ivx83_0 h87 h91 ivx78_0 h82 ⊢); omega) (by (try simp only [vp_in_iff, i32lt, i32le, i32eq, i32add, i32sub, i32mul, i32neg, t32_0, t32_1, t32_4] at ivx83_0 h87 h91 ev96 ivx78_0 h82 ⊢); omega))
                  · refine mw_iconst cx (q := 274) (v := 0) dL_areOrdersSo_273 rfl rfl ?_
                    exact gl_iret cx hr rfl rfl hG (by omega) dL_areOrdersSo_274
    · refine gl_loop (F := fL_areOrdersSo_lp125 sa K46) (I := fun (x44 : Int32) => 0 ≤ (x44).toInt) (μ := fun (x44 : Int32) => ((sa.2.2 0 0 21).toInt - (x44).toInt).toNat) (Γx := fun (x44 : Int32) (M : Wm) => GM w sa sb M) (px := 125) (lx := fun (x44 : Int32) => [(1, .int x44), (0, .ref (ad 11 0 0))]) (per := 7) (N := 3001) (fun n47 x44 M cl45 hcl45 hG ivx44 ih => ?_) 3001 0 M hG (by (try simp only [vp_in_iff, i32lt, i32le, i32eq, i32add, i32sub, i32mul, i32neg, t32_0]); omega) (by (try simp only [vp_in_iff, i32lt, i32le, i32eq, i32add, i32sub, i32mul, i32neg, t32_0, t32_21, t32_3000] at hm ⊢); omega) (by (try simp only [vp_in_iff, i32lt, i32le, i32eq, i32add, i32sub, i32mul, i32neg, t32_0, t32_21, t32_3000] at hm ⊢); omega)
      have ivx44_0 := ivx44
      refine mw_eqS (fL_areOrdersSo_lp125_s sa K46 n47 x44) ?_
      refine mw_iload_n cx (q := 126) 0 rfl rfl dL_areOrdersSo_125 rfl ?_
      refine mw_aload_n cx (q := 127) 1 rfl rfl dL_areOrdersSo_126 rfl ?_
      obtain ⟨M, hG, hM⟩ := C_moves (D := D) (ta := ta) (ad := ad) hl hG
      refine gl_callVn cx hzx (q := 130) (d0 := 8) (u0 := 0) (As := []) (r := (0, (sa.2.2 0 0 21))) (M' := M) (st := [.int x44]) hM cv_L_118 rfl rfl rfl vi_11_0 ⟨by decide, by decide⟩ (by omega) (by simp [Value.category]) rfl rfl dL_areOrdersSo_127 rfl ?_
      refine mw_icmp_ge cx (tgt := 236) (q := 133) dL_areOrdersSo_130 (by decide) rfl (fun h48 => ?_) (fun h48 => ?_)
      · refine mw_sub [1] rfl ?_
        exact gl_w (by omega) (hK46 () M hG)
      · refine mw_aload_n cx (q := 134) 1 rfl rfl dL_areOrdersSo_133 rfl ?_
        refine mw_iload_n cx (q := 135) 0 rfl rfl dL_areOrdersSo_134 rfl ?_
        refine mw_bnd (fun r49 er49 => ?_)
        obtain ⟨M, hG, hM⟩ := C_movedFrom (D := D) (ta := ta) (ad := ad) hl hG x44
        rw [← er49] at hM
        refine gl_callV cx hzx ht (q := 138) (d0 := 8) (u0 := 1) (As := [.int x44]) (r := r49) (M' := M) (st := []) hM cv_L_160 rfl rfl rfl vi_11_0 ⟨by decide, by decide⟩ (by omega) (by simp [Value.category]) rfl (fun _ => ⟨rfl, hG⟩) dL_areOrdersSo_135 rfl (fun h50 => ?_)
        refine mw_istore_n cx (q := 139) (lv' := [(2, .int r49.2), (1, .int x44), (0, .ref (ad 11 0 0))]) rfl rfl (by decide) dL_areOrdersSo_138 rfl ?_
        refine mw_aload_n cx (q := 140) 2 rfl rfl dL_areOrdersSo_139 rfl ?_
        refine mw_iload_n cx (q := 141) 1 rfl rfl dL_areOrdersSo_140 rfl ?_
        refine mw_bnd (fun r51 er51 => ?_)
        obtain ⟨M, hG, hM⟩ := C_movedTo (D := D) (ta := ta) (ad := ad) hl hG x44
        rw [← er51] at hM
        refine gl_callV cx hzx ht (q := 144) (d0 := 8) (u0 := 1) (As := [.int x44]) (r := r51) (M' := M) (st := []) hM cv_L_163 rfl rfl rfl vi_11_0 ⟨by decide, by decide⟩ (by omega) (by simp [Value.category]) rfl (fun _ => ⟨rfl, hG⟩) dL_areOrdersSo_141 rfl (fun h52 => ?_)
        refine mw_istore_n cx (q := 145) (lv' := [(3, .int r51.2), (2, .int r49.2), (1, .int x44), (0, .ref (ad 11 0 0))]) rfl rfl (by decide) dL_areOrdersSo_144 rfl ?_
        refine mw_iload_n cx (q := 146) 1 rfl rfl dL_areOrdersSo_145 rfl ?_
        refine mw_iload_n cx (q := 147) 0 rfl rfl dL_areOrdersSo_146 rfl ?_
        refine gl_jn (fun (v53 : Bool) (M : Wm) => GM w sa sb M) (cl45 + 7) 221 (fun (v53 : Bool) => [(0, .ref (ad 11 0 0)), (1, .int x44)]) (fun (v53 : Bool) => [.int (b2i v53)]) (fun v53 M hG => ?_) (fun K54 hK54 => ?_)
        · refine mw_istore cx (q := 223) (lv' := [(4, .int (b2i v53)), (0, .ref (ad 11 0 0)), (1, .int x44)]) rfl (by decide) dL_areOrdersSo_221 rfl ?_
          refine mw_iload cx (q := 225) 0 rfl dL_areOrdersSo_223 rfl ?_
          refine mw_ifb_ne cx (tgt := 230) (q := 228) dL_areOrdersSo_225 (by decide) rfl (fun h75 => ?_) (fun h75 => ?_)
          · refine mw_bnd (fun v76 ev76 => ?_)
            refine mw_iinc cx (q := 233) (v := v76) (lv' := [(1, .int v76), (4, .int (b2i v53)), (0, .ref (ad 11 0 0))]) 2 rfl (by rw [ev76]; rfl) rfl (by decide) dL_areOrdersSo_230 rfl ?_
            refine mw_goto cx (tgt := 125) dL_areOrdersSo_233 (by decide) ?_
            refine mw_sub [0, 2] rfl ?_
            exact gl_w (by omega) (ih v76 M hG (by (try simp only [vp_in_iff, i32lt, i32le, i32eq, i32add, i32sub, i32mul, i32neg, t32_0, t32_1, t32_21, t32_3000] at ev76 ivx44_0 h48 hm ⊢); omega) (by (try simp only [vp_in_iff, i32lt, i32le, i32eq, i32add, i32sub, i32mul, i32neg, t32_0, t32_1, t32_21, t32_3000] at hm ivx44_0 h48 ev76 ⊢); omega))
          · refine mw_iconst cx (q := 229) (v := 0) dL_areOrdersSo_228 rfl rfl ?_
            exact gl_iret cx hr rfl rfl hG (by omega) dL_areOrdersSo_229
        · refine mw_icmp_eq cx (tgt := 220) (q := 150) dL_areOrdersSo_147 (by decide) rfl (fun h55 => ?_) (fun h55 => ?_)
          · refine mw_iconst cx (q := 221) (v := 0) dL_areOrdersSo_220 rfl rfl ?_
            refine mw_sub [3, 2] rfl ?_
            exact gl_w (by omega) (hK54 false M hG)
          · refine mw_iload_n cx (q := 151) 1 rfl rfl dL_areOrdersSo_150 rfl ?_
            refine mw_iconst cx (q := 152) (v := (-1)) dL_areOrdersSo_151 rfl rfl ?_
            refine mw_icmp_lt cx (tgt := 220) (q := 155) dL_areOrdersSo_152 (by decide) rfl (fun h56 => ?_) (fun h56 => ?_)
            · refine mw_iconst cx (q := 221) (v := 0) dL_areOrdersSo_220 rfl rfl ?_
              refine mw_sub [3, 2] rfl ?_
              exact gl_w (by omega) (hK54 false M hG)
            · refine mw_iload_n cx (q := 156) 1 rfl rfl dL_areOrdersSo_155 rfl ?_
              refine mw_iconst cx (q := 157) (v := 4) dL_areOrdersSo_156 rfl rfl ?_
              refine mw_icmp_ge cx (tgt := 220) (q := 160) dL_areOrdersSo_157 (by decide) rfl (fun h57 => ?_) (fun h57 => ?_)
              · refine mw_iconst cx (q := 221) (v := 0) dL_areOrdersSo_220 rfl rfl ?_
                refine mw_sub [3, 2] rfl ?_
                exact gl_w (by omega) (hK54 false M hG)
              · refine mw_iload_n cx (q := 161) 0 rfl rfl dL_areOrdersSo_160 rfl ?_
                refine mw_iconst cx (q := 162) (v := (-1)) dL_areOrdersSo_161 rfl rfl ?_
                refine mw_icmp_lt cx (tgt := 220) (q := 165) dL_areOrdersSo_162 (by decide) rfl (fun h58 => ?_) (fun h58 => ?_)
                · refine mw_iconst cx (q := 221) (v := 0) dL_areOrdersSo_220 rfl rfl ?_
                  refine mw_sub [3, 2] rfl ?_
                  exact gl_w (by omega) (hK54 false M hG)
                · refine mw_iload_n cx (q := 166) 0 rfl rfl dL_areOrdersSo_165 rfl ?_
                  refine mw_iconst cx (q := 167) (v := 4) dL_areOrdersSo_166 rfl rfl ?_
                  refine mw_icmp_ge cx (tgt := 220) (q := 170) dL_areOrdersSo_167 (by decide) rfl (fun h59 => ?_) (fun h59 => ?_)
                  · refine mw_iconst cx (q := 221) (v := 0) dL_areOrdersSo_220 rfl rfl ?_
                    refine mw_sub [3, 2] rfl ?_
                    exact gl_w (by omega) (hK54 false M hG)
                  · refine mw_aload_n cx (q := 171) 3 rfl rfl dL_areOrdersSo_170 rfl ?_
                    refine mw_iload_n cx (q := 172) 2 rfl rfl dL_areOrdersSo_171 rfl ?_
                    refine mw_bnd (fun r60 er60 => ?_)
                    obtain ⟨M, hG, hM⟩ := C_movedAmount (D := D) (ta := ta) (ad := ad) hl hG x44
                    rw [← er60] at hM
                    refine gl_callV cx hzx ht (q := 175) (d0 := 8) (u0 := 1) (As := [.int x44]) (r := r60) (M' := M) (st := []) hM cv_L_166 rfl rfl rfl vi_11_0 ⟨by decide, by decide⟩ (by omega) (by simp [Value.category]) rfl (fun _ => ⟨rfl, hG⟩) dL_areOrdersSo_172 rfl (fun h61 => ?_)
                    refine mw_if_le cx (tgt := 220) (q := 178) dL_areOrdersSo_175 (by decide) rfl (fun h62 => ?_) (fun h62 => ?_)
                    · refine mw_iconst cx (q := 221) (v := 0) dL_areOrdersSo_220 rfl rfl ?_
                      refine mw_sub [3, 2] rfl ?_
                      exact gl_w (by omega) (hK54 false M hG)
                    · refine mw_aload_n cx (q := 179) 3 rfl rfl dL_areOrdersSo_178 rfl ?_
                      refine mw_iload_n cx (q := 180) 2 rfl rfl dL_areOrdersSo_179 rfl ?_
                      refine mw_bnd (fun r63 er63 => ?_)
                      obtain ⟨M, hG, hM⟩ := C_movedGood (D := D) (ta := ta) (ad := ad) hl hG x44
                      rw [← er63] at hM
                      refine gl_callV cx hzx ht (q := 183) (d0 := 8) (u0 := 1) (As := [.int x44]) (r := r63) (M' := M) (st := []) hM cv_L_169 rfl rfl rfl vi_11_0 ⟨by decide, by decide⟩ (by omega) (by simp [Value.category]) rfl (fun _ => ⟨rfl, hG⟩) dL_areOrdersSo_180 rfl (fun h64 => ?_)
                      refine mw_if_lt cx (tgt := 220) (q := 186) dL_areOrdersSo_183 (by decide) rfl (fun h65 => ?_) (fun h65 => ?_)
                      · refine mw_iconst cx (q := 221) (v := 0) dL_areOrdersSo_220 rfl rfl ?_
                        refine mw_sub [3, 2] rfl ?_
                        exact gl_w (by omega) (hK54 false M hG)
                      · refine mw_aload_n cx (q := 187) 3 rfl rfl dL_areOrdersSo_186 rfl ?_
                        refine mw_iload_n cx (q := 188) 2 rfl rfl dL_areOrdersSo_187 rfl ?_
                        refine mw_bnd (fun r66 er66 => ?_)
                        obtain ⟨M, hG, hM⟩ := C_movedGood (D := D) (ta := ta) (ad := ad) hl hG x44
                        rw [← er66] at hM
                        refine gl_callV cx hzx ht (q := 191) (d0 := 8) (u0 := 1) (As := [.int x44]) (r := r66) (M' := M) (st := []) hM cv_L_169 rfl rfl rfl vi_11_0 ⟨by decide, by decide⟩ (by omega) (by simp [Value.category]) rfl (fun _ => ⟨rfl, hG⟩) dL_areOrdersSo_188 rfl (fun h67 => ?_)
                        refine mw_bipush cx (q := 193) (v := 8) dL_areOrdersSo_191 rfl rfl ?_
                        refine mw_icmp_ge cx (tgt := 220) (q := 196) dL_areOrdersSo_193 (by decide) rfl (fun h68 => ?_) (fun h68 => ?_)
                        · refine mw_iconst cx (q := 221) (v := 0) dL_areOrdersSo_220 rfl rfl ?_
                          refine mw_sub [3, 2] rfl ?_
                          exact gl_w (by omega) (hK54 false M hG)
                        · refine mw_aload_n cx (q := 197) 3 rfl rfl dL_areOrdersSo_196 rfl ?_
                          refine mw_iload_n cx (q := 198) 2 rfl rfl dL_areOrdersSo_197 rfl ?_
                          refine mw_bnd (fun r69 er69 => ?_)
                          obtain ⟨M, hG, hM⟩ := C_movedBy (D := D) (ta := ta) (ad := ad) hl hG x44
                          rw [← er69] at hM
                          refine gl_callV cx hzx ht (q := 201) (d0 := 8) (u0 := 1) (As := [.int x44]) (r := r69) (M' := M) (st := []) hM cv_L_172 rfl rfl rfl vi_11_0 ⟨by decide, by decide⟩ (by omega) (by simp [Value.category]) rfl (fun _ => ⟨rfl, hG⟩) dL_areOrdersSo_198 rfl (fun h70 => ?_)
                          refine mw_if_lt cx (tgt := 220) (q := 204) dL_areOrdersSo_201 (by decide) rfl (fun h71 => ?_) (fun h71 => ?_)
                          · refine mw_iconst cx (q := 221) (v := 0) dL_areOrdersSo_220 rfl rfl ?_
                            refine mw_sub [3, 2] rfl ?_
                            exact gl_w (by omega) (hK54 false M hG)
                          · refine mw_aload_n cx (q := 205) 3 rfl rfl dL_areOrdersSo_204 rfl ?_
                            refine mw_iload_n cx (q := 206) 2 rfl rfl dL_areOrdersSo_205 rfl ?_
                            refine mw_bnd (fun r72 er72 => ?_)
                            obtain ⟨M, hG, hM⟩ := C_movedBy (D := D) (ta := ta) (ad := ad) hl hG x44
                            rw [← er72] at hM
                            refine gl_callV cx hzx ht (q := 209) (d0 := 8) (u0 := 1) (As := [.int x44]) (r := r72) (M' := M) (st := []) hM cv_L_172 rfl rfl rfl vi_11_0 ⟨by decide, by decide⟩ (by omega) (by simp [Value.category]) rfl (fun _ => ⟨rfl, hG⟩) dL_areOrdersSo_206 rfl (fun h73 => ?_)
                            refine mw_aload_n cx (q := 210) 3 rfl rfl dL_areOrdersSo_209 rfl ?_
                            obtain ⟨M, hG, hM⟩ := C_orders (D := D) (ta := ta) (ad := ad) hl hG
                            refine gl_callVn cx hzx (q := 213) (d0 := 8) (u0 := 0) (As := []) (r := (0, (sa.2.2 0 0 11))) (M' := M) (st := [.int r72.2]) hM cv_L_106 rfl rfl rfl vi_11_0 ⟨by decide, by decide⟩ (by omega) (by simp [Value.category]) rfl rfl dL_areOrdersSo_210 rfl ?_
                            refine mw_icmp_ge cx (tgt := 220) (q := 216) dL_areOrdersSo_213 (by decide) rfl (fun h74 => ?_) (fun h74 => ?_)
                            · refine mw_iconst cx (q := 221) (v := 0) dL_areOrdersSo_220 rfl rfl ?_
                              refine mw_sub [3, 2] rfl ?_
                              exact gl_w (by omega) (hK54 false M hG)
                            · refine mw_iconst cx (q := 217) (v := 1) dL_areOrdersSo_216 rfl rfl ?_
                              refine mw_goto cx (tgt := 221) dL_areOrdersSo_217 (by decide) ?_
                              refine mw_sub [3, 2] rfl ?_
                              exact gl_w (by omega) (hK54 true M hG)
  · refine gl_loop (F := fL_areOrdersSo_lp2 sa K3) (I := fun (x1 : Int32) => 0 ≤ (x1).toInt) (μ := fun (x1 : Int32) => ((sa.2.2 0 0 11).toInt - (x1).toInt).toNat) (Γx := fun (x1 : Int32) (M : Wm) => GM w sa sb M) (px := 2) (lx := fun (x1 : Int32) => [(1, .int x1), (0, .ref (ad 11 0 0))]) (per := 8) (N := 61) (fun n4 x1 M cl2 hcl2 hG ivx1 ih => ?_) 61 0 M hG (by (try simp only [vp_in_iff, i32lt, i32le, i32eq, i32add, i32sub, i32mul, i32neg, t32_0]); omega) (by (try simp only [vp_in_iff, i32lt, i32le, i32eq, i32add, i32sub, i32mul, i32neg, t32_0, t32_11, t32_60, t32_61] at ho ⊢); omega) (by (try simp only [vp_in_iff, i32lt, i32le, i32eq, i32add, i32sub, i32mul, i32neg, t32_0, t32_11, t32_60, t32_61] at ho ⊢); omega)
    have ivx1_0 := ivx1
    refine mw_eqS (fL_areOrdersSo_lp2_s sa K3 n4 x1) ?_
    refine mw_iload_n cx (q := 3) 0 rfl rfl dL_areOrdersSo_2 rfl ?_
    refine mw_aload_n cx (q := 4) 1 rfl rfl dL_areOrdersSo_3 rfl ?_
    obtain ⟨M, hG, hM⟩ := C_orders (D := D) (ta := ta) (ad := ad) hl hG
    refine gl_callVn cx hzx (q := 7) (d0 := 8) (u0 := 0) (As := []) (r := (0, (sa.2.2 0 0 11))) (M' := M) (st := [.int x1]) hM cv_L_106 rfl rfl rfl vi_11_0 ⟨by decide, by decide⟩ (by omega) (by simp [Value.category]) rfl rfl dL_areOrdersSo_4 rfl ?_
    refine mw_icmp_ge cx (tgt := 123) (q := 10) dL_areOrdersSo_7 (by decide) rfl (fun h5 => ?_) (fun h5 => ?_)
    · refine mw_sub [1] rfl ?_
      exact gl_w (by omega) (hK3 () M hG)
    · refine mw_aload_n cx (q := 11) 1 rfl rfl dL_areOrdersSo_10 rfl ?_
      refine mw_iload_n cx (q := 12) 0 rfl rfl dL_areOrdersSo_11 rfl ?_
      refine mw_bnd (fun r6 er6 => ?_)
      obtain ⟨M, hG, hM⟩ := C_state (D := D) (ta := ta) (ad := ad) hl hG x1
      rw [← er6] at hM
      refine gl_callV cx hzx ht (q := 15) (d0 := 8) (u0 := 1) (As := [.int x1]) (r := r6) (M' := M) (st := []) hM cv_L_133 rfl rfl rfl vi_11_0 ⟨by decide, by decide⟩ (by omega) (by simp [Value.category]) rfl (fun _ => ⟨rfl, hG⟩) dL_areOrdersSo_12 rfl (fun h7 => ?_)
      refine mw_istore_n cx (q := 16) (lv' := [(2, .int r6.2), (1, .int x1), (0, .ref (ad 11 0 0))]) rfl rfl (by decide) dL_areOrdersSo_15 rfl ?_
      refine mw_iload_n cx (q := 17) 0 rfl rfl dL_areOrdersSo_16 rfl ?_
      refine gl_jn (fun (v8 : Bool) (M : Wm) => GM w sa sb M) (cl2 + 6) 90 (fun (v8 : Bool) => [(0, .ref (ad 11 0 0)), (1, .int x1), (2, .int r6.2)]) (fun (v8 : Bool) => [.int (b2i v8)]) (fun v8 M hG => ?_) (fun K9 hK9 => ?_)
      · refine mw_istore_n cx (q := 91) (lv' := [(3, .int (b2i v8)), (0, .ref (ad 11 0 0)), (1, .int x1), (2, .int r6.2)]) rfl rfl (by decide) dL_areOrdersSo_90 rfl ?_
        refine mw_iload_n cx (q := 92) 0 rfl rfl dL_areOrdersSo_91 rfl ?_
        refine mw_ifb_eq cx (tgt := 115) (q := 95) dL_areOrdersSo_92 (by decide) rfl (fun h33 => ?_) (fun h33 => ?_)
        · refine mw_iconst cx (q := 116) (v := 0) dL_areOrdersSo_115 rfl rfl ?_
          exact gl_iret cx hr rfl rfl hG (by omega) dL_areOrdersSo_116
        · refine mw_iload_n cx (q := 96) 3 rfl rfl dL_areOrdersSo_95 rfl ?_
          refine mw_if_ne cx (tgt := 117) (q := 99) dL_areOrdersSo_96 (by decide) rfl (fun h34 => ?_) (fun h34 => ?_)
          · refine mw_bnd (fun v35 ev35 => ?_)
            refine mw_iinc cx (q := 120) (v := v35) (lv' := [(1, .int v35), (3, .int (b2i v8)), (0, .ref (ad 11 0 0)), (2, .int r6.2)]) 2 rfl (by rw [ev35]; rfl) rfl (by decide) dL_areOrdersSo_117 rfl ?_
            refine mw_goto cx (tgt := 2) dL_areOrdersSo_120 (by decide) ?_
            refine mw_sub [0, 2] rfl ?_
            exact gl_w (by omega) (ih v35 M hG (by (try simp only [vp_in_iff, i32lt, i32le, i32eq, i32add, i32sub, i32mul, i32neg, t32_0, t32_1, t32_11, t32_60] at ev35 ivx1_0 h5 ho ⊢); omega) (by (try simp only [vp_in_iff, i32lt, i32le, i32eq, i32add, i32sub, i32mul, i32neg, t32_0, t32_1, t32_11, t32_60] at ho ivx1_0 h5 ev35 ⊢); omega))
          · refine mw_aload_n cx (q := 100) 1 rfl rfl dL_areOrdersSo_99 rfl ?_
            refine mw_iload_n cx (q := 101) 2 rfl rfl dL_areOrdersSo_100 rfl ?_
            refine mw_bnd (fun r36 er36 => ?_)
            obtain ⟨M, hG, hM⟩ := C_done (D := D) (ta := ta) (ad := ad) hl hG x1
            rw [← er36] at hM
            refine gl_callV cx hzx ht (q := 104) (d0 := 8) (u0 := 1) (As := [.int x1]) (r := r36) (M' := M) (st := []) hM cv_L_136 rfl rfl rfl vi_11_0 ⟨by decide, by decide⟩ (by omega) (by simp [Value.category]) rfl (fun _ => ⟨rfl, hG⟩) dL_areOrdersSo_101 rfl (fun h37 => ?_)
            refine mw_if_ne cx (tgt := 115) (q := 107) dL_areOrdersSo_104 (by decide) rfl (fun h38 => ?_) (fun h38 => ?_)
            · refine mw_iconst cx (q := 116) (v := 0) dL_areOrdersSo_115 rfl rfl ?_
              exact gl_iret cx hr rfl rfl hG (by omega) dL_areOrdersSo_116
            · refine mw_aload_n cx (q := 108) 1 rfl rfl dL_areOrdersSo_107 rfl ?_
              refine mw_iload_n cx (q := 109) 2 rfl rfl dL_areOrdersSo_108 rfl ?_
              refine mw_bnd (fun r39 er39 => ?_)
              obtain ⟨M, hG, hM⟩ := C_used (D := D) (ta := ta) (ad := ad) hl hG x1
              rw [← er39] at hM
              refine gl_callV cx hzx ht (q := 112) (d0 := 8) (u0 := 1) (As := [.int x1]) (r := r39) (M' := M) (st := []) hM cv_L_139 rfl rfl rfl vi_11_0 ⟨by decide, by decide⟩ (by omega) (by simp [Value.category]) rfl (fun _ => ⟨rfl, hG⟩) dL_areOrdersSo_109 rfl (fun h40 => ?_)
              refine mw_if_eq cx (tgt := 117) (q := 115) dL_areOrdersSo_112 (by decide) rfl (fun h41 => ?_) (fun h41 => ?_)
              · refine mw_bnd (fun v42 ev42 => ?_)
                refine mw_iinc cx (q := 120) (v := v42) (lv' := [(1, .int v42), (3, .int (b2i v8)), (0, .ref (ad 11 0 0)), (2, .int r6.2)]) 2 rfl (by rw [ev42]; rfl) rfl (by decide) dL_areOrdersSo_117 rfl ?_
                refine mw_goto cx (tgt := 2) dL_areOrdersSo_120 (by decide) ?_
                refine mw_sub [0, 2] rfl ?_
                exact gl_w (by omega) (ih v42 M hG (by (try simp only [vp_in_iff, i32lt, i32le, i32eq, i32add, i32sub, i32mul, i32neg, t32_0, t32_1, t32_11, t32_60] at ev42 ivx1_0 h5 ho ⊢); omega) (by (try simp only [vp_in_iff, i32lt, i32le, i32eq, i32add, i32sub, i32mul, i32neg, t32_0, t32_1, t32_11, t32_60] at ho ivx1_0 h5 ev42 ⊢); omega))
              · refine mw_iconst cx (q := 116) (v := 0) dL_areOrdersSo_115 rfl rfl ?_
                exact gl_iret cx hr rfl rfl hG (by omega) dL_areOrdersSo_116
      · refine mw_if_lt cx (tgt := 89) (q := 20) dL_areOrdersSo_17 (by decide) rfl (fun h10 => ?_) (fun h10 => ?_)
        · refine mw_iconst cx (q := 90) (v := 0) dL_areOrdersSo_89 rfl rfl ?_
          refine mw_sub [2, 1, 0] rfl ?_
          exact gl_w (by omega) (hK9 false M hG)
        · refine mw_iload_n cx (q := 21) 0 rfl rfl dL_areOrdersSo_20 rfl ?_
          refine mw_iconst cx (q := 22) (v := 5) dL_areOrdersSo_21 rfl rfl ?_
          refine mw_icmp_ge cx (tgt := 89) (q := 25) dL_areOrdersSo_22 (by decide) rfl (fun h11 => ?_) (fun h11 => ?_)
          · refine mw_iconst cx (q := 90) (v := 0) dL_areOrdersSo_89 rfl rfl ?_
            refine mw_sub [2, 1, 0] rfl ?_
            exact gl_w (by omega) (hK9 false M hG)
          · refine mw_iload_n cx (q := 26) 0 rfl rfl dL_areOrdersSo_25 rfl ?_
            refine mw_iconst cx (q := 27) (v := 3) dL_areOrdersSo_26 rfl rfl ?_
            refine gl_jn (fun (v12 : Bool) (M : Wm) => GM w sa sb M) (cl2 + 1) 35 (fun (v12 : Bool) => [(0, .ref (ad 11 0 0)), (1, .int x1), (2, .int r6.2)]) (fun (v12 : Bool) => [.int (b2i v12)]) (fun v12 M hG => ?_) (fun K13 hK13 => ?_)
            · refine mw_aload_n cx (q := 36) 0 rfl rfl dL_areOrdersSo_35 rfl ?_
              refine mw_iload_n cx (q := 37) 1 rfl rfl dL_areOrdersSo_36 rfl ?_
              refine mw_bnd (fun r15 er15 => ?_)
              obtain ⟨M, hG, hM⟩ := C_why (D := D) (ta := ta) (ad := ad) hl hG x1
              rw [← er15] at hM
              refine gl_callV cx hzx ht (q := 40) (d0 := 8) (u0 := 1) (As := [.int x1]) (r := r15) (M' := M) (st := [.int (b2i v12)]) hM cv_L_154 rfl rfl rfl vi_11_0 ⟨by decide, by decide⟩ (by omega) (by simp [Value.category]) rfl (fun _ => ⟨rfl, hG⟩) dL_areOrdersSo_37 rfl (fun h16 => ?_)
              refine gl_jn (fun (v17 : Bool) (M : Wm) => GM w sa sb M) (cl2 + 2) 48 (fun (v17 : Bool) => [(0, .ref (ad 11 0 0)), (1, .int x1), (2, .int r6.2)]) (fun (v17 : Bool) => [.int (b2i v17), .int (b2i v12)]) (fun v17 M hG => ?_) (fun K18 hK18 => ?_)
              · refine mw_icmp_ne cx (tgt := 89) (q := 51) dL_areOrdersSo_48 (by decide) rfl (fun h20 => ?_) (fun h20 => ?_)
                · refine mw_iconst cx (q := 90) (v := 0) dL_areOrdersSo_89 rfl rfl ?_
                  exact gl_w (by omega) (hK9 false M hG)
                · refine mw_aload_n cx (q := 52) 0 rfl rfl dL_areOrdersSo_51 rfl ?_
                  refine mw_iload_n cx (q := 53) 1 rfl rfl dL_areOrdersSo_52 rfl ?_
                  refine mw_bnd (fun r21 er21 => ?_)
                  obtain ⟨M, hG, hM⟩ := C_why (D := D) (ta := ta) (ad := ad) hl hG x1
                  rw [← er21] at hM
                  refine gl_callV cx hzx ht (q := 56) (d0 := 8) (u0 := 1) (As := [.int x1]) (r := r21) (M' := M) (st := []) hM cv_L_154 rfl rfl rfl vi_11_0 ⟨by decide, by decide⟩ (by omega) (by simp [Value.category]) rfl (fun _ => ⟨rfl, hG⟩) dL_areOrdersSo_53 rfl (fun h22 => ?_)
                  refine mw_bipush cx (q := 58) (v := 7) dL_areOrdersSo_56 rfl rfl ?_
                  refine mw_icmp_ge cx (tgt := 89) (q := 61) dL_areOrdersSo_58 (by decide) rfl (fun h23 => ?_) (fun h23 => ?_)
                  · refine mw_iconst cx (q := 90) (v := 0) dL_areOrdersSo_89 rfl rfl ?_
                    exact gl_w (by omega) (hK9 false M hG)
                  · refine mw_aload_n cx (q := 62) 0 rfl rfl dL_areOrdersSo_61 rfl ?_
                    refine mw_iload_n cx (q := 63) 1 rfl rfl dL_areOrdersSo_62 rfl ?_
                    refine mw_bnd (fun r24 er24 => ?_)
                    obtain ⟨M, hG, hM⟩ := C_done (D := D) (ta := ta) (ad := ad) hl hG x1
                    rw [← er24] at hM
                    refine gl_callV cx hzx ht (q := 66) (d0 := 8) (u0 := 1) (As := [.int x1]) (r := r24) (M' := M) (st := []) hM cv_L_136 rfl rfl rfl vi_11_0 ⟨by decide, by decide⟩ (by omega) (by simp [Value.category]) rfl (fun _ => ⟨rfl, hG⟩) dL_areOrdersSo_63 rfl (fun h25 => ?_)
                    refine mw_if_lt cx (tgt := 89) (q := 69) dL_areOrdersSo_66 (by decide) rfl (fun h26 => ?_) (fun h26 => ?_)
                    · refine mw_iconst cx (q := 90) (v := 0) dL_areOrdersSo_89 rfl rfl ?_
                      exact gl_w (by omega) (hK9 false M hG)
                    · refine mw_aload_n cx (q := 70) 0 rfl rfl dL_areOrdersSo_69 rfl ?_
                      refine mw_iload_n cx (q := 71) 1 rfl rfl dL_areOrdersSo_70 rfl ?_
                      refine mw_bnd (fun r27 er27 => ?_)
                      obtain ⟨M, hG, hM⟩ := C_used (D := D) (ta := ta) (ad := ad) hl hG x1
                      rw [← er27] at hM
                      refine gl_callV cx hzx ht (q := 74) (d0 := 8) (u0 := 1) (As := [.int x1]) (r := r27) (M' := M) (st := []) hM cv_L_139 rfl rfl rfl vi_11_0 ⟨by decide, by decide⟩ (by omega) (by simp [Value.category]) rfl (fun _ => ⟨rfl, hG⟩) dL_areOrdersSo_71 rfl (fun h28 => ?_)
                      refine mw_if_lt cx (tgt := 89) (q := 77) dL_areOrdersSo_74 (by decide) rfl (fun h29 => ?_) (fun h29 => ?_)
                      · refine mw_iconst cx (q := 90) (v := 0) dL_areOrdersSo_89 rfl rfl ?_
                        exact gl_w (by omega) (hK9 false M hG)
                      · refine mw_aload_n cx (q := 78) 0 rfl rfl dL_areOrdersSo_77 rfl ?_
                        refine mw_iload_n cx (q := 79) 1 rfl rfl dL_areOrdersSo_78 rfl ?_
                        refine mw_bnd (fun r30 er30 => ?_)
                        obtain ⟨M, hG, hM⟩ := C_hourOf (D := D) (ta := ta) (ad := ad) hl hG x1
                        rw [← er30] at hM
                        refine gl_callV cx hzx ht (q := 82) (d0 := 8) (u0 := 1) (As := [.int x1]) (r := r30) (M' := M) (st := []) hM cv_L_157 rfl rfl rfl vi_11_0 ⟨by decide, by decide⟩ (by omega) (by simp [Value.category]) rfl (fun _ => ⟨rfl, hG⟩) dL_areOrdersSo_79 rfl (fun h31 => ?_)
                        refine mw_if_le cx (tgt := 89) (q := 85) dL_areOrdersSo_82 (by decide) rfl (fun h32 => ?_) (fun h32 => ?_)
                        · refine mw_iconst cx (q := 90) (v := 0) dL_areOrdersSo_89 rfl rfl ?_
                          exact gl_w (by omega) (hK9 false M hG)
                        · refine mw_iconst cx (q := 86) (v := 1) dL_areOrdersSo_85 rfl rfl ?_
                          refine mw_goto cx (tgt := 90) dL_areOrdersSo_86 (by decide) ?_
                          exact gl_w (by omega) (hK9 true M hG)
              · refine mw_if_le cx (tgt := 47) (q := 43) dL_areOrdersSo_40 (by decide) rfl (fun h19 => ?_) (fun h19 => ?_)
                · refine mw_iconst cx (q := 48) (v := 0) dL_areOrdersSo_47 rfl rfl ?_
                  exact gl_w (by omega) (hK18 false M hG)
                · refine mw_iconst cx (q := 44) (v := 1) dL_areOrdersSo_43 rfl rfl ?_
                  refine mw_goto cx (tgt := 48) dL_areOrdersSo_44 (by decide) ?_
                  exact gl_w (by omega) (hK18 true M hG)
            · refine mw_icmp_ne cx (tgt := 34) (q := 30) dL_areOrdersSo_27 (by decide) rfl (fun h14 => ?_) (fun h14 => ?_)
              · refine mw_iconst cx (q := 35) (v := 0) dL_areOrdersSo_34 rfl rfl ?_
                refine mw_sub [2, 1, 0] rfl ?_
                exact gl_w (by omega) (hK13 false M hG)
              · refine mw_iconst cx (q := 31) (v := 1) dL_areOrdersSo_30 rfl rfl ?_
                refine mw_goto cx (tgt := 35) dL_areOrdersSo_31 (by decide) ?_
                refine mw_sub [2, 1, 0] rfl ?_
                exact gl_w (by omega) (hK13 true M hG)
end LMS
