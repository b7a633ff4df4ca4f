/-- what a text that has no fault behind a sign keeps -/
def FT (m : Cm) (s e op : Int32) : Prop := ∀ i0 k0 : Nat, (i0 : Int) = e.toInt → (i0 : Int) + k0 = (m 3 0 s).toInt → op.toInt + sf12 m s i0 k0 = 0 ∧ ∀ i j : Nat, i0 ≤ i → (i : Int) + j = (m 3 0 s).toInt → sf12 m s i j ≤ 0
theorem faultOf_lp {m : Cm} {s : Int32} (hL : (m 3 0 s).toInt ≤ 120) (K : Int32 × Int32 → Int32) (hK : ∀ y, K y = -1 → y.1.toInt ≤ 0) : ∀ (k : Nat) (x : Int32 × Int32 × Int32), 0 ≤ x.1.toInt → x.1.toInt ≤ (m 3 0 s).toInt → 0 ≤ x.2.2.toInt → x.2.2.toInt ≤ 20 → 121 - x.1.toInt < k → f12_faultOf_lp7 m s K k x = -1 → FT m s x.1 x.2.2 := by
  intro k
  induction k with
  | zero => intro x a b _ _ c; omega
  | succ k ih =>
    intro x a b o0 o1 c
    rw [f12_faultOf_lp7_s]
    have hne : ¬ x.1 = -1 := by intro z; rw [z] at a; exact absurd a (by decide)
    by_cases c0 : m 3 0 s ≤ x.1
    · rw [if_pos c0]
      intro hr
      have h0 := hK _ hr
      simp only [i32le] at c0
      intro i0 k0 e1 e2
      have hk0 : k0 = 0 := by omega
      subst hk0
      refine ⟨by show x.2.2.toInt + 0 = 0; have : x.2.2.toInt ≤ 0 := h0; omega, fun i j e3 e4 => ?_⟩
      have hj0 : j = 0 := by omega
      subst hj0; exact Int.le_refl _
    · rw [if_neg c0]
      simp only [i32le] at c0
      refine bnd_I (P := fun r : Int32 => r = -1 → FT m s x.1 x.2.2) (fun r5 e5 => bnd_I (P := fun r : Int32 => r = -1 → FT m s x.1 x.2.2) (fun r6 e6 => jn_I' (Q := fun v : Int32 => v.toInt = dl12 r5) (P := fun r : Int32 => r = -1 → FT m s x.1 x.2.2) (fun K8 hK8 => ?_) (fun v7 h7 => bnd_I (P := fun r : Int32 => r = -1 → FT m s x.1 x.2.2) (fun v11 e11 => ?_))))
      · by_cases c1 : r5 = 40
        · rw [if_pos c1]; exact hK8 _ (by rw [dl12, if_pos c1]; rfl)
        · rw [if_neg c1]
          by_cases c2 : r5 = 41
          · rw [if_pos c2]; exact hK8 _ (by rw [dl12, if_neg c1, if_pos c2]; rfl)
          · rw [if_neg c2]; exact hK8 _ (by rw [dl12, if_neg c1, if_neg c2]; rfl)
      · by_cases c1 : r6 = -1
        · rw [if_pos c1]; exact fun z => absurd z hne
        · rw [if_neg c1]
          by_cases c2 : v11 < 0
          · rw [if_pos c2]; exact fun z => absurd z hne
          · rw [if_neg c2]
            by_cases c3 : v11 ≤ 20
            · rw [if_pos c3]
              refine bnd_I (P := fun r : Int32 => r = -1 → FT m s x.1 x.2.2) (fun v15 e15 => fun hr => ?_)
              have hd := dl12_r r5
              have o2 : v11.toInt = x.2.2.toInt + dl12 r5 := by rw [e11, i32addn (by rw [h7]; omega) (by rw [h7]; omega), h7]
              have e1 : v15.toInt = x.1.toInt + 1 := by rw [e15]; exact inc_t a (by omega)
              simp only [i32lt, i32le, t32_0, t32_20] at c2 c3
              have hI := ih (v15, r6, v11) (by show 0 ≤ v15.toInt; omega) (by show v15.toInt ≤ _; omega) (by show 0 ≤ v11.toInt; omega) (by show v11.toInt ≤ 20; omega) (by show 121 - v15.toInt < _; omega) hr
              have hI' : FT m s v15 v11 := hI
              intro i0 k0 e2 e3
              have hk : ∃ k1, k0 = k1 + 1 := ⟨k0 - 1, by omega⟩
              obtain ⟨k1, hk1⟩ := hk
              subst hk1
              have h2 := hI' (i0 + 1) k1 (by omega) (by omega)
              have hs : sf12 m s i0 (k1 + 1) = dl12 r5 + sf12 m s (i0 + 1) k1 := by rw [sf12, nI_e (e := x.1) (i := i0) e2, ← e5]
              refine ⟨by rw [hs]; have := h2.1; omega, fun i j e4 e5' => ?_⟩
              by_cases ci : i = i0
              · subst ci
                have hj : j = k1 + 1 := by omega
                subst hj
                rw [hs]; have := h2.1; omega
              · exact h2.2 i j (by omega) e5'
            · rw [if_neg c3]; exact fun z => absurd z hne
/-- a text that the reference finds without fault is one -/
theorem faultOf_T {m : Cm} {s : Int32} (hk : Ok12 m) (hs : vp_in s 8) (h : f12_faultOf m s = -1) : Tx12 m s := by
  have hL := hk.len s hs
  have hne : ¬ m 3 0 s = -1 := by intro z; rw [z] at hL; exact absurd hL.1 (by decide)
  have key : f12_faultOf m s = -1 → FT m s 0 0 := by
    unfold f12_faultOf
    show f12_faultOf_lp7 m s (fun y16 : Int32 × Int32 => if 0 < y16.1 then (m 3 0 s) else if y16.2 = 1 then (m 3 0 s) else (-1)) 122 (0, 0, 0) = -1 → FT m s 0 0
    refine faultOf_lp hL.2 _ (fun y hy => ?_) 122 (0, 0, 0) (by decide) hL.1 (by decide) (by decide) (by decide)
    by_cases c : 0 < y.1
    · rw [if_pos c] at hy; exact absurd hy hne
    · simp only [i32lt, t32_0] at c; omega
  intro i k e
  have := key h 0 (m 3 0 s).toInt.toNat (by decide) (by omega)
  exact this.2 i k (by omega) e
def f12_fault (m : Cm) (p1 : Int32) : (Int32 × Cm) := bnd (f12_isScript p1) (fun (r1 : Bool) => jn (fun (v2 : Bool) => bnd (f12_goesWell m (b2i v2)) (fun (r5 : Bool × Cm) => if r5.1 = true then bnd (f12_faultOf r5.2 p1) (fun (r8 : Int32) => (r8, r5.2)) else (0, r5.2))) (fun K3 => if r1 = true then K3 false else K3 true))
set_option maxHeartbeats 4000000 in
set_option maxRecDepth 100000 in
theorem mc_X12_fault (l : Launch) (D : va_G) (ta : wTa) (ad : wAd) (M : Wm) (p1 : Int32) (hok : Ok12 (M 12)) : MC l D ta ad yX12_fault cX12_fault 2 (some .int) 4 [.ref (ad 12 0 0), .int p1] M (fic M 12 (f12_fault (M 12) p1)) := by
  refine MC.of (fic M 12) (f12_fault (M 12) p1) rfl (by decide) (Nat.le_of_ble_eq_true rfl) (fun p e s m args below meth c cx hr => ?_)
  unfold f12_fault
  refine mw_sub (lv' := [(0, .ref (ad 12 0 0)), (1, .int p1)]) [0, 1] rfl ?_
  refine mw_eqM (uW_self M 12) ?_
  have ok0 : OkT (M 12) (M 12) := ⟨hok, rfl, rfl⟩
  refine mw_aload_n cx (q := 1) 0 rfl rfl dX12_fault_0 rfl ?_
  refine mw_iload_n cx (q := 2) 1 rfl rfl dX12_fault_1 rfl ?_
  refine mw_bnd (fun r1 er1 => ?_)
  refine mw_callS cx (q := 5) (d := 1) (As := [.int p1]) (z := fzp (uW M 12 (M 12)) r1) (st := [.ref (ad 12 0 0)]) (st1 := [.int (b2i r1), .ref (ad 12 0 0)]) (M' := (uW M 12 (M 12))) (by rw [er1]; exact mc_X12_isScript l D ta ad (uW M 12 (M 12)) p1) cv_X12_178 ⟨Nat.le_of_ble_eq_true rfl, Nat.le_of_ble_eq_true rfl⟩ ⟨Nat.le_refl _, Nat.le_refl _⟩ (by simp [Value.category]) rfl rfl rfl dX12_fault_2 rfl ?_
  have qr10 : r1 = true → vp_in p1 8 := (fun hq => isScript_t (er1.symm.trans hq))
  refine mw_jnP (P := fun (v2 : Bool) => ((b2i v2) = 0 → vp_in p1 8)) (Mj := fun (v2 : Bool) => (uW M 12 (M 12))) (pj := 13) (lj := fun (v2 : Bool) => [(0, .ref (ad 12 0 0)), (1, .int p1)]) (sj := fun (v2 : Bool) => [.int (b2i v2), .ref (ad 12 0 0)]) (fun v2 jv2 => ?_) (fun K3 hK3 => ?_)
  · have jv2_0 := jv2
    refine mw_bnd (fun r5 er5 => ?_)
    refine mw_callV cx (q := 16) (d := 0) (As := [.int (b2i v2)]) (z := fzc (uW M 12 (M 12)) 12 r5) (st := []) (st1 := [.int (b2i r5.1)]) (M' := uW M 12 r5.2) (by rw [er5]; exact mc_X12_goesWell l D ta ad (uW M 12 (M 12)) (b2i v2)) cv_X12_181 rfl rfl rfl vi_12_0 ⟨Nat.le_of_ble_eq_true rfl, Nat.le_of_ble_eq_true rfl⟩ ⟨Nat.le_refl _, Nat.le_refl _⟩ (by simp [Value.category]) rfl rfl (by exact uW_uW _ _ _ _) dX12_fault_13 rfl ?_
    have ok6 : OkT (M 12) r5.2 := (by rw [er5]; exact okT_f12_goesWell ok0 (b2i v2))
    have qr50 : r5.1 = true → (b2i v2) = 0 := (fun hq => goesWell_t ((congrArg Prod.fst er5).symm.trans hq))
    refine mw_ifb_eq cx (tgt := 27) (q := 19) dX12_fault_16 (by decide) rfl (fun h7 => ?_) (fun h7 => ?_)
    · refine mw_iconst cx (q := 28) (v := 0) dX12_fault_27 rfl rfl ?_
      exact mw_iret cx hr rfl dX12_fault_28
    · refine mw_aload_n cx (q := 20) 0 rfl rfl dX12_fault_19 rfl ?_
      refine mw_iload_n cx (q := 21) 1 rfl rfl dX12_fault_20 rfl ?_
      refine mw_bnd (fun r8 er8 => ?_)
      refine mw_callV cx (q := 24) (d := 3) (As := [.int p1]) (z := fip (uW M 12 r5.2) r8) (st := []) (st1 := [.int r8]) (M' := (uW M 12 r5.2)) (by rw [er8]; exact mc_X12_faultOf l D ta ad (uW M 12 r5.2) p1 (ok6.1) (jv2_0 (qr50 h7))) cv_X12_191 rfl rfl rfl vi_12_0 ⟨Nat.le_of_ble_eq_true rfl, Nat.le_of_ble_eq_true rfl⟩ ⟨Nat.le_refl _, Nat.le_refl _⟩ (by simp [Value.category]) rfl rfl rfl dX12_fault_21 rfl ?_
      have qr80 : r8 = (-1) → Tx12 r5.2 p1 := (fun hq => faultOf_T (ok6.1) (jv2_0 (qr50 h7)) (er8.symm.trans hq))
      refine mw_goto cx (tgt := 28) dX12_fault_24 (by decide) ?_
      exact mw_iret cx hr rfl dX12_fault_28
  · refine mw_ifb_eq cx (tgt := 12) (q := 8) dX12_fault_5 (by decide) rfl (fun h4 => ?_) (fun h4 => ?_)
    · refine mw_iconst cx (q := 13) (v := 1) dX12_fault_12 rfl rfl ?_
      exact hK3 true (by intro hz; first | exact absurd hz (by decide) | exact (by (try simp only [vp_in_iff, i32lt, i32le, i32eq, i32add, i32sub, i32mul, i32neg, t32_8] at qr10 h4 ⊢); omega))
    · refine mw_iconst cx (q := 9) (v := 0) dX12_fault_8 rfl rfl ?_
      refine mw_goto cx (tgt := 13) dX12_fault_9 (by decide) ?_
      exact hK3 false (by intro hz; first | exact absurd hz (by decide) | exact (qr10 h4))
def f12_expressions (m : Cm) (p1 : Int32) : (Int32 × Cm) := bnd (f12_isScript p1) (fun (r1 : Bool) => jn (fun (v2 : Int32) => bnd (f12_goesWell m v2) (fun (r7 : Bool × Cm) => if r7.1 = true then bnd (f12_nextAt r7.2 p1 0) (fun (r10 : Int32) => bnd (f12_countFrom r7.2 p1 r10) (fun (r11 : Int32) => (r11, r7.2))) else (0, r7.2))) (fun K3 => if r1 = true then bnd (f12_faultOf m p1) (fun (r5 : Int32) => if r5 = (-1) then K3 0 else K3 2) else K3 1))
set_option maxHeartbeats 4000000 in
set_option maxRecDepth 100000 in
theorem mc_X12_expressions (l : Launch) (D : va_G) (ta : wTa) (ad : wAd) (M : Wm) (p1 : Int32) (hok : Ok12 (M 12)) : MC l D ta ad yX12_expressions cX12_expressions 3 (some .int) 5 [.ref (ad 12 0 0), .int p1] M (fic M 12 (f12_expressions (M 12) p1)) := by
  refine MC.of (fic M 12) (f12_expressions (M 12) p1) rfl (by decide) (Nat.le_of_ble_eq_true rfl) (fun p e s m args below meth c cx hr => ?_)
  unfold f12_expressions
  refine mw_sub (lv' := [(0, .ref (ad 12 0 0)), (1, .int p1)]) [0, 1] rfl ?_
  refine mw_eqM (uW_self M 12) ?_
  have ok0 : OkT (M 12) (M 12) := ⟨hok, rfl, rfl⟩
  refine mw_iload_n cx (q := 1) 1 rfl rfl dX12_expressions_0 rfl ?_
  refine mw_bnd (fun r1 er1 => ?_)
  refine mw_callS cx (q := 4) (d := 1) (As := [.int p1]) (z := fzp (uW M 12 (M 12)) r1) (st := []) (st1 := [.int (b2i r1)]) (M' := (uW M 12 (M 12))) (by rw [er1]; exact mc_X12_isScript l D ta ad (uW M 12 (M 12)) p1) cv_X12_178 ⟨Nat.le_of_ble_eq_true rfl, Nat.le_of_ble_eq_true rfl⟩ ⟨Nat.le_refl _, Nat.le_refl _⟩ (by simp [Value.category]) rfl rfl rfl dX12_expressions_1 rfl ?_
  have qr10 : r1 = true → vp_in p1 8 := (fun hq => isScript_t (er1.symm.trans hq))
  refine mw_istore_n cx (q := 5) (lv' := [(2, .int (b2i r1)), (0, .ref (ad 12 0 0)), (1, .int p1)]) rfl rfl (by decide) dX12_expressions_4 rfl ?_
  refine mw_aload_n cx (q := 6) 1 rfl rfl dX12_expressions_5 rfl ?_
  refine mw_iload_n cx (q := 7) 0 rfl rfl dX12_expressions_6 rfl ?_
  refine mw_jnP (P := fun (v2 : Int32) => (v2 = 0 → vp_in p1 8 ∧ Tx12 (M 12) p1)) (Mj := fun (v2 : Int32) => (uW M 12 (M 12))) (pj := 28) (lj := fun (v2 : Int32) => [(0, .ref (ad 12 0 0)), (1, .int p1)]) (sj := fun (v2 : Int32) => [.int v2, .ref (ad 12 0 0)]) (fun v2 jv2 => ?_) (fun K3 hK3 => ?_)
  · have jv2_0 := jv2
    refine mw_bnd (fun r7 er7 => ?_)
    refine mw_callV cx (q := 31) (d := 0) (As := [.int v2]) (z := fzc (uW M 12 (M 12)) 12 r7) (st := []) (st1 := [.int (b2i r7.1)]) (M' := uW M 12 r7.2) (by rw [er7]; exact mc_X12_goesWell l D ta ad (uW M 12 (M 12)) v2) cv_X12_181 rfl rfl rfl vi_12_0 ⟨Nat.le_of_ble_eq_true rfl, Nat.le_of_ble_eq_true rfl⟩ ⟨Nat.le_refl _, Nat.le_refl _⟩ (by simp [Value.category]) rfl rfl (by exact uW_uW _ _ _ _) dX12_expressions_28 rfl ?_
    have ok8 : OkT (M 12) r7.2 := (by rw [er7]; exact okT_f12_goesWell ok0 v2)
    have qr70 : r7.1 = true → v2 = 0 := (fun hq => goesWell_t ((congrArg Prod.fst er7).symm.trans hq))
    refine mw_ifb_ne cx (tgt := 36) (q := 34) dX12_expressions_31 (by decide) rfl (fun h9 => ?_) (fun h9 => ?_)
    · refine mw_aload_n cx (q := 37) 0 rfl rfl dX12_expressions_36 rfl ?_
      refine mw_iload_n cx (q := 38) 1 rfl rfl dX12_expressions_37 rfl ?_
      refine mw_aload_n cx (q := 39) 0 rfl rfl dX12_expressions_38 rfl ?_
      refine mw_iload_n cx (q := 40) 1 rfl rfl dX12_expressions_39 rfl ?_
      refine mw_iconst cx (q := 41) (v := 0) dX12_expressions_40 rfl rfl ?_
      refine mw_bnd (fun r10 er10 => ?_)
      refine mw_callV cx (q := 44) (d := 1) (As := [.int p1, .int 0]) (z := fip (uW M 12 r7.2) r10) (st := [.int p1, .ref (ad 12 0 0)]) (st1 := [.int r10, .int p1, .ref (ad 12 0 0)]) (M' := (uW M 12 r7.2)) (by rw [er10]; exact mc_X12_nextAt l D ta ad (uW M 12 r7.2) p1 0 (ok8.1) (jv2_0 (qr70 h9)).1 (by decide) (by decide)) cv_X12_198 rfl rfl rfl vi_12_0 ⟨Nat.le_of_ble_eq_true rfl, Nat.le_of_ble_eq_true rfl⟩ ⟨Nat.le_refl _, Nat.le_refl _⟩ (by simp [Value.category]) rfl rfl rfl dX12_expressions_41 rfl ?_
      have qr100 : Nx12 r7.2 p1 r10 := (by rw [er10]; exact nextAt_n (ok8.1) (jv2_0 (qr70 h9)).1 (by decide) (by decide))
      refine mw_bnd (fun r11 er11 => ?_)
      refine mw_callV cx (q := 47) (d := 4) (As := [.int p1, .int r10]) (z := fip (uW M 12 r7.2) r11) (st := []) (st1 := [.int r11]) (M' := (uW M 12 r7.2)) (by rw [er11]; exact mc_X12_countFrom l D ta ad (uW M 12 r7.2) p1 r10 (ok8.1) (jv2_0 (qr70 h9)).1 (Tx12.fr ok8.2 (jv2_0 (qr70 h9)).2) qr100) cv_X12_204 rfl rfl rfl vi_12_0 ⟨Nat.le_of_ble_eq_true rfl, Nat.le_of_ble_eq_true rfl⟩ ⟨Nat.le_refl _, Nat.le_refl _⟩ (by simp [Value.category]) rfl rfl rfl dX12_expressions_44 rfl ?_
      exact mw_iret cx hr rfl dX12_expressions_47
    · refine mw_iconst cx (q := 35) (v := 0) dX12_expressions_34 rfl rfl ?_
      exact mw_iret cx hr rfl dX12_expressions_35
  · refine mw_ifb_ne cx (tgt := 14) (q := 10) dX12_expressions_7 (by decide) rfl (fun h4 => ?_) (fun h4 => ?_)
    · refine mw_aload_n cx (q := 15) 1 rfl rfl dX12_expressions_14 rfl ?_
      refine mw_iload_n cx (q := 16) 2 rfl rfl dX12_expressions_15 rfl ?_
      refine mw_bnd (fun r5 er5 => ?_)
      refine mw_callV cx (q := 19) (d := 3) (As := [.int p1]) (z := fip (uW M 12 (M 12)) r5) (st := [.ref (ad 12 0 0)]) (st1 := [.int r5, .ref (ad 12 0 0)]) (M' := (uW M 12 (M 12))) (by rw [er5]; exact mc_X12_faultOf l D ta ad (uW M 12 (M 12)) p1 hok (qr10 h4)) cv_X12_191 rfl rfl rfl vi_12_0 ⟨Nat.le_of_ble_eq_true rfl, Nat.le_of_ble_eq_true rfl⟩ ⟨Nat.le_refl _, Nat.le_refl _⟩ (by simp [Value.category]) rfl rfl rfl dX12_expressions_16 rfl ?_
      have qr50 : r5 = (-1) → Tx12 (M 12) p1 := (fun hq => faultOf_T hok (qr10 h4) (er5.symm.trans hq))
      refine mw_iconst cx (q := 20) (v := (-1)) dX12_expressions_19 rfl rfl ?_
      refine mw_icmp_eq cx (tgt := 27) (q := 23) dX12_expressions_20 (by decide) rfl (fun h6 => ?_) (fun h6 => ?_)
      · refine mw_iconst cx (q := 28) (v := 0) dX12_expressions_27 rfl rfl ?_
        refine mw_sub [1, 2] rfl ?_
        exact hK3 0 (by intro hz; first | exact absurd hz (by decide) | exact ⟨(qr10 h4), (qr50 h6)⟩)
      · refine mw_iconst cx (q := 24) (v := 2) dX12_expressions_23 rfl rfl ?_
        refine mw_goto cx (tgt := 28) dX12_expressions_24 (by decide) ?_
        refine mw_sub [1, 2] rfl ?_
        exact hK3 2 (by intro hz; first | exact absurd hz (by decide) | exact ⟨(qr10 h4), (by (try simp only [vp_in_iff, i32lt, i32le, i32eq, i32add, i32sub, i32mul, i32neg, t32_1, t32_8] at ok0 qr10 h4 qr50 h6 hok ⊢); omega)⟩)
    · refine mw_iconst cx (q := 11) (v := 1) dX12_expressions_10 rfl rfl ?_
      refine mw_goto cx (tgt := 28) dX12_expressions_11 (by decide) ?_
      refine mw_sub [1, 2] rfl ?_
      exact hK3 1 (by intro hz; first | exact absurd hz (by decide) | exact ⟨(by (try simp only [vp_in_iff, i32lt, i32le, i32eq, i32add, i32sub, i32mul, i32neg, t32_8] at qr10 h4 ⊢); omega), (by (try simp only [vp_in_iff, i32lt, i32le, i32eq, i32add, i32sub, i32mul, i32neg, t32_8] at ok0 qr10 h4 hok ⊢); omega)⟩)
