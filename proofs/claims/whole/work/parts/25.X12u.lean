/-- how many signs stand behind an index; none behind none -/
def mu12 (x : Int32) : Nat := if x = -1 then 0 else (122 - x.toInt).toNat
theorem mu12_le {m : Cm} {s i : Int32} (h : Nx12 m s i) : mu12 i < 123 := by
  unfold mu12; split
  · omega
  · rename_i c; have := (h.resolve_left c).1; omega
theorem mu12_lt {m : Cm} {s i : Int32} (hk : Ok12 m) (hs : vp_in s 8) (hT : Tx12 m s) (hI : Ix12 m s i) : mu12 (f12_following m s i) < mu12 i := by
  have hL := (hk.len s hs).2
  have h0 := hI.1; have h1 := hI.2
  have e1 : (i + 1).toInt = i.toInt + 1 := inc_t h0 (by omega)
  have hi : ¬ i = -1 := by intro z; rw [z] at h0; exact absurd h0 (by decide)
  unfold mu12
  rw [if_neg hi]
  rcases following_o hk hs hT hI with z | z
  · rw [if_pos z]; omega
  · split
    · omega
    · have := z.1; omega
def f12_countFrom_lp5 (m : Cm) (p1 : Int32) : Nat → (Int32 × Int32) → Int32
  | 0, x1 => 0
  | n2 + 1, x1 => if x1.1 = (-1) then x1.2 else bnd (x1.2 + 1) (fun (v4 : Int32) => bnd (f12_following m p1 x1.1) (fun (r5 : Int32) => f12_countFrom_lp5 m p1 n2 (r5, v4)))
theorem f12_countFrom_lp5_s (m : Cm) (p1 : Int32) (n2 : Nat) (x1 : Int32 × Int32) : f12_countFrom_lp5 m p1 (n2 + 1) x1 = if x1.1 = (-1) then x1.2 else bnd (x1.2 + 1) (fun (v4 : Int32) => bnd (f12_following m p1 x1.1) (fun (r5 : Int32) => f12_countFrom_lp5 m p1 n2 (r5, v4))) := rfl
def f12_countFrom (m : Cm) (p1 : Int32) (p2 : Int32) : Int32 := f12_countFrom_lp5 m p1 123 (p2, 0)
set_option maxHeartbeats 4000000 in
set_option maxRecDepth 100000 in
theorem mc_X12_countFrom (l : Launch) (D : va_G) (ta : wTa) (ad : wAd) (M : Wm) (p1 : Int32) (p2 : Int32) (hok : Ok12 (M 12)) (hp1 : vp_in p1 8) (hT : Tx12 (M 12) p1) (hN : Nx12 (M 12) p1 p2) : MC l D ta ad yX12_countFrom cX12_countFrom 5 (some .int) 4 [.ref (ad 12 0 0), .int p1, .int p2] M (fip M (f12_countFrom (M 12) p1 p2)) := by
  refine MC.of (fip M) (f12_countFrom (M 12) p1 p2) rfl (by decide) (Nat.le_of_ble_eq_true rfl) (fun p e s m args below meth c cx hr => ?_)
  unfold f12_countFrom
  refine mw_sub (lv' := [(0, .ref (ad 12 0 0)), (1, .int p1), (2, .int p2)]) [0, 1, 2] rfl ?_
  refine mw_iconst cx (q := 1) (v := 0) dX12_countFrom_0 rfl rfl ?_
  refine mw_istore_n cx (q := 2) (lv' := [(3, .int 0), (0, .ref (ad 12 0 0)), (1, .int p1), (2, .int p2)]) rfl rfl (by decide) dX12_countFrom_1 rfl ?_
  refine mw_iload_n cx (q := 3) 3 rfl rfl dX12_countFrom_2 rfl ?_
  refine mw_istore cx (q := 5) (lv' := [(4, .int p2), (3, .int 0), (0, .ref (ad 12 0 0)), (1, .int p1), (2, .int p2)]) rfl (by decide) dX12_countFrom_3 rfl ?_
  refine mw_sub [0, 1, 2, 3] rfl ?_
  refine mw_loop (F := f12_countFrom_lp5 (M 12) p1) (I := fun (x1 : Int32 × Int32) => Nx12 (M 12) p1 x1.1) (μ := fun (x1 : Int32 × Int32) => mu12 (x1.1)) (Mx := fun (x1 : Int32 × Int32) => M) (px := 5) (lx := fun (x1 : Int32 × Int32) => [(4, .int x1.1), (3, .int x1.2), (0, .ref (ad 12 0 0)), (1, .int p1)]) (fun n2 x1 ivx1 ih => ?_) 123 (p2, 0) hN (mu12_le hN)
  have ivx1_0 := ivx1
  refine mw_eqS (f12_countFrom_lp5_s (M 12) p1 n2 x1) ?_
  refine mw_iload cx (q := 7) 0 rfl dX12_countFrom_5 rfl ?_
  refine mw_iconst cx (q := 8) (v := (-1)) dX12_countFrom_7 rfl rfl ?_
  refine mw_icmp_eq cx (tgt := 26) (q := 11) dX12_countFrom_8 (by decide) rfl (fun h3 => ?_) (fun h3 => ?_)
  · refine mw_iload_n cx (q := 27) 1 rfl rfl dX12_countFrom_26 rfl ?_
    exact mw_iret cx hr rfl dX12_countFrom_27
  · refine mw_bnd (fun v4 ev4 => ?_)
    refine mw_iinc cx (q := 14) (v := v4) (lv' := [(3, .int v4), (4, .int x1.1), (0, .ref (ad 12 0 0)), (1, .int p1)]) 1 rfl (by rw [ev4]; rfl) rfl (by decide) dX12_countFrom_11 rfl ?_
    refine mw_aload_n cx (q := 15) 2 rfl rfl dX12_countFrom_14 rfl ?_
    refine mw_iload_n cx (q := 16) 3 rfl rfl dX12_countFrom_15 rfl ?_
    refine mw_iload cx (q := 18) 1 rfl dX12_countFrom_16 rfl ?_
    refine mw_bnd (fun r5 er5 => ?_)
    refine mw_callV cx (q := 21) (d := 3) (As := [.int p1, .int x1.1]) (z := fip M r5) (st := []) (st1 := [.int r5]) (M' := M) (by rw [er5]; exact mc_X12_following l D ta ad M p1 x1.1 hok hp1 hT (ivx1_0.resolve_left h3)) cv_X12_201 rfl rfl rfl vi_12_0 ⟨Nat.le_of_ble_eq_true rfl, Nat.le_of_ble_eq_true rfl⟩ ⟨Nat.le_refl _, Nat.le_refl _⟩ (by simp [Value.category]) rfl rfl rfl dX12_countFrom_18 rfl ?_
    have qr50 : Nx12 (M 12) p1 r5 := (by rw [er5]; exact following_n hok hp1 hT (ivx1_0.resolve_left h3))
    refine mw_istore cx (q := 23) (lv' := [(4, .int r5), (3, .int v4), (0, .ref (ad 12 0 0)), (1, .int p1)]) rfl (by decide) dX12_countFrom_21 rfl ?_
    refine mw_goto cx (tgt := 5) dX12_countFrom_23 (by decide) ?_
    exact ih (r5, v4) qr50 (by rw [er5]; exact mu12_lt hok hp1 hT (ivx1_0.resolve_left (by assumption)))
def f12_isName (m : Cm) (p1 : Int32) (p2 : Int32) : Bool := if p2 = (-1) then false else bnd (f12_signAt m p1 p2) (fun (r2 : Int32) => bnd (f12_isLetter r2) (fun (r3 : Bool) => if r3 = true then true else false))
set_option maxHeartbeats 4000000 in
set_option maxRecDepth 100000 in
theorem mc_X12_isName (l : Launch) (D : va_G) (ta : wTa) (ad : wAd) (M : Wm) (p1 : Int32) (p2 : Int32) (hok : Ok12 (M 12)) (hp1 : vp_in p1 8) (hN : Nx12 (M 12) p1 p2) : MC l D ta ad yX12_isName cX12_isName 3 (some .boolean) 2 [.ref (ad 12 0 0), .int p1, .int p2] M (fzp M (f12_isName (M 12) p1 p2)) := by
  refine MC.of (fzp M) (f12_isName (M 12) p1 p2) rfl (by decide) (Nat.le_of_ble_eq_true rfl) (fun p e s m args below meth c cx hr => ?_)
  unfold f12_isName
  refine mw_sub (lv' := [(0, .ref (ad 12 0 0)), (1, .int p1), (2, .int p2)]) [0, 1, 2] rfl ?_
  refine mw_iload_n cx (q := 1) 2 rfl rfl dX12_isName_0 rfl ?_
  refine mw_iconst cx (q := 2) (v := (-1)) dX12_isName_1 rfl rfl ?_
  refine mw_icmp_eq cx (tgt := 21) (q := 5) dX12_isName_2 (by decide) rfl (fun h1 => ?_) (fun h1 => ?_)
  · refine mw_iconst cx (q := 22) (v := 0) dX12_isName_21 rfl rfl ?_
    exact mw_zret cx hr rfl rfl dX12_isName_22
  · refine mw_aload_n cx (q := 6) 0 rfl rfl dX12_isName_5 rfl ?_
    refine mw_iload_n cx (q := 7) 1 rfl rfl dX12_isName_6 rfl ?_
    refine mw_iload_n cx (q := 8) 2 rfl rfl dX12_isName_7 rfl ?_
    refine mw_bnd (fun r2 er2 => ?_)
    refine mw_callV cx (q := 11) (d := 0) (As := [.int p1, .int p2]) (z := fip M r2) (st := []) (st1 := [.int r2]) (M' := M) (by rw [er2]; exact mc_X12_signAt l D ta ad M p1 p2 hp1 hok (hN.resolve_left (by assumption)).1) cv_X12_184 rfl rfl rfl vi_12_0 ⟨Nat.le_of_ble_eq_true rfl, Nat.le_of_ble_eq_true rfl⟩ ⟨Nat.le_refl _, Nat.le_refl _⟩ (by simp [Value.category]) rfl rfl rfl dX12_isName_8 rfl ?_
    refine mw_bnd (fun r3 er3 => ?_)
    refine mw_callS cx (q := 14) (d := 1) (As := [.int r2]) (z := fzp M r3) (st := []) (st1 := [.int (b2i r3)]) (M' := M) (by rw [er3]; exact mc_X12_isLetter l D ta ad M r2) cv_X12_175 ⟨Nat.le_of_ble_eq_true rfl, Nat.le_of_ble_eq_true rfl⟩ ⟨Nat.le_refl _, Nat.le_refl _⟩ (by simp [Value.category]) rfl rfl rfl dX12_isName_11 rfl ?_
    have qr30 : r3 = true → 48 ≤ r2.toInt ∧ 97 ≤ r2.toInt ∧ r2.toInt ≤ 122 := (fun hq => isLetter_t (er3.symm.trans hq))
    refine mw_ifb_eq cx (tgt := 21) (q := 17) dX12_isName_14 (by decide) rfl (fun h4 => ?_) (fun h4 => ?_)
    · refine mw_iconst cx (q := 22) (v := 0) dX12_isName_21 rfl rfl ?_
      exact mw_zret cx hr rfl rfl dX12_isName_22
    · refine mw_iconst cx (q := 18) (v := 1) dX12_isName_17 rfl rfl ?_
      refine mw_goto cx (tgt := 22) dX12_isName_18 (by decide) ?_
      exact mw_zret cx hr rfl rfl dX12_isName_22
theorem isName_i {m : Cm} {s i : Int32} (hN : Nx12 m s i) (h : f12_isName m s i = true) : Ix12 m s i := by
  refine hN.resolve_left (fun z => ?_)
  unfold f12_isName at h
  rw [if_pos z] at h; cases h
def f12_nameAt_lp5 (m : Cm) (p1 : Int32) : Nat → (Int32 × Int32) → Int32
  | 0, x1 => 0
  | n2 + 1, x1 => bnd (f12_signAt m p1 x1.1) (fun (r3 : Int32) => bnd (f12_isLetter r3) (fun (r4 : Bool) => if r4 = true then bnd (f12_signAt m p1 x1.1) (fun (r6 : Int32) => bnd ((((27 * x1.2) + r6) - 96)) (fun (v7 : Int32) => bnd (x1.1 + 1) (fun (v8 : Int32) => f12_nameAt_lp5 m p1 n2 (v8, v7)))) else x1.2))
theorem f12_nameAt_lp5_s (m : Cm) (p1 : Int32) (n2 : Nat) (x1 : Int32 × Int32) : f12_nameAt_lp5 m p1 (n2 + 1) x1 = bnd (f12_signAt m p1 x1.1) (fun (r3 : Int32) => bnd (f12_isLetter r3) (fun (r4 : Bool) => if r4 = true then bnd (f12_signAt m p1 x1.1) (fun (r6 : Int32) => bnd ((((27 * x1.2) + r6) - 96)) (fun (v7 : Int32) => bnd (x1.1 + 1) (fun (v8 : Int32) => f12_nameAt_lp5 m p1 n2 (v8, v7)))) else x1.2)) := rfl
def f12_nameAt (m : Cm) (p1 : Int32) (p2 : Int32) : Int32 := f12_nameAt_lp5 m p1 123 (p2, 0)
set_option maxHeartbeats 4000000 in
set_option maxRecDepth 100000 in
theorem mc_X12_nameAt (l : Launch) (D : va_G) (ta : wTa) (ad : wAd) (M : Wm) (p1 : Int32) (p2 : Int32) (hok : Ok12 (M 12)) (hp1 : vp_in p1 8) (hI : Ix12 (M 12) p1 p2) : MC l D ta ad yX12_nameAt cX12_nameAt 5 (some .int) 2 [.ref (ad 12 0 0), .int p1, .int p2] M (fip M (f12_nameAt (M 12) p1 p2)) := by
  refine MC.of (fip M) (f12_nameAt (M 12) p1 p2) rfl (by decide) (Nat.le_of_ble_eq_true rfl) (fun p e s m args below meth c cx hr => ?_)
  unfold f12_nameAt
  refine mw_sub (lv' := [(0, .ref (ad 12 0 0)), (1, .int p1), (2, .int p2)]) [0, 1, 2] rfl ?_
  refine mw_iconst cx (q := 1) (v := 0) dX12_nameAt_0 rfl rfl ?_
  refine mw_istore_n cx (q := 2) (lv' := [(3, .int 0), (0, .ref (ad 12 0 0)), (1, .int p1), (2, .int p2)]) rfl rfl (by decide) dX12_nameAt_1 rfl ?_
  refine mw_iload_n cx (q := 3) 3 rfl rfl dX12_nameAt_2 rfl ?_
  refine mw_istore cx (q := 5) (lv' := [(4, .int p2), (3, .int 0), (0, .ref (ad 12 0 0)), (1, .int p1), (2, .int p2)]) rfl (by decide) dX12_nameAt_3 rfl ?_
  refine mw_sub [0, 1, 2, 3] rfl ?_
  refine mw_loop (F := f12_nameAt_lp5 (M 12) p1) (I := fun (x1 : Int32 × Int32) => (0 ≤ (x1.1).toInt) ∧ ((x1.1).toInt ≤ 121)) (μ := fun (x1 : Int32 × Int32) => (122 - (x1.1).toInt).toNat) (Mx := fun (x1 : Int32 × Int32) => M) (px := 5) (lx := fun (x1 : Int32 × Int32) => [(4, .int x1.1), (3, .int x1.2), (0, .ref (ad 12 0 0)), (1, .int p1)]) (fun n2 x1 ivx1 ih => ?_) 123 (p2, 0) ⟨(hI.1), (by have := hI.2; have := (hok.len p1 hp1).2; dsimp only; omega)⟩ (by have := hI.1; dsimp only; omega)
  obtain ⟨ivx1_0, ivx1_1⟩ := ivx1
  refine mw_eqS (f12_nameAt_lp5_s (M 12) p1 n2 x1) ?_
  refine mw_aload_n cx (q := 6) 2 rfl rfl dX12_nameAt_5 rfl ?_
  refine mw_iload_n cx (q := 7) 3 rfl rfl dX12_nameAt_6 rfl ?_
  refine mw_iload cx (q := 9) 0 rfl dX12_nameAt_7 rfl ?_
  refine mw_bnd (fun r3 er3 => ?_)
  refine mw_callV cx (q := 12) (d := 0) (As := [.int p1, .int x1.1]) (z := fip M r3) (st := []) (st1 := [.int r3]) (M' := M) (by rw [er3]; exact mc_X12_signAt l D ta ad M p1 x1.1 hp1 hok ivx1_0) cv_X12_184 rfl rfl rfl vi_12_0 ⟨Nat.le_of_ble_eq_true rfl, Nat.le_of_ble_eq_true rfl⟩ ⟨Nat.le_refl _, Nat.le_refl _⟩ (by simp [Value.category]) rfl rfl rfl dX12_nameAt_9 rfl ?_
  refine mw_bnd (fun r4 er4 => ?_)
  refine mw_callS cx (q := 15) (d := 1) (As := [.int r3]) (z := fzp M r4) (st := []) (st1 := [.int (b2i r4)]) (M' := M) (by rw [er4]; exact mc_X12_isLetter l D ta ad M r3) cv_X12_175 ⟨Nat.le_of_ble_eq_true rfl, Nat.le_of_ble_eq_true rfl⟩ ⟨Nat.le_refl _, Nat.le_refl _⟩ (by simp [Value.category]) rfl rfl rfl dX12_nameAt_12 rfl ?_
  have qr40 : r4 = true → 48 ≤ r3.toInt ∧ 97 ≤ r3.toInt ∧ r3.toInt ≤ 122 := (fun hq => isLetter_t (er4.symm.trans hq))
  have hq : r4 = true → (x1.1).toInt < ((M 12) 3 0 p1).toInt := (fun hz => signAt_t (by assumption) (isLetter_t (er4.symm.trans hz)).1)
  refine mw_ifb_eq cx (tgt := 40) (q := 18) dX12_nameAt_15 (by decide) rfl (fun h5 => ?_) (fun h5 => ?_)
  · refine mw_iload_n cx (q := 41) 1 rfl rfl dX12_nameAt_40 rfl ?_
    exact mw_iret cx hr rfl dX12_nameAt_41
  · refine mw_bipush cx (q := 20) (v := 27) dX12_nameAt_18 rfl rfl ?_
    refine mw_iload_n cx (q := 21) 1 rfl rfl dX12_nameAt_20 rfl ?_
    refine mw_imul cx (q := 22) dX12_nameAt_21 rfl ?_
    refine mw_aload_n cx (q := 23) 2 rfl rfl dX12_nameAt_22 rfl ?_
    refine mw_iload_n cx (q := 24) 3 rfl rfl dX12_nameAt_23 rfl ?_
    refine mw_iload cx (q := 26) 0 rfl dX12_nameAt_24 rfl ?_
    refine mw_bnd (fun r6 er6 => ?_)
    refine mw_callV cx (q := 29) (d := 0) (As := [.int p1, .int x1.1]) (z := fip M r6) (st := [.int (27 * x1.2)]) (st1 := [.int r6, .int (27 * x1.2)]) (M' := M) (by rw [er6]; exact mc_X12_signAt l D ta ad M p1 x1.1 hp1 hok ivx1_0) cv_X12_184 rfl rfl rfl vi_12_0 ⟨Nat.le_of_ble_eq_true rfl, Nat.le_of_ble_eq_true rfl⟩ ⟨Nat.le_refl _, Nat.le_refl _⟩ (by simp [Value.category]) rfl rfl rfl dX12_nameAt_26 rfl ?_
    refine mw_iadd cx (q := 30) dX12_nameAt_29 rfl ?_
    refine mw_bipush cx (q := 32) (v := 96) dX12_nameAt_30 rfl rfl ?_
    refine mw_isub cx (q := 33) dX12_nameAt_32 rfl ?_
    refine mw_bndT (fun v7 ev7 => ?_)
    refine mw_istore_n cx (q := 34) (lv' := [(3, .int v7), (4, .int x1.1), (0, .ref (ad 12 0 0)), (1, .int p1)]) rfl rfl (by decide) dX12_nameAt_33 rfl ?_
    refine mw_bnd (fun v8 ev8 => ?_)
    refine mw_iinc cx (q := 37) (v := v8) (lv' := [(4, .int v8), (3, .int v7), (0, .ref (ad 12 0 0)), (1, .int p1)]) 1 rfl (by rw [ev8]; rfl) rfl (by decide) dX12_nameAt_34 rfl ?_
    refine mw_goto cx (tgt := 5) dX12_nameAt_37 (by decide) ?_
    exact ih (v8, v7) ⟨(by have hz := hq h5; have hl := (hok.len p1 hp1).2; have hi := ivx1_0; rw [ev8, inc_t (by omega) (by omega)]; omega), (by have hz := hq h5; have hl := (hok.len p1 hp1).2; have hi := ivx1_0; rw [ev8, inc_t (by omega) (by omega)]; omega)⟩ (by have hz := hq h5; have hl := (hok.len p1 hp1).2; have hi := ivx1_0; rw [ev8, inc_t (by omega) (by omega)]; omega)
def f12_numberAt_lp34 (m : Cm) (p1 : Int32) (K9 : Int32 → Int32) : Nat → (Int32 × Int32) → Int32
  | 0, x8 => 0
  | n10 + 1, x8 => bnd (f12_signAt m p1 x8.1) (fun (r11 : Int32) => bnd (f12_isDigit r11) (fun (r12 : Bool) => if r12 = true then bnd (f12_signAt m p1 x8.1) (fun (r14 : Int32) => bnd ((((10 * x8.2) + r14) - 48)) (fun (v15 : Int32) => bnd (x8.1 + 1) (fun (v16 : Int32) => f12_numberAt_lp34 m p1 K9 n10 (v16, v15)))) else K9 x8.2))
theorem f12_numberAt_lp34_s (m : Cm) (p1 : Int32) (K9 : Int32 → Int32) (n10 : Nat) (x8 : Int32 × Int32) : f12_numberAt_lp34 m p1 K9 (n10 + 1) x8 = bnd (f12_signAt m p1 x8.1) (fun (r11 : Int32) => bnd (f12_isDigit r11) (fun (r12 : Bool) => if r12 = true then bnd (f12_signAt m p1 x8.1) (fun (r14 : Int32) => bnd ((((10 * x8.2) + r14) - 48)) (fun (v15 : Int32) => bnd (x8.1 + 1) (fun (v16 : Int32) => f12_numberAt_lp34 m p1 K9 n10 (v16, v15)))) else K9 x8.2)) := rfl
def f12_numberAt (m : Cm) (p1 : Int32) (p2 : Int32) : Int32 := bnd (f12_signAt m p1 p2) (fun (r1 : Int32) => jn (fun (v2 : Bool) => jn (fun (v5 : Int32) => jn (fun (y17 : Int32) => if v2 = true then (-y17) else y17) (fun K9 => f12_numberAt_lp34 m p1 K9 (123 + 0 * (p1).toInt.toNat) (v5, 0))) (fun K6 => if v2 = true then K6 (p2 + 1) else K6 p2)) (fun K3 => if r1 = 45 then K3 true else K3 false))
set_option maxHeartbeats 4000000 in
set_option maxRecDepth 100000 in
theorem mc_X12_numberAt (l : Launch) (D : va_G) (ta : wTa) (ad : wAd) (M : Wm) (p1 : Int32) (p2 : Int32) (hok : Ok12 (M 12)) (hp1 : vp_in p1 8) (hI : Ix12 (M 12) p1 p2) : MC l D ta ad yX12_numberAt cX12_numberAt 6 (some .int) 2 [.ref (ad 12 0 0), .int p1, .int p2] M (fip M (f12_numberAt (M 12) p1 p2)) := by
  refine MC.of (fip M) (f12_numberAt (M 12) p1 p2) rfl (by decide) (Nat.le_of_ble_eq_true rfl) (fun p e s m args below meth c cx hr => ?_)
  unfold f12_numberAt
  refine mw_sub (lv' := [(0, .ref (ad 12 0 0)), (1, .int p1), (2, .int p2)]) [0, 1, 2] rfl ?_
  refine mw_iconst cx (q := 1) (v := 0) dX12_numberAt_0 rfl rfl ?_
  refine mw_istore_n cx (q := 2) (lv' := [(3, .int 0), (0, .ref (ad 12 0 0)), (1, .int p1), (2, .int p2)]) rfl rfl (by decide) dX12_numberAt_1 rfl ?_
  refine mw_aload_n cx (q := 3) 1 rfl rfl dX12_numberAt_2 rfl ?_
  refine mw_iload_n cx (q := 4) 2 rfl rfl dX12_numberAt_3 rfl ?_
  refine mw_iload_n cx (q := 5) 3 rfl rfl dX12_numberAt_4 rfl ?_
  refine mw_bnd (fun r1 er1 => ?_)
  refine mw_callV cx (q := 8) (d := 0) (As := [.int p1, .int p2]) (z := fip M r1) (st := []) (st1 := [.int r1]) (M' := M) (by rw [er1]; exact mc_X12_signAt l D ta ad M p1 p2 hp1 hok (hI.1)) cv_X12_184 rfl rfl rfl vi_12_0 ⟨Nat.le_of_ble_eq_true rfl, Nat.le_of_ble_eq_true rfl⟩ ⟨Nat.le_refl _, Nat.le_refl _⟩ (by simp [Value.category]) rfl rfl rfl dX12_numberAt_5 rfl ?_
  refine mw_bipush cx (q := 10) (v := 45) dX12_numberAt_8 rfl rfl ?_
  refine mw_jn (Mj := fun (v2 : Bool) => M) (pj := 18) (lj := fun (v2 : Bool) => [(0, .ref (ad 12 0 0)), (1, .int p1), (2, .int p2), (3, .int 0)]) (sj := fun (v2 : Bool) => [.int (b2i v2)]) (fun v2 => ?_) (fun K3 hK3 => ?_)
  · refine mw_istore cx (q := 20) (lv' := [(4, .int (b2i v2)), (0, .ref (ad 12 0 0)), (1, .int p1), (2, .int p2), (3, .int 0)]) rfl (by decide) dX12_numberAt_18 rfl ?_
    refine mw_iload cx (q := 22) 0 rfl dX12_numberAt_20 rfl ?_
    refine mw_jnP (P := fun (v5 : Int32) => (0 ≤ (v5).toInt) ∧ ((v5).toInt ≤ 121)) (Mj := fun (v5 : Int32) => M) (pj := 32) (lj := fun (v5 : Int32) => [(0, .ref (ad 12 0 0)), (1, .int p1), (3, .int 0), (4, .int (b2i v2))]) (sj := fun (v5 : Int32) => [.int v5]) (fun v5 jv5 => ?_) (fun K6 hK6 => ?_)
    · obtain ⟨jv5_0, jv5_1⟩ := jv5
      refine mw_istore cx (q := 34) (lv' := [(5, .int v5), (0, .ref (ad 12 0 0)), (1, .int p1), (3, .int 0), (4, .int (b2i v2))]) rfl (by decide) dX12_numberAt_32 rfl ?_
      refine mw_jn (Mj := fun (y17 : Int32) => M) (pj := 69) (lj := fun (y17 : Int32) => [(3, .int y17), (4, .int (b2i v2))]) (sj := fun (y17 : Int32) => []) (fun y17 => ?_) (fun K9 hK9 => ?_)
      · refine mw_iload cx (q := 71) 1 rfl dX12_numberAt_69 rfl ?_
        refine mw_ifb_eq cx (tgt := 79) (q := 74) dX12_numberAt_71 (by decide) rfl (fun h18 => ?_) (fun h18 => ?_)
        · refine mw_iload_n cx (q := 80) 0 rfl rfl dX12_numberAt_79 rfl ?_
          exact mw_iret cx hr rfl dX12_numberAt_80
        · refine mw_iload_n cx (q := 75) 0 rfl rfl dX12_numberAt_74 rfl ?_
          refine mw_ineg cx (q := 76) dX12_numberAt_75 rfl ?_
          refine mw_goto cx (tgt := 80) dX12_numberAt_76 (by decide) ?_
          exact mw_iret cx hr rfl dX12_numberAt_80
      · refine mw_loop (F := f12_numberAt_lp34 (M 12) p1 K9) (I := fun (x8 : Int32 × Int32) => (0 ≤ (x8.1).toInt) ∧ ((x8.1).toInt ≤ 121)) (μ := fun (x8 : Int32 × Int32) => (122 - (x8.1).toInt).toNat) (Mx := fun (x8 : Int32 × Int32) => M) (px := 34) (lx := fun (x8 : Int32 × Int32) => [(5, .int x8.1), (0, .ref (ad 12 0 0)), (1, .int p1), (3, .int x8.2), (4, .int (b2i v2))]) (fun n10 x8 ivx8 ih => ?_) (123 + 0 * (p1).toInt.toNat) (v5, 0) ⟨jv5_0, jv5_1⟩ (by (try simp only [vp_in_iff, i32lt, i32le, i32eq, i32add, i32sub, i32mul, i32neg, t32_0, t32_8, t32_121, t32_122] at hp1 hI jv5_0 jv5_1 ⊢); omega)
        obtain ⟨ivx8_0, ivx8_1⟩ := ivx8
        refine mw_eqS (f12_numberAt_lp34_s (M 12) p1 K9 n10 x8) ?_
        refine mw_aload_n cx (q := 35) 1 rfl rfl dX12_numberAt_34 rfl ?_
        refine mw_iload_n cx (q := 36) 2 rfl rfl dX12_numberAt_35 rfl ?_
        refine mw_iload cx (q := 38) 0 rfl dX12_numberAt_36 rfl ?_
        refine mw_bnd (fun r11 er11 => ?_)
        refine mw_callV cx (q := 41) (d := 0) (As := [.int p1, .int x8.1]) (z := fip M r11) (st := []) (st1 := [.int r11]) (M' := M) (by rw [er11]; exact mc_X12_signAt l D ta ad M p1 x8.1 hp1 hok ivx8_0) cv_X12_184 rfl rfl rfl vi_12_0 ⟨Nat.le_of_ble_eq_true rfl, Nat.le_of_ble_eq_true rfl⟩ ⟨Nat.le_refl _, Nat.le_refl _⟩ (by simp [Value.category]) rfl rfl rfl dX12_numberAt_38 rfl ?_
        refine mw_bnd (fun r12 er12 => ?_)
        refine mw_callS cx (q := 44) (d := 1) (As := [.int r11]) (z := fzp M r12) (st := []) (st1 := [.int (b2i r12)]) (M' := M) (by rw [er12]; exact mc_X12_isDigit l D ta ad M r11) cv_X12_171 ⟨Nat.le_of_ble_eq_true rfl, Nat.le_of_ble_eq_true rfl⟩ ⟨Nat.le_refl _, Nat.le_refl _⟩ (by simp [Value.category]) rfl rfl rfl dX12_numberAt_41 rfl ?_
        have qr120 : r12 = true → 48 ≤ r11.toInt ∧ r11.toInt ≤ 57 := (fun hq => isDigit_t (er12.symm.trans hq))
        have hq : r12 = true → (x8.1).toInt < ((M 12) 3 0 p1).toInt := (fun hz => signAt_t (by assumption) (isDigit_t (er12.symm.trans hz)).1)
        refine mw_ifb_eq cx (tgt := 69) (q := 47) dX12_numberAt_44 (by decide) rfl (fun h13 => ?_) (fun h13 => ?_)
        · refine mw_sub [3, 4] rfl ?_
          exact hK9 x8.2
        · refine mw_bipush cx (q := 49) (v := 10) dX12_numberAt_47 rfl rfl ?_
          refine mw_iload_n cx (q := 50) 3 rfl rfl dX12_numberAt_49 rfl ?_
          refine mw_imul cx (q := 51) dX12_numberAt_50 rfl ?_
          refine mw_aload_n cx (q := 52) 1 rfl rfl dX12_numberAt_51 rfl ?_
          refine mw_iload_n cx (q := 53) 2 rfl rfl dX12_numberAt_52 rfl ?_
          refine mw_iload cx (q := 55) 0 rfl dX12_numberAt_53 rfl ?_
          refine mw_bnd (fun r14 er14 => ?_)
          refine mw_callV cx (q := 58) (d := 0) (As := [.int p1, .int x8.1]) (z := fip M r14) (st := [.int (10 * x8.2)]) (st1 := [.int r14, .int (10 * x8.2)]) (M' := M) (by rw [er14]; exact mc_X12_signAt l D ta ad M p1 x8.1 hp1 hok ivx8_0) cv_X12_184 rfl rfl rfl vi_12_0 ⟨Nat.le_of_ble_eq_true rfl, Nat.le_of_ble_eq_true rfl⟩ ⟨Nat.le_refl _, Nat.le_refl _⟩ (by simp [Value.category]) rfl rfl rfl dX12_numberAt_55 rfl ?_
          refine mw_iadd cx (q := 59) dX12_numberAt_58 rfl ?_
          refine mw_bipush cx (q := 61) (v := 48) dX12_numberAt_59 rfl rfl ?_
          refine mw_isub cx (q := 62) dX12_numberAt_61 rfl ?_
          refine mw_bndT (fun v15 ev15 => ?_)
          refine mw_istore_n cx (q := 63) (lv' := [(3, .int v15), (5, .int x8.1), (0, .ref (ad 12 0 0)), (1, .int p1), (4, .int (b2i v2))]) rfl rfl (by decide) dX12_numberAt_62 rfl ?_
          refine mw_bnd (fun v16 ev16 => ?_)
          refine mw_iinc cx (q := 66) (v := v16) (lv' := [(5, .int v16), (3, .int v15), (0, .ref (ad 12 0 0)), (1, .int p1), (4, .int (b2i v2))]) 1 rfl (by rw [ev16]; rfl) rfl (by decide) dX12_numberAt_63 rfl ?_
          refine mw_goto cx (tgt := 34) dX12_numberAt_66 (by decide) ?_
          refine mw_sub [0, 2, 3, 1, 4] rfl ?_
          exact ih (v16, v15) ⟨(by have hz := hq h13; have hl := (hok.len p1 hp1).2; have hi := ivx8_0; rw [ev16, inc_t (by omega) (by omega)]; omega), (by have hz := hq h13; have hl := (hok.len p1 hp1).2; have hi := ivx8_0; rw [ev16, inc_t (by omega) (by omega)]; omega)⟩ (by have hz := hq h13; have hl := (hok.len p1 hp1).2; have hi := ivx8_0; rw [ev16, inc_t (by omega) (by omega)]; omega)
    · refine mw_ifb_eq cx (tgt := 31) (q := 25) dX12_numberAt_22 (by decide) rfl (fun h7 => ?_) (fun h7 => ?_)
      · refine mw_iload_n cx (q := 32) 3 rfl rfl dX12_numberAt_31 rfl ?_
        refine mw_sub [1, 2, 4, 0] rfl ?_
        exact hK6 p2 ⟨(by have h0 := hI.1; have h1 := hI.2; have hl := (hok.len p1 hp1).2; first | omega | (rw [inc_t (by omega) (by omega)]; omega)), (by have h0 := hI.1; have h1 := hI.2; have hl := (hok.len p1 hp1).2; first | omega | (rw [inc_t (by omega) (by omega)]; omega))⟩
      · refine mw_iload_n cx (q := 26) 3 rfl rfl dX12_numberAt_25 rfl ?_
        refine mw_iconst cx (q := 27) (v := 1) dX12_numberAt_26 rfl rfl ?_
        refine mw_iadd cx (q := 28) dX12_numberAt_27 rfl ?_
        refine mw_goto cx (tgt := 32) dX12_numberAt_28 (by decide) ?_
        refine mw_sub [1, 2, 4, 0] rfl ?_
        exact hK6 (p2 + 1) ⟨(by have h0 := hI.1; have h1 := hI.2; have hl := (hok.len p1 hp1).2; first | omega | (rw [inc_t (by omega) (by omega)]; omega)), (by have h0 := hI.1; have h1 := hI.2; have hl := (hok.len p1 hp1).2; first | omega | (rw [inc_t (by omega) (by omega)]; omega))⟩
  · refine mw_icmp_ne cx (tgt := 17) (q := 13) dX12_numberAt_10 (by decide) rfl (fun h4 => ?_) (fun h4 => ?_)
    · refine mw_iconst cx (q := 18) (v := 0) dX12_numberAt_17 rfl rfl ?_
      refine mw_sub [1, 2, 3, 0] rfl ?_
      exact hK3 false
    · refine mw_iconst cx (q := 14) (v := 1) dX12_numberAt_13 rfl rfl ?_
      refine mw_goto cx (tgt := 18) dX12_numberAt_14 (by decide) ?_
      refine mw_sub [1, 2, 3, 0] rfl ?_
      exact hK3 true
def f12_goodAt (m : Cm) (p1 : Int32) (p2 : Int32) : Int32 := bnd (f12_isName m p1 p2) (fun (r1 : Bool) => jn (fun (v2 : Int32) => bnd (f12_in v2 1 8) (fun (r6 : Bool) => if r6 = true then (v2 - 1) else (-1))) (fun K3 => if r1 = true then bnd (f12_nameAt m p1 p2) (fun (r5 : Int32) => K3 r5) else K3 0))
set_option maxHeartbeats 4000000 in
set_option maxRecDepth 100000 in
theorem mc_X12_goodAt (l : Launch) (D : va_G) (ta : wTa) (ad : wAd) (M : Wm) (p1 : Int32) (p2 : Int32) (hok : Ok12 (M 12)) (hp1 : vp_in p1 8) (hN : Nx12 (M 12) p1 p2) : MC l D ta ad yX12_goodAt cX12_goodAt 4 (some .int) 3 [.ref (ad 12 0 0), .int p1, .int p2] M (fip M (f12_goodAt (M 12) p1 p2)) := by
  refine MC.of (fip M) (f12_goodAt (M 12) p1 p2) rfl (by decide) (Nat.le_of_ble_eq_true rfl) (fun p e s m args below meth c cx hr => ?_)
  unfold f12_goodAt
  refine mw_sub (lv' := [(0, .ref (ad 12 0 0)), (1, .int p1), (2, .int p2)]) [0, 1, 2] rfl ?_
  refine mw_aload_n cx (q := 1) 0 rfl rfl dX12_goodAt_0 rfl ?_
  refine mw_iload_n cx (q := 2) 1 rfl rfl dX12_goodAt_1 rfl ?_
  refine mw_iload_n cx (q := 3) 2 rfl rfl dX12_goodAt_2 rfl ?_
  refine mw_bnd (fun r1 er1 => ?_)
  refine mw_callV cx (q := 6) (d := 2) (As := [.int p1, .int p2]) (z := fzp M r1) (st := []) (st1 := [.int (b2i r1)]) (M' := M) (by rw [er1]; exact mc_X12_isName l D ta ad M p1 p2 hok hp1 hN) cv_X12_207 rfl rfl rfl vi_12_0 ⟨Nat.le_of_ble_eq_true rfl, Nat.le_of_ble_eq_true rfl⟩ ⟨Nat.le_refl _, Nat.le_refl _⟩ (by simp [Value.category]) rfl rfl rfl dX12_goodAt_3 rfl ?_
  have qr10 : r1 = true → Ix12 (M 12) p1 p2 := (fun hq => isName_i hN (er1.symm.trans hq))
  refine mw_jn (Mj := fun (v2 : Int32) => M) (pj := 19) (lj := fun (v2 : Int32) => []) (sj := fun (v2 : Int32) => [.int v2]) (fun v2 => ?_) (fun K3 hK3 => ?_)
  · refine mw_istore_n cx (q := 20) (lv' := [(3, .int v2)]) rfl rfl (by decide) dX12_goodAt_19 rfl ?_
    refine mw_iload_n cx (q := 21) 0 rfl rfl dX12_goodAt_20 rfl ?_
    refine mw_iconst cx (q := 22) (v := 1) dX12_goodAt_21 rfl rfl ?_
    refine mw_bipush cx (q := 24) (v := 8) dX12_goodAt_22 rfl rfl ?_
    refine mw_bnd (fun r6 er6 => ?_)
    refine mw_callS cx (q := 27) (d := 0) (As := [.int v2, .int 1, .int 8]) (z := fzp M r6) (st := []) (st1 := [.int (b2i r6)]) (M' := M) (by rw [er6]; exact mc_X12_in l D ta ad M v2 1 8) cv_X12_167 ⟨Nat.le_of_ble_eq_true rfl, Nat.le_of_ble_eq_true rfl⟩ ⟨Nat.le_refl _, Nat.le_refl _⟩ (by simp [Value.category]) rfl rfl rfl dX12_goodAt_24 rfl ?_
    have qr60 : r6 = true → 1 ≤ v2.toInt ∧ v2.toInt ≤ 8 := (fun hq => in_i (er6.symm.trans hq))
    refine mw_ifb_eq cx (tgt := 36) (q := 30) dX12_goodAt_27 (by decide) rfl (fun h7 => ?_) (fun h7 => ?_)
    · refine mw_iconst cx (q := 37) (v := (-1)) dX12_goodAt_36 rfl rfl ?_
      exact mw_iret cx hr rfl dX12_goodAt_37
    · refine mw_iload_n cx (q := 31) 0 rfl rfl dX12_goodAt_30 rfl ?_
      refine mw_iconst cx (q := 32) (v := 1) dX12_goodAt_31 rfl rfl ?_
      refine mw_isub cx (q := 33) dX12_goodAt_32 rfl ?_
      refine mw_goto cx (tgt := 37) dX12_goodAt_33 (by decide) ?_
      exact mw_iret cx hr rfl dX12_goodAt_37
  · refine mw_ifb_eq cx (tgt := 18) (q := 9) dX12_goodAt_6 (by decide) rfl (fun h4 => ?_) (fun h4 => ?_)
    · refine mw_iconst cx (q := 19) (v := 0) dX12_goodAt_18 rfl rfl ?_
      refine mw_sub [] rfl ?_
      exact hK3 0
    · refine mw_aload_n cx (q := 10) 0 rfl rfl dX12_goodAt_9 rfl ?_
      refine mw_iload_n cx (q := 11) 1 rfl rfl dX12_goodAt_10 rfl ?_
      refine mw_iload_n cx (q := 12) 2 rfl rfl dX12_goodAt_11 rfl ?_
      refine mw_bnd (fun r5 er5 => ?_)
      refine mw_callV cx (q := 15) (d := 2) (As := [.int p1, .int p2]) (z := fip M r5) (st := []) (st1 := [.int r5]) (M' := M) (by rw [er5]; exact mc_X12_nameAt l D ta ad M p1 p2 hok hp1 (qr10 h4)) cv_X12_211 rfl rfl rfl vi_12_0 ⟨Nat.le_of_ble_eq_true rfl, Nat.le_of_ble_eq_true rfl⟩ ⟨Nat.le_refl _, Nat.le_refl _⟩ (by simp [Value.category]) rfl rfl rfl dX12_goodAt_12 rfl ?_
      refine mw_goto cx (tgt := 19) dX12_goodAt_15 (by decide) ?_
      refine mw_sub [] rfl ?_
      exact hK3 r5
theorem goodAt_in {m : Cm} {s i : Int32} (h : ¬ f12_goodAt m s i = -1) : vp_in (f12_goodAt m s i) 8 := by
  have key : oIn 8 (f12_goodAt m s i) := by
    unfold f12_goodAt
    refine bnd_I (P := oIn 8) (fun r e => jn_I (P := oIn 8) (fun K hK => ?_) (fun v => bnd_I (P := oIn 8) (fun q eq => ?_)))
    · split
      · exact bnd_I (P := oIn 8) (fun x ex => hK x)
      · exact hK 0
    · by_cases c : q = true
      · rw [if_pos c]
        have hi := in_i (eq.symm.trans c)
        simp only [t32_1, t32_8] at hi
        exact Or.inr (by rw [vp_in_iff, i32subn (by rw [t32_1]; omega) (by rw [t32_1]; omega), t32_1]; omega)
      · rw [if_neg c]; exact Or.inl rfl
  exact key.ix h
def f12_read (p1 : Int32) (p2 : Int32) : Int32 := bnd (f12_isDigit p1) (fun (r1 : Bool) => if r1 = true then if 2 ≤ p2 then if 8 ≤ p2 then (-1) else (p2 + 1) else 3 else bnd (f12_isLetter p1) (fun (r3 : Bool) => if r3 = true then if p2 = 0 then 11 else if p2 ≤ 10 then (-1) else if 16 ≤ p2 then (-1) else (p2 + 1) else if p1 = 45 then if p2 = 0 then 1 else (-1) else if p2 = 1 then (-1) else 0))
set_option maxHeartbeats 4000000 in
set_option maxRecDepth 100000 in
theorem mc_X12_read (l : Launch) (D : va_G) (ta : wTa) (ad : wAd) (M : Wm) (p1 : Int32) (p2 : Int32) : MC l D ta ad yX12_read cX12_read 2 (some .int) 2 [.int p1, .int p2] M (fip M (f12_read p1 p2)) := by
  refine MC.of (fip M) (f12_read p1 p2) rfl (by decide) (Nat.le_of_ble_eq_true rfl) (fun p e s m args below meth c cx hr => ?_)
  unfold f12_read
  refine mw_sub (lv' := [(0, .int p1), (1, .int p2)]) [0, 1] rfl ?_
  refine mw_iload_n cx (q := 1) 0 rfl rfl dX12_read_0 rfl ?_
  refine mw_bnd (fun r1 er1 => ?_)
  refine mw_callS cx (q := 4) (d := 1) (As := [.int p1]) (z := fzp M r1) (st := []) (st1 := [.int (b2i r1)]) (M' := M) (by rw [er1]; exact mc_X12_isDigit l D ta ad M p1) cv_X12_171 ⟨Nat.le_of_ble_eq_true rfl, Nat.le_of_ble_eq_true rfl⟩ ⟨Nat.le_refl _, Nat.le_refl _⟩ (by simp [Value.category]) rfl rfl rfl dX12_read_1 rfl ?_
  have qr10 : r1 = true → 48 ≤ p1.toInt ∧ p1.toInt ≤ 57 := (fun hq => isDigit_t (er1.symm.trans hq))
  refine mw_ifb_eq cx (tgt := 30) (q := 7) dX12_read_4 (by decide) rfl (fun h2 => ?_) (fun h2 => ?_)
  · refine mw_iload_n cx (q := 31) 0 rfl rfl dX12_read_30 rfl ?_
    refine mw_bnd (fun r3 er3 => ?_)
    refine mw_callS cx (q := 34) (d := 1) (As := [.int p1]) (z := fzp M r3) (st := []) (st1 := [.int (b2i r3)]) (M' := M) (by rw [er3]; exact mc_X12_isLetter l D ta ad M p1) cv_X12_175 ⟨Nat.le_of_ble_eq_true rfl, Nat.le_of_ble_eq_true rfl⟩ ⟨Nat.le_refl _, Nat.le_refl _⟩ (by simp [Value.category]) rfl rfl rfl dX12_read_31 rfl ?_
    have qr30 : r3 = true → 48 ≤ p1.toInt ∧ 97 ≤ p1.toInt ∧ p1.toInt ≤ 122 := (fun hq => isLetter_t (er3.symm.trans hq))
    refine mw_ifb_eq cx (tgt := 66) (q := 37) dX12_read_34 (by decide) rfl (fun h4 => ?_) (fun h4 => ?_)
    · refine mw_iload_n cx (q := 67) 0 rfl rfl dX12_read_66 rfl ?_
      refine mw_bipush cx (q := 69) (v := 45) dX12_read_67 rfl rfl ?_
      refine mw_icmp_ne cx (tgt := 82) (q := 72) dX12_read_69 (by decide) rfl (fun h5 => ?_) (fun h5 => ?_)
      · refine mw_iload_n cx (q := 83) 1 rfl rfl dX12_read_82 rfl ?_
        refine mw_iconst cx (q := 84) (v := 1) dX12_read_83 rfl rfl ?_
        refine mw_icmp_ne cx (tgt := 91) (q := 87) dX12_read_84 (by decide) rfl (fun h6 => ?_) (fun h6 => ?_)
        · refine mw_iconst cx (q := 92) (v := 0) dX12_read_91 rfl rfl ?_
          exact mw_iret cx hr rfl dX12_read_92
        · refine mw_iconst cx (q := 88) (v := (-1)) dX12_read_87 rfl rfl ?_
          refine mw_goto cx (tgt := 92) dX12_read_88 (by decide) ?_
          exact mw_iret cx hr rfl dX12_read_92
      · refine mw_iload_n cx (q := 73) 1 rfl rfl dX12_read_72 rfl ?_
        refine mw_if_ne cx (tgt := 80) (q := 76) dX12_read_73 (by decide) rfl (fun h7 => ?_) (fun h7 => ?_)
        · refine mw_iconst cx (q := 81) (v := (-1)) dX12_read_80 rfl rfl ?_
          exact mw_iret cx hr rfl dX12_read_81
        · refine mw_iconst cx (q := 77) (v := 1) dX12_read_76 rfl rfl ?_
          refine mw_goto cx (tgt := 81) dX12_read_77 (by decide) ?_
          exact mw_iret cx hr rfl dX12_read_81
    · refine mw_iload_n cx (q := 38) 1 rfl rfl dX12_read_37 rfl ?_
      refine mw_if_ne cx (tgt := 46) (q := 41) dX12_read_38 (by decide) rfl (fun h8 => ?_) (fun h8 => ?_)
      · refine mw_iload_n cx (q := 47) 1 rfl rfl dX12_read_46 rfl ?_
        refine mw_bipush cx (q := 49) (v := 10) dX12_read_47 rfl rfl ?_
        refine mw_icmp_le cx (tgt := 64) (q := 52) dX12_read_49 (by decide) rfl (fun h9 => ?_) (fun h9 => ?_)
        · refine mw_iconst cx (q := 65) (v := (-1)) dX12_read_64 rfl rfl ?_
          exact mw_iret cx hr rfl dX12_read_65
        · refine mw_iload_n cx (q := 53) 1 rfl rfl dX12_read_52 rfl ?_
          refine mw_bipush cx (q := 55) (v := 16) dX12_read_53 rfl rfl ?_
          refine mw_icmp_ge cx (tgt := 64) (q := 58) dX12_read_55 (by decide) rfl (fun h10 => ?_) (fun h10 => ?_)
          · refine mw_iconst cx (q := 65) (v := (-1)) dX12_read_64 rfl rfl ?_
            exact mw_iret cx hr rfl dX12_read_65
          · refine mw_iload_n cx (q := 59) 1 rfl rfl dX12_read_58 rfl ?_
            refine mw_iconst cx (q := 60) (v := 1) dX12_read_59 rfl rfl ?_
            refine mw_iadd cx (q := 61) dX12_read_60 rfl ?_
            refine mw_goto cx (tgt := 65) dX12_read_61 (by decide) ?_
            exact mw_iret cx hr rfl dX12_read_65
      · refine mw_bipush cx (q := 43) (v := 11) dX12_read_41 rfl rfl ?_
        refine mw_goto cx (tgt := 65) dX12_read_43 (by decide) ?_
        exact mw_iret cx hr rfl dX12_read_65
  · refine mw_iload_n cx (q := 8) 1 rfl rfl dX12_read_7 rfl ?_
    refine mw_iconst cx (q := 9) (v := 2) dX12_read_8 rfl rfl ?_
    refine mw_icmp_ge cx (tgt := 16) (q := 12) dX12_read_9 (by decide) rfl (fun h11 => ?_) (fun h11 => ?_)
    · refine mw_iload_n cx (q := 17) 1 rfl rfl dX12_read_16 rfl ?_
      refine mw_bipush cx (q := 19) (v := 8) dX12_read_17 rfl rfl ?_
      refine mw_icmp_ge cx (tgt := 28) (q := 22) dX12_read_19 (by decide) rfl (fun h12 => ?_) (fun h12 => ?_)
      · refine mw_iconst cx (q := 29) (v := (-1)) dX12_read_28 rfl rfl ?_
        exact mw_iret cx hr rfl dX12_read_29
      · refine mw_iload_n cx (q := 23) 1 rfl rfl dX12_read_22 rfl ?_
        refine mw_iconst cx (q := 24) (v := 1) dX12_read_23 rfl rfl ?_
        refine mw_iadd cx (q := 25) dX12_read_24 rfl ?_
        refine mw_goto cx (tgt := 29) dX12_read_25 (by decide) ?_
        exact mw_iret cx hr rfl dX12_read_29
    · refine mw_iconst cx (q := 13) (v := 3) dX12_read_12 rfl rfl ?_
      refine mw_goto cx (tgt := 29) dX12_read_13 (by decide) ?_
      exact mw_iret cx hr rfl dX12_read_29
def f12_faultOf_lp7 (m : Cm) (p1 : Int32) (K2 : (Int32 × Int32) → Int32) : Nat → (Int32 × Int32 × Int32) → Int32
  | 0, x1 => 0
  | n3 + 1, x1 => if (m 3 0 p1) ≤ x1.1 then K2 (x1.2.2, x1.2.1) else bnd (f12_signAt m p1 x1.1) (fun (r5 : Int32) => bnd (f12_read r5 x1.2.1) (fun (r6 : Int32) => jn (fun (v7 : Int32) => bnd ((x1.2.2 + v7)) (fun (v11 : Int32) => if r6 = (-1) then x1.1 else if v11 < 0 then x1.1 else if v11 ≤ 20 then bnd (x1.1 + 1) (fun (v15 : Int32) => f12_faultOf_lp7 m p1 K2 n3 (v15, r6, v11)) else x1.1)) (fun K8 => if r5 = 40 then K8 1 else if r5 = 41 then K8 (-1) else K8 0)))
theorem f12_faultOf_lp7_s (m : Cm) (p1 : Int32) (K2 : (Int32 × Int32) → Int32) (n3 : Nat) (x1 : Int32 × Int32 × Int32) : f12_faultOf_lp7 m p1 K2 (n3 + 1) x1 = if (m 3 0 p1) ≤ x1.1 then K2 (x1.2.2, x1.2.1) else bnd (f12_signAt m p1 x1.1) (fun (r5 : Int32) => bnd (f12_read r5 x1.2.1) (fun (r6 : Int32) => jn (fun (v7 : Int32) => bnd ((x1.2.2 + v7)) (fun (v11 : Int32) => if r6 = (-1) then x1.1 else if v11 < 0 then x1.1 else if v11 ≤ 20 then bnd (x1.1 + 1) (fun (v15 : Int32) => f12_faultOf_lp7 m p1 K2 n3 (v15, r6, v11)) else x1.1)) (fun K8 => if r5 = 40 then K8 1 else if r5 = 41 then K8 (-1) else K8 0))) := rfl
def f12_faultOf (m : Cm) (p1 : Int32) : Int32 := jn (fun (y16 : Int32 × Int32) => if 0 < y16.1 then (m 3 0 p1) else if y16.2 = 1 then (m 3 0 p1) else (-1)) (fun K2 => f12_faultOf_lp7 m p1 K2 122 (0, 0, 0))
set_option maxHeartbeats 4000000 in
set_option maxRecDepth 100000 in
theorem mc_X12_faultOf (l : Launch) (D : va_G) (ta : wTa) (ad : wAd) (M : Wm) (p1 : Int32) (hok : Ok12 (M 12)) (hp1 : vp_in p1 8) : MC l D ta ad yX12_faultOf cX12_faultOf 6 (some .int) 3 [.ref (ad 12 0 0), .int p1] M (fip M (f12_faultOf (M 12) p1)) := by
  refine MC.of (fip M) (f12_faultOf (M 12) p1) rfl (by decide) (Nat.le_of_ble_eq_true rfl) (fun p e s m args below meth c cx hr => ?_)
  unfold f12_faultOf
  refine mw_sub (lv' := [(0, .ref (ad 12 0 0)), (1, .int p1)]) [0, 1] rfl ?_
  refine mw_iconst cx (q := 1) (v := 0) dX12_faultOf_0 rfl rfl ?_
  refine mw_istore_n cx (q := 2) (lv' := [(2, .int 0), (0, .ref (ad 12 0 0)), (1, .int p1)]) rfl rfl (by decide) dX12_faultOf_1 rfl ?_
  refine mw_iconst cx (q := 3) (v := 0) dX12_faultOf_2 rfl rfl ?_
  refine mw_istore_n cx (q := 4) (lv' := [(3, .int 0), (2, .int 0), (0, .ref (ad 12 0 0)), (1, .int p1)]) rfl rfl (by decide) dX12_faultOf_3 rfl ?_
  refine mw_iconst cx (q := 5) (v := 0) dX12_faultOf_4 rfl rfl ?_
  refine mw_istore cx (q := 7) (lv' := [(4, .int 0), (3, .int 0), (2, .int 0), (0, .ref (ad 12 0 0)), (1, .int p1)]) rfl (by decide) dX12_faultOf_5 rfl ?_
  refine mw_jn (Mj := fun (y16 : Int32 × Int32) => M) (pj := 84) (lj := fun (y16 : Int32 × Int32) => [(3, .int y16.2), (2, .int y16.1), (0, .ref (ad 12 0 0)), (1, .int p1)]) (sj := fun (y16 : Int32 × Int32) => []) (fun y16 => ?_) (fun K2 hK2 => ?_)
  · refine mw_iload_n cx (q := 85) 1 rfl rfl dX12_faultOf_84 rfl ?_
    refine mw_if_gt cx (tgt := 93) (q := 88) dX12_faultOf_85 (by decide) rfl (fun h17 => ?_) (fun h17 => ?_)
    · refine mw_aload_n cx (q := 94) 2 rfl rfl dX12_faultOf_93 rfl ?_
      refine mw_get cx (q := 97) (v := .ref (ad 12 3 0)) gf_X12_13 rfl rfl vi_12_0 dX12_faultOf_94 rfl ?_
      refine mw_iload_n cx (q := 98) 3 rfl rfl dX12_faultOf_97 rfl ?_
      refine mw_iald cx (q := 99) (w := ((M 12) 3 0 p1)) rfl (fun _ => rfl) vi_12_3 hp1 dX12_faultOf_98 rfl ?_
      refine mw_goto cx (tgt := 103) dX12_faultOf_99 (by decide) ?_
      exact mw_iret cx hr rfl dX12_faultOf_103
    · refine mw_iload_n cx (q := 89) 0 rfl rfl dX12_faultOf_88 rfl ?_
      refine mw_iconst cx (q := 90) (v := 1) dX12_faultOf_89 rfl rfl ?_
      refine mw_icmp_ne cx (tgt := 102) (q := 93) dX12_faultOf_90 (by decide) rfl (fun h18 => ?_) (fun h18 => ?_)
      · refine mw_iconst cx (q := 103) (v := (-1)) dX12_faultOf_102 rfl rfl ?_
        exact mw_iret cx hr rfl dX12_faultOf_103
      · refine mw_aload_n cx (q := 94) 2 rfl rfl dX12_faultOf_93 rfl ?_
        refine mw_get cx (q := 97) (v := .ref (ad 12 3 0)) gf_X12_13 rfl rfl vi_12_0 dX12_faultOf_94 rfl ?_
        refine mw_iload_n cx (q := 98) 3 rfl rfl dX12_faultOf_97 rfl ?_
        refine mw_iald cx (q := 99) (w := ((M 12) 3 0 p1)) rfl (fun _ => rfl) vi_12_3 hp1 dX12_faultOf_98 rfl ?_
        refine mw_goto cx (tgt := 103) dX12_faultOf_99 (by decide) ?_
        exact mw_iret cx hr rfl dX12_faultOf_103
  · refine mw_loop (F := f12_faultOf_lp7 (M 12) p1 K2) (I := fun (x1 : Int32 × Int32 × Int32) => 0 ≤ (x1.1).toInt) (μ := fun (x1 : Int32 × Int32 × Int32) => (121 - (x1.1).toInt).toNat) (Mx := fun (x1 : Int32 × Int32 × Int32) => M) (px := 7) (lx := fun (x1 : Int32 × Int32 × Int32) => [(4, .int x1.1), (3, .int x1.2.1), (2, .int x1.2.2), (0, .ref (ad 12 0 0)), (1, .int p1)]) (fun n3 x1 ivx1 ih => ?_) 122 (0, 0, 0) (by (try simp only [vp_in_iff, i32lt, i32le, i32eq, i32add, i32sub, i32mul, i32neg, t32_0]); omega) (by (try simp only [vp_in_iff, i32lt, i32le, i32eq, i32add, i32sub, i32mul, i32neg, t32_0, t32_121, t32_122]); omega)
    have ivx1_0 := ivx1
    refine mw_eqS (f12_faultOf_lp7_s (M 12) p1 K2 n3 x1) ?_
    refine mw_iload cx (q := 9) 0 rfl dX12_faultOf_7 rfl ?_
    refine mw_aload_n cx (q := 10) 3 rfl rfl dX12_faultOf_9 rfl ?_
    refine mw_get cx (q := 13) (v := .ref (ad 12 3 0)) gf_X12_13 rfl rfl vi_12_0 dX12_faultOf_10 rfl ?_
    refine mw_iload_n cx (q := 14) 4 rfl rfl dX12_faultOf_13 rfl ?_
    refine mw_iald cx (q := 15) (w := ((M 12) 3 0 p1)) rfl (fun _ => rfl) vi_12_3 hp1 dX12_faultOf_14 rfl ?_
    refine mw_icmp_ge cx (tgt := 84) (q := 18) dX12_faultOf_15 (by decide) rfl (fun h4 => ?_) (fun h4 => ?_)
    · refine mw_sub [1, 2, 3, 4] rfl ?_
      exact hK2 (x1.2.2, x1.2.1)
    · refine mw_aload_n cx (q := 19) 3 rfl rfl dX12_faultOf_18 rfl ?_
      refine mw_iload_n cx (q := 20) 4 rfl rfl dX12_faultOf_19 rfl ?_
      refine mw_iload cx (q := 22) 0 rfl dX12_faultOf_20 rfl ?_
      refine mw_bnd (fun r5 er5 => ?_)
      refine mw_callV cx (q := 25) (d := 0) (As := [.int p1, .int x1.1]) (z := fip M r5) (st := []) (st1 := [.int r5]) (M' := M) (by rw [er5]; exact mc_X12_signAt l D ta ad M p1 x1.1 hp1 hok ivx1_0) cv_X12_184 rfl rfl rfl vi_12_0 ⟨Nat.le_of_ble_eq_true rfl, Nat.le_of_ble_eq_true rfl⟩ ⟨Nat.le_refl _, Nat.le_refl _⟩ (by simp [Value.category]) rfl rfl rfl dX12_faultOf_22 rfl ?_
      refine mw_istore cx (q := 27) (lv' := [(5, .int r5), (4, .int x1.1), (3, .int x1.2.1), (2, .int x1.2.2), (0, .ref (ad 12 0 0)), (1, .int p1)]) rfl (by decide) dX12_faultOf_25 rfl ?_
      refine mw_iload cx (q := 29) 0 rfl dX12_faultOf_27 rfl ?_
      refine mw_iload_n cx (q := 30) 2 rfl rfl dX12_faultOf_29 rfl ?_
      refine mw_bnd (fun r6 er6 => ?_)
      refine mw_callS cx (q := 33) (d := 2) (As := [.int r5, .int x1.2.1]) (z := fip M r6) (st := []) (st1 := [.int r6]) (M' := M) (by rw [er6]; exact mc_X12_read l D ta ad M r5 x1.2.1) cv_X12_188 ⟨Nat.le_of_ble_eq_true rfl, Nat.le_of_ble_eq_true rfl⟩ ⟨Nat.le_refl _, Nat.le_refl _⟩ (by simp [Value.category]) rfl rfl rfl dX12_faultOf_30 rfl ?_
      refine mw_istore_n cx (q := 34) (lv' := [(3, .int r6), (5, .int r5), (4, .int x1.1), (2, .int x1.2.2), (0, .ref (ad 12 0 0)), (1, .int p1)]) rfl rfl (by decide) dX12_faultOf_33 rfl ?_
      refine mw_iload_n cx (q := 35) 3 rfl rfl dX12_faultOf_34 rfl ?_
      refine mw_iload cx (q := 37) 1 rfl dX12_faultOf_35 rfl ?_
      refine mw_bipush cx (q := 39) (v := 40) dX12_faultOf_37 rfl rfl ?_
      refine mw_jn (Mj := fun (v7 : Int32) => M) (pj := 58) (lj := fun (v7 : Int32) => [(0, .ref (ad 12 0 0)), (1, .int p1), (3, .int r6), (4, .int x1.1)]) (sj := fun (v7 : Int32) => [.int v7, .int x1.2.2]) (fun v7 => ?_) (fun K8 hK8 => ?_)
      · refine mw_iadd cx (q := 59) dX12_faultOf_58 rfl ?_
        refine mw_bndT (fun v11 ev11 => ?_)
        refine mw_istore_n cx (q := 60) (lv' := [(2, .int v11), (0, .ref (ad 12 0 0)), (1, .int p1), (3, .int r6), (4, .int x1.1)]) rfl rfl (by decide) dX12_faultOf_59 rfl ?_
        refine mw_iload_n cx (q := 61) 3 rfl rfl dX12_faultOf_60 rfl ?_
        refine mw_iconst cx (q := 62) (v := (-1)) dX12_faultOf_61 rfl rfl ?_
        refine mw_icmp_eq cx (tgt := 75) (q := 65) dX12_faultOf_62 (by decide) rfl (fun h12 => ?_) (fun h12 => ?_)
        · refine mw_iload cx (q := 77) 4 rfl dX12_faultOf_75 rfl ?_
          exact mw_iret cx hr rfl dX12_faultOf_77
        · refine mw_iload_n cx (q := 66) 0 rfl rfl dX12_faultOf_65 rfl ?_
          refine mw_if_lt cx (tgt := 75) (q := 69) dX12_faultOf_66 (by decide) rfl (fun h13 => ?_) (fun h13 => ?_)
          · refine mw_iload cx (q := 77) 4 rfl dX12_faultOf_75 rfl ?_
            exact mw_iret cx hr rfl dX12_faultOf_77
          · refine mw_iload_n cx (q := 70) 0 rfl rfl dX12_faultOf_69 rfl ?_
            refine mw_bipush cx (q := 72) (v := 20) dX12_faultOf_70 rfl rfl ?_
            refine mw_icmp_le cx (tgt := 78) (q := 75) dX12_faultOf_72 (by decide) rfl (fun h14 => ?_) (fun h14 => ?_)
            · refine mw_bnd (fun v15 ev15 => ?_)
              refine mw_iinc cx (q := 81) (v := v15) (lv' := [(4, .int v15), (2, .int v11), (0, .ref (ad 12 0 0)), (1, .int p1), (3, .int r6)]) 4 rfl (by rw [ev15]; rfl) rfl (by decide) dX12_faultOf_78 rfl ?_
              refine mw_goto cx (tgt := 7) dX12_faultOf_81 (by decide) ?_
              refine mw_sub [0, 4, 1, 2, 3] rfl ?_
              exact ih (v15, r6, v11) (by have hl := (hok.len p1 hp1).2; have hi := ivx1_0; have hz := h4; rw [ev15, inc_t (by simp only [i32le] at hz; omega) (by simp only [i32le] at hz; omega)]; simp only [i32le] at hz; omega) (by have hl := (hok.len p1 hp1).2; have hi := ivx1_0; have hz := h4; rw [ev15, inc_t (by simp only [i32le] at hz; omega) (by simp only [i32le] at hz; omega)]; simp only [i32le] at hz; omega)
            · refine mw_iload cx (q := 77) 4 rfl dX12_faultOf_75 rfl ?_
              exact mw_iret cx hr rfl dX12_faultOf_77
      · refine mw_icmp_ne cx (tgt := 46) (q := 42) dX12_faultOf_39 (by decide) rfl (fun h9 => ?_) (fun h9 => ?_)
        · refine mw_iload cx (q := 48) 1 rfl dX12_faultOf_46 rfl ?_
          refine mw_bipush cx (q := 50) (v := 41) dX12_faultOf_48 rfl rfl ?_
          refine mw_icmp_ne cx (tgt := 57) (q := 53) dX12_faultOf_50 (by decide) rfl (fun h10 => ?_) (fun h10 => ?_)
          · refine mw_iconst cx (q := 58) (v := 0) dX12_faultOf_57 rfl rfl ?_
            refine mw_sub [4, 5, 0, 2] rfl ?_
            exact hK8 0
          · refine mw_iconst cx (q := 54) (v := (-1)) dX12_faultOf_53 rfl rfl ?_
            refine mw_goto cx (tgt := 58) dX12_faultOf_54 (by decide) ?_
            refine mw_sub [4, 5, 0, 2] rfl ?_
            exact hK8 (-1)
        · refine mw_iconst cx (q := 43) (v := 1) dX12_faultOf_42 rfl rfl ?_
          refine mw_goto cx (tgt := 58) dX12_faultOf_43 (by decide) ?_
          refine mw_sub [4, 5, 0, 2] rfl ?_
          exact hK8 1
