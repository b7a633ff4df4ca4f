/-- one expression is reached from another by following -/
def rch12 (m : Cm) (s : Int32) : Nat → Int32 → Int32 → Prop
  | 0, a, b => a = b
  | k + 1, a, b => Ix12 m s a ∧ rch12 m s k (f12_following m s a) b
def Rch12 (m : Cm) (s a b : Int32) : Prop := ∃ k, rch12 m s k a b
theorem Rch12.refl (m : Cm) (s a : Int32) : Rch12 m s a a := ⟨0, rfl⟩
theorem Rch12.next {m : Cm} {s a b : Int32} (h : Rch12 m s a b) (hn : ¬ a = b) : Ix12 m s a ∧ Rch12 m s (f12_following m s a) b := by
  obtain ⟨k, h⟩ := h
  cases k with
  | zero => exact absurd h hn
  | succ k => exact ⟨h.1, k, h.2⟩
theorem rch12_snoc {m : Cm} {s : Int32} : ∀ (k : Nat) {a b : Int32}, rch12 m s k a b → Ix12 m s b → rch12 m s (k + 1) a (f12_following m s b) := by
  intro k
  induction k with
  | zero => intro a b h hI; cases h; exact ⟨hI, rfl⟩
  | succ k ih => intro a b h hI; exact ⟨h.1, ih h.2 hI⟩
theorem Rch12.snoc {m : Cm} {s a b : Int32} (h : Rch12 m s a b) (hI : Ix12 m s b) : Rch12 m s a (f12_following m s b) := by
  obtain ⟨k, h⟩ := h
  exact ⟨k + 1, rch12_snoc k h hI⟩
def f12_isParts_lp80 (m : Cm) (p1 : Int32) (x9 : Int32 × Bool × Int32) (K20 : Bool → Bool) : Nat → (Int32 × Bool) → Bool
  | 0, x19 => false
  | n21 + 1, x19 => if x19.1 = x9.1 then K20 x19.2 else if x19.2 = true then bnd (f12_nameAt m p1 x19.1) (fun (r24 : Int32) => bnd (f12_nameAt m p1 x9.1) (fun (r25 : Int32) => jn (fun (v26 : Bool) => bnd (f12_following m p1 x19.1) (fun (r29 : Int32) => f12_isParts_lp80 m p1 x9 K20 n21 (r29, v26))) (fun K27 => if r24 = r25 then K27 false else K27 true))) else K20 x19.2
theorem f12_isParts_lp80_s (m : Cm) (p1 : Int32) (x9 : Int32 × Bool × Int32) (K20 : Bool → Bool) (n21 : Nat) (x19 : Int32 × Bool) : f12_isParts_lp80 m p1 x9 K20 (n21 + 1) x19 = if x19.1 = x9.1 then K20 x19.2 else if x19.2 = true then bnd (f12_nameAt m p1 x19.1) (fun (r24 : Int32) => bnd (f12_nameAt m p1 x9.1) (fun (r25 : Int32) => jn (fun (v26 : Bool) => bnd (f12_following m p1 x19.1) (fun (r29 : Int32) => f12_isParts_lp80 m p1 x9 K20 n21 (r29, v26))) (fun K27 => if r24 = r25 then K27 false else K27 true))) else K20 x19.2 := rfl
def f12_isParts_lp38 (m : Cm) (p1 : Int32) (p2 : Int32) : Nat → (Int32 × Bool × Int32) → Bool
  | 0, x9 => false
  | n10 + 1, x9 => if x9.1 = (-1) then x9.2.1 else if x9.2.1 = true then bnd (f12_isName m p1 x9.1) (fun (r13 : Bool) => jn (fun (v14 : Bool) => bnd (f12_nextAt m p1 (p2 + 1)) (fun (r18 : Int32) => jn (fun (y30 : Bool) => bnd (x9.2.2 + 1) (fun (v31 : Int32) => bnd (f12_following m p1 x9.1) (fun (r32 : Int32) => f12_isParts_lp38 m p1 p2 n10 (r32, y30, v31)))) (fun K20 => f12_isParts_lp80 m p1 x9 K20 123 (r18, v14)))) (fun K15 => if r13 = true then if 3 ≤ x9.2.2 then K15 false else K15 true else K15 false)) else x9.2.1
theorem f12_isParts_lp38_s (m : Cm) (p1 : Int32) (p2 : Int32) (n10 : Nat) (x9 : Int32 × Bool × Int32) : f12_isParts_lp38 m p1 p2 (n10 + 1) x9 = if x9.1 = (-1) then x9.2.1 else if x9.2.1 = true then bnd (f12_isName m p1 x9.1) (fun (r13 : Bool) => jn (fun (v14 : Bool) => bnd (f12_nextAt m p1 (p2 + 1)) (fun (r18 : Int32) => jn (fun (y30 : Bool) => bnd (x9.2.2 + 1) (fun (v31 : Int32) => bnd (f12_following m p1 x9.1) (fun (r32 : Int32) => f12_isParts_lp38 m p1 p2 n10 (r32, y30, v31)))) (fun K20 => f12_isParts_lp80 m p1 x9 K20 123 (r18, v14)))) (fun K15 => if r13 = true then if 3 ≤ x9.2.2 then K15 false else K15 true else K15 false)) else x9.2.1 := rfl
def f12_isParts (m : Cm) (p1 : Int32) (p2 : Int32) : Bool := bnd (f12_signAt m p1 p2) (fun (r1 : Int32) => jn (fun (v2 : Bool) => jn (fun (v5 : Int32) => f12_isParts_lp38 m p1 p2 123 (v5, v2, 0)) (fun K6 => if v2 = true then bnd (f12_nextAt m p1 (p2 + 1)) (fun (r8 : Int32) => K6 r8) else K6 (-1))) (fun K3 => if r1 = 40 then K3 true else K3 false))
set_option maxHeartbeats 4000000 in
set_option maxRecDepth 100000 in
theorem mc_X12_isParts (l : Launch) (D : va_G) (ta : wTa) (ad : wAd) (M : Wm) (p1 : Int32) (p2 : Int32) (hok : Ok12 (M 12)) (hp1 : vp_in p1 8) (hT : Tx12 (M 12) p1) (hI : Ix12 (M 12) p1 p2) : MC l D ta ad yX12_isParts cX12_isParts 7 (some .boolean) 4 [.ref (ad 12 0 0), .int p1, .int p2] M (fzp M (f12_isParts (M 12) p1 p2)) := by
  refine MC.of (fzp M) (f12_isParts (M 12) p1 p2) rfl (by decide) (Nat.le_of_ble_eq_true rfl) (fun p e s m args below meth c cx hr => ?_)
  unfold f12_isParts
  refine mw_sub (lv' := [(0, .ref (ad 12 0 0)), (1, .int p1), (2, .int p2)]) [0, 1, 2] rfl ?_
  refine mw_aload_n cx (q := 1) 0 rfl rfl dX12_isParts_0 rfl ?_
  refine mw_iload_n cx (q := 2) 1 rfl rfl dX12_isParts_1 rfl ?_
  refine mw_iload_n cx (q := 3) 2 rfl rfl dX12_isParts_2 rfl ?_
  refine mw_bnd (fun r1 er1 => ?_)
  refine mw_callV cx (q := 6) (d := 0) (As := [.int p1, .int p2]) (z := fip M r1) (st := []) (st1 := [.int r1]) (M' := M) (by rw [er1]; exact mc_X12_signAt l D ta ad M p1 p2 hp1 hok (hI.1)) cv_X12_184 rfl rfl rfl vi_12_0 ⟨Nat.le_of_ble_eq_true rfl, Nat.le_of_ble_eq_true rfl⟩ ⟨Nat.le_refl _, Nat.le_refl _⟩ (by simp [Value.category]) rfl rfl rfl dX12_isParts_3 rfl ?_
  refine mw_bipush cx (q := 8) (v := 40) dX12_isParts_6 rfl rfl ?_
  refine mw_jn (Mj := fun (v2 : Bool) => M) (pj := 16) (lj := fun (v2 : Bool) => [(0, .ref (ad 12 0 0)), (1, .int p1), (2, .int p2)]) (sj := fun (v2 : Bool) => [.int (b2i v2)]) (fun v2 => ?_) (fun K3 hK3 => ?_)
  · refine mw_istore_n cx (q := 17) (lv' := [(3, .int (b2i v2)), (0, .ref (ad 12 0 0)), (1, .int p1), (2, .int p2)]) rfl rfl (by decide) dX12_isParts_16 rfl ?_
    refine mw_iconst cx (q := 18) (v := 0) dX12_isParts_17 rfl rfl ?_
    refine mw_istore cx (q := 20) (lv' := [(4, .int 0), (3, .int (b2i v2)), (0, .ref (ad 12 0 0)), (1, .int p1), (2, .int p2)]) rfl (by decide) dX12_isParts_18 rfl ?_
    refine mw_iload_n cx (q := 21) 1 rfl rfl dX12_isParts_20 rfl ?_
    refine mw_jnP (P := fun (v5 : Int32) => (v5 = (-1) ∨ v5 = (f12_nextAt (M 12) p1 (p2 + 1))) ∧ (Nx12 (M 12) p1 v5)) (Mj := fun (v5 : Int32) => M) (pj := 36) (lj := fun (v5 : Int32) => [(0, .ref (ad 12 0 0)), (1, .int p1), (2, .int p2), (3, .int (b2i v2)), (4, .int 0)]) (sj := fun (v5 : Int32) => [.int v5]) (fun v5 jv5 => ?_) (fun K6 hK6 => ?_)
    · obtain ⟨jv5_0, jv5_1⟩ := jv5
      refine mw_istore cx (q := 38) (lv' := [(5, .int v5), (0, .ref (ad 12 0 0)), (1, .int p1), (2, .int p2), (3, .int (b2i v2)), (4, .int 0)]) rfl (by decide) dX12_isParts_36 rfl ?_
      refine mw_loop (F := f12_isParts_lp38 (M 12) p1 p2) (I := fun (x9 : Int32 × Bool × Int32) => (Nx12 (M 12) p1 x9.1) ∧ (x9.1 = (-1) ∨ Rch12 (M 12) p1 (f12_nextAt (M 12) p1 (p2 + 1)) x9.1)) (μ := fun (x9 : Int32 × Bool × Int32) => mu12 (x9.1)) (Mx := fun (x9 : Int32 × Bool × Int32) => M) (px := 38) (lx := fun (x9 : Int32 × Bool × Int32) => [(5, .int x9.1), (0, .ref (ad 12 0 0)), (1, .int p1), (2, .int p2), (3, .int (b2i x9.2.1)), (4, .int x9.2.2)]) (fun n10 x9 ivx9 ih => ?_) 123 (v5, v2, 0) ⟨jv5_1, (Or.elim jv5_0 Or.inl (fun z => Or.inr (by rw [z]; exact Rch12.refl _ _ _)))⟩ (mu12_le (m := (M 12)) (s := p1) (by assumption))
      obtain ⟨ivx9_0, ivx9_1⟩ := ivx9
      refine mw_eqS (f12_isParts_lp38_s (M 12) p1 p2 n10 x9) ?_
      refine mw_iload cx (q := 40) 0 rfl dX12_isParts_38 rfl ?_
      refine mw_iconst cx (q := 41) (v := (-1)) dX12_isParts_40 rfl rfl ?_
      refine mw_icmp_eq cx (tgt := 141) (q := 44) dX12_isParts_41 (by decide) rfl (fun h11 => ?_) (fun h11 => ?_)
      · refine mw_iload_n cx (q := 142) 4 rfl rfl dX12_isParts_141 rfl ?_
        exact mw_zret cx hr (b2i_nar _) rfl dX12_isParts_142
      · refine mw_iload_n cx (q := 45) 4 rfl rfl dX12_isParts_44 rfl ?_
        refine mw_ifb_eq cx (tgt := 141) (q := 48) dX12_isParts_45 (by decide) rfl (fun h12 => ?_) (fun h12 => ?_)
        · refine mw_iload_n cx (q := 142) 4 rfl rfl dX12_isParts_141 rfl ?_
          exact mw_zret cx hr (b2i_nar _) rfl dX12_isParts_142
        · refine mw_aload_n cx (q := 49) 1 rfl rfl dX12_isParts_48 rfl ?_
          refine mw_iload_n cx (q := 50) 2 rfl rfl dX12_isParts_49 rfl ?_
          refine mw_iload cx (q := 52) 0 rfl dX12_isParts_50 rfl ?_
          refine mw_bnd (fun r13 er13 => ?_)
          refine mw_callV cx (q := 55) (d := 2) (As := [.int p1, .int x9.1]) (z := fzp M r13) (st := []) (st1 := [.int (b2i r13)]) (M' := M) (by rw [er13]; exact mc_X12_isName l D ta ad M p1 x9.1 hok hp1 ivx9_0) cv_X12_207 rfl rfl rfl vi_12_0 ⟨Nat.le_of_ble_eq_true rfl, Nat.le_of_ble_eq_true rfl⟩ ⟨Nat.le_refl _, Nat.le_refl _⟩ (by simp [Value.category]) rfl rfl rfl dX12_isParts_52 rfl ?_
          have qr130 : r13 = true → Ix12 (M 12) p1 x9.1 := (fun hq => isName_i ivx9_0 (er13.symm.trans hq))
          refine mw_jn (Mj := fun (v14 : Bool) => M) (pj := 69) (lj := fun (v14 : Bool) => [(0, .ref (ad 12 0 0)), (1, .int p1), (2, .int p2), (4, .int x9.2.2), (5, .int x9.1)]) (sj := fun (v14 : Bool) => [.int (b2i v14)]) (fun v14 => ?_) (fun K15 hK15 => ?_)
          · refine mw_istore_n cx (q := 70) (lv' := [(3, .int (b2i v14)), (0, .ref (ad 12 0 0)), (1, .int p1), (2, .int p2), (4, .int x9.2.2), (5, .int x9.1)]) rfl rfl (by decide) dX12_isParts_69 rfl ?_
            refine mw_aload_n cx (q := 71) 1 rfl rfl dX12_isParts_70 rfl ?_
            refine mw_iload_n cx (q := 72) 2 rfl rfl dX12_isParts_71 rfl ?_
            refine mw_iload_n cx (q := 73) 3 rfl rfl dX12_isParts_72 rfl ?_
            refine mw_iconst cx (q := 74) (v := 1) dX12_isParts_73 rfl rfl ?_
            refine mw_iadd cx (q := 75) dX12_isParts_74 rfl ?_
            refine mw_bnd (fun r18 er18 => ?_)
            refine mw_callV cx (q := 78) (d := 1) (As := [.int p1, .int (p2 + 1)]) (z := fip M r18) (st := []) (st1 := [.int r18]) (M' := M) (by rw [er18]; exact mc_X12_nextAt l D ta ad M p1 (p2 + 1) hok hp1 (by have h1 := hI.1; have h2 := hI.2; have h3 := (hok.len _ hp1).2; rw [inc_t h1 (by omega)]; omega) (by have h1 := hI.1; have h2 := hI.2; have h3 := (hok.len _ hp1).2; rw [inc_t h1 (by omega)]; omega)) cv_X12_198 rfl rfl rfl vi_12_0 ⟨Nat.le_of_ble_eq_true rfl, Nat.le_of_ble_eq_true rfl⟩ ⟨Nat.le_refl _, Nat.le_refl _⟩ (by simp [Value.category]) rfl rfl rfl dX12_isParts_75 rfl ?_
            have qr180 : Nx12 (M 12) p1 r18 := (by rw [er18]; exact nextAt_n hok hp1 (by have h1 := hI.1; have h2 := hI.2; have h3 := (hok.len _ hp1).2; rw [inc_t h1 (by omega)]; omega) (by have h1 := hI.1; have h2 := hI.2; have h3 := (hok.len _ hp1).2; rw [inc_t h1 (by omega)]; omega))
            have hnx2 : r18 = (f12_nextAt (M 12) p1 (p2 + 1)) := er18
            refine mw_istore cx (q := 80) (lv' := [(6, .int r18), (3, .int (b2i v14)), (0, .ref (ad 12 0 0)), (1, .int p1), (2, .int p2), (4, .int x9.2.2), (5, .int x9.1)]) rfl (by decide) dX12_isParts_78 rfl ?_
            refine mw_jn (Mj := fun (y30 : Bool) => M) (pj := 126) (lj := fun (y30 : Bool) => [(3, .int (b2i y30)), (0, .ref (ad 12 0 0)), (1, .int p1), (2, .int p2), (4, .int x9.2.2), (5, .int x9.1)]) (sj := fun (y30 : Bool) => []) (fun y30 => ?_) (fun K20 hK20 => ?_)
            · refine mw_bnd (fun v31 ev31 => ?_)
              refine mw_iinc cx (q := 129) (v := v31) (lv' := [(4, .int v31), (3, .int (b2i y30)), (0, .ref (ad 12 0 0)), (1, .int p1), (2, .int p2), (5, .int x9.1)]) 4 rfl (by rw [ev31]; rfl) rfl (by decide) dX12_isParts_126 rfl ?_
              refine mw_aload_n cx (q := 130) 2 rfl rfl dX12_isParts_129 rfl ?_
              refine mw_iload_n cx (q := 131) 3 rfl rfl dX12_isParts_130 rfl ?_
              refine mw_iload cx (q := 133) 5 rfl dX12_isParts_131 rfl ?_
              refine mw_bnd (fun r32 er32 => ?_)
              refine mw_callV cx (q := 136) (d := 3) (As := [.int p1, .int x9.1]) (z := fip M r32) (st := []) (st1 := [.int r32]) (M' := M) (by rw [er32]; exact mc_X12_following l D ta ad M p1 x9.1 hok hp1 hT (ivx9_0.resolve_left h11)) cv_X12_201 rfl rfl rfl vi_12_0 ⟨Nat.le_of_ble_eq_true rfl, Nat.le_of_ble_eq_true rfl⟩ ⟨Nat.le_refl _, Nat.le_refl _⟩ (by simp [Value.category]) rfl rfl rfl dX12_isParts_133 rfl ?_
              have qr320 : Nx12 (M 12) p1 r32 := (by rw [er32]; exact following_n hok hp1 hT (ivx9_0.resolve_left h11))
              refine mw_istore cx (q := 138) (lv' := [(5, .int r32), (4, .int v31), (3, .int (b2i y30)), (0, .ref (ad 12 0 0)), (1, .int p1), (2, .int p2)]) rfl (by decide) dX12_isParts_136 rfl ?_
              refine mw_goto cx (tgt := 38) dX12_isParts_138 (by decide) ?_
              refine mw_sub [0, 3, 4, 5, 2, 1] rfl ?_
              exact ih (r32, y30, v31) ⟨qr320, (Or.inr (by rw [er32]; exact (ivx9_1.resolve_left (by assumption)).snoc (ivx9_0.resolve_left (by assumption))))⟩ (by rw [er32]; exact mu12_lt hok hp1 hT (ivx9_0.resolve_left (by assumption)))
            · refine mw_loop (F := f12_isParts_lp80 (M 12) p1 x9 K20) (I := fun (x19 : Int32 × Bool) => (Nx12 (M 12) p1 x19.1) ∧ (Rch12 (M 12) p1 x19.1 x9.1)) (μ := fun (x19 : Int32 × Bool) => mu12 (x19.1)) (Mx := fun (x19 : Int32 × Bool) => M) (px := 80) (lx := fun (x19 : Int32 × Bool) => [(6, .int x19.1), (3, .int (b2i x19.2)), (0, .ref (ad 12 0 0)), (1, .int p1), (2, .int p2), (4, .int x9.2.2), (5, .int x9.1)]) (fun n21 x19 ivx19 ih => ?_) 123 (r18, v14) ⟨qr180, (by rw [hnx2]; exact ivx9_1.resolve_left (by assumption))⟩ (mu12_le (m := (M 12)) (s := p1) (by assumption))
              obtain ⟨ivx19_0, ivx19_1⟩ := ivx19
              refine mw_eqS (f12_isParts_lp80_s (M 12) p1 x9 K20 n21 x19) ?_
              refine mw_iload cx (q := 82) 0 rfl dX12_isParts_80 rfl ?_
              refine mw_iload cx (q := 84) 6 rfl dX12_isParts_82 rfl ?_
              refine mw_icmp_eq cx (tgt := 126) (q := 87) dX12_isParts_84 (by decide) rfl (fun h22 => ?_) (fun h22 => ?_)
              · refine mw_sub [1, 2, 3, 4, 5, 6] rfl ?_
                exact hK20 x19.2
              · refine mw_iload_n cx (q := 88) 1 rfl rfl dX12_isParts_87 rfl ?_
                refine mw_ifb_eq cx (tgt := 126) (q := 91) dX12_isParts_88 (by decide) rfl (fun h23 => ?_) (fun h23 => ?_)
                · refine mw_sub [1, 2, 3, 4, 5, 6] rfl ?_
                  exact hK20 x19.2
                · refine mw_aload_n cx (q := 92) 2 rfl rfl dX12_isParts_91 rfl ?_
                  refine mw_iload_n cx (q := 93) 3 rfl rfl dX12_isParts_92 rfl ?_
                  refine mw_iload cx (q := 95) 0 rfl dX12_isParts_93 rfl ?_
                  refine mw_bnd (fun r24 er24 => ?_)
                  refine mw_callV cx (q := 98) (d := 2) (As := [.int p1, .int x19.1]) (z := fip M r24) (st := []) (st1 := [.int r24]) (M' := M) (by rw [er24]; exact mc_X12_nameAt l D ta ad M p1 x19.1 hok hp1 ((ivx19_1.next (by assumption)).1)) cv_X12_211 rfl rfl rfl vi_12_0 ⟨Nat.le_of_ble_eq_true rfl, Nat.le_of_ble_eq_true rfl⟩ ⟨Nat.le_refl _, Nat.le_refl _⟩ (by simp [Value.category]) rfl rfl rfl dX12_isParts_95 rfl ?_
                  refine mw_aload_n cx (q := 99) 2 rfl rfl dX12_isParts_98 rfl ?_
                  refine mw_iload_n cx (q := 100) 3 rfl rfl dX12_isParts_99 rfl ?_
                  refine mw_iload cx (q := 102) 6 rfl dX12_isParts_100 rfl ?_
                  refine mw_bnd (fun r25 er25 => ?_)
                  refine mw_callV cx (q := 105) (d := 2) (As := [.int p1, .int x9.1]) (z := fip M r25) (st := [.int r24]) (st1 := [.int r25, .int r24]) (M' := M) (by rw [er25]; exact mc_X12_nameAt l D ta ad M p1 x9.1 hok hp1 (ivx9_0.resolve_left h11)) cv_X12_211 rfl rfl rfl vi_12_0 ⟨Nat.le_of_ble_eq_true rfl, Nat.le_of_ble_eq_true rfl⟩ ⟨Nat.le_refl _, Nat.le_refl _⟩ (by simp [Value.category]) rfl rfl rfl dX12_isParts_102 rfl ?_
                  refine mw_jn (Mj := fun (v26 : Bool) => M) (pj := 113) (lj := fun (v26 : Bool) => [(0, .ref (ad 12 0 0)), (1, .int p1), (2, .int p2), (4, .int x9.2.2), (5, .int x9.1), (6, .int x19.1)]) (sj := fun (v26 : Bool) => [.int (b2i v26)]) (fun v26 => ?_) (fun K27 hK27 => ?_)
                  · refine mw_istore_n cx (q := 114) (lv' := [(3, .int (b2i v26)), (0, .ref (ad 12 0 0)), (1, .int p1), (2, .int p2), (4, .int x9.2.2), (5, .int x9.1), (6, .int x19.1)]) rfl rfl (by decide) dX12_isParts_113 rfl ?_
                    refine mw_aload_n cx (q := 115) 1 rfl rfl dX12_isParts_114 rfl ?_
                    refine mw_iload_n cx (q := 116) 2 rfl rfl dX12_isParts_115 rfl ?_
                    refine mw_iload cx (q := 118) 6 rfl dX12_isParts_116 rfl ?_
                    refine mw_bnd (fun r29 er29 => ?_)
                    refine mw_callV cx (q := 121) (d := 3) (As := [.int p1, .int x19.1]) (z := fip M r29) (st := []) (st1 := [.int r29]) (M' := M) (by rw [er29]; exact mc_X12_following l D ta ad M p1 x19.1 hok hp1 hT ((ivx19_1.next (by assumption)).1)) cv_X12_201 rfl rfl rfl vi_12_0 ⟨Nat.le_of_ble_eq_true rfl, Nat.le_of_ble_eq_true rfl⟩ ⟨Nat.le_refl _, Nat.le_refl _⟩ (by simp [Value.category]) rfl rfl rfl dX12_isParts_118 rfl ?_
                    have qr290 : Nx12 (M 12) p1 r29 := (by rw [er29]; exact following_n hok hp1 hT ((ivx19_1.next (by assumption)).1))
                    refine mw_istore cx (q := 123) (lv' := [(6, .int r29), (3, .int (b2i v26)), (0, .ref (ad 12 0 0)), (1, .int p1), (2, .int p2), (4, .int x9.2.2), (5, .int x9.1)]) rfl (by decide) dX12_isParts_121 rfl ?_
                    refine mw_goto cx (tgt := 80) dX12_isParts_123 (by decide) ?_
                    exact ih (r29, v26) ⟨qr290, (by rw [er29]; exact (ivx19_1.next (by assumption)).2)⟩ (by rw [er29]; exact mu12_lt hok hp1 hT (ivx19_1.next (by assumption)).1)
                  · refine mw_icmp_eq cx (tgt := 112) (q := 108) dX12_isParts_105 (by decide) rfl (fun h28 => ?_) (fun h28 => ?_)
                    · refine mw_iconst cx (q := 113) (v := 0) dX12_isParts_112 rfl rfl ?_
                      refine mw_sub [2, 3, 4, 5, 6, 0] rfl ?_
                      exact hK27 false
                    · refine mw_iconst cx (q := 109) (v := 1) dX12_isParts_108 rfl rfl ?_
                      refine mw_goto cx (tgt := 113) dX12_isParts_109 (by decide) ?_
                      refine mw_sub [2, 3, 4, 5, 6, 0] rfl ?_
                      exact hK27 true
          · refine mw_ifb_eq cx (tgt := 68) (q := 58) dX12_isParts_55 (by decide) rfl (fun h16 => ?_) (fun h16 => ?_)
            · refine mw_iconst cx (q := 69) (v := 0) dX12_isParts_68 rfl rfl ?_
              refine mw_sub [1, 2, 3, 5, 0] rfl ?_
              exact hK15 false
            · refine mw_iload cx (q := 60) 5 rfl dX12_isParts_58 rfl ?_
              refine mw_iconst cx (q := 61) (v := 3) dX12_isParts_60 rfl rfl ?_
              refine mw_icmp_ge cx (tgt := 68) (q := 64) dX12_isParts_61 (by decide) rfl (fun h17 => ?_) (fun h17 => ?_)
              · refine mw_iconst cx (q := 69) (v := 0) dX12_isParts_68 rfl rfl ?_
                refine mw_sub [1, 2, 3, 5, 0] rfl ?_
                exact hK15 false
              · refine mw_iconst cx (q := 65) (v := 1) dX12_isParts_64 rfl rfl ?_
                refine mw_goto cx (tgt := 69) dX12_isParts_65 (by decide) ?_
                refine mw_sub [1, 2, 3, 5, 0] rfl ?_
                exact hK15 true
    · refine mw_ifb_eq cx (tgt := 35) (q := 24) dX12_isParts_21 (by decide) rfl (fun h7 => ?_) (fun h7 => ?_)
      · refine mw_iconst cx (q := 36) (v := (-1)) dX12_isParts_35 rfl rfl ?_
        refine mw_sub [2, 3, 4, 1, 0] rfl ?_
        exact hK6 (-1) ⟨(by first | exact Or.inl rfl | exact Or.inr hnx), (Or.inl rfl)⟩
      · refine mw_aload_n cx (q := 25) 2 rfl rfl dX12_isParts_24 rfl ?_
        refine mw_iload_n cx (q := 26) 3 rfl rfl dX12_isParts_25 rfl ?_
        refine mw_iload_n cx (q := 27) 4 rfl rfl dX12_isParts_26 rfl ?_
        refine mw_iconst cx (q := 28) (v := 1) dX12_isParts_27 rfl rfl ?_
        refine mw_iadd cx (q := 29) dX12_isParts_28 rfl ?_
        refine mw_bnd (fun r8 er8 => ?_)
        refine mw_callV cx (q := 32) (d := 1) (As := [.int p1, .int (p2 + 1)]) (z := fip M r8) (st := []) (st1 := [.int r8]) (M' := M) (by rw [er8]; exact mc_X12_nextAt l D ta ad M p1 (p2 + 1) hok hp1 (by have h1 := hI.1; have h2 := hI.2; have h3 := (hok.len _ hp1).2; rw [inc_t h1 (by omega)]; omega) (by have h1 := hI.1; have h2 := hI.2; have h3 := (hok.len _ hp1).2; rw [inc_t h1 (by omega)]; omega)) cv_X12_198 rfl rfl rfl vi_12_0 ⟨Nat.le_of_ble_eq_true rfl, Nat.le_of_ble_eq_true rfl⟩ ⟨Nat.le_refl _, Nat.le_refl _⟩ (by simp [Value.category]) rfl rfl rfl dX12_isParts_29 rfl ?_
        have qr80 : Nx12 (M 12) p1 r8 := (by rw [er8]; exact nextAt_n hok hp1 (by have h1 := hI.1; have h2 := hI.2; have h3 := (hok.len _ hp1).2; rw [inc_t h1 (by omega)]; omega) (by have h1 := hI.1; have h2 := hI.2; have h3 := (hok.len _ hp1).2; rw [inc_t h1 (by omega)]; omega))
        have hnx : r8 = (f12_nextAt (M 12) p1 (p2 + 1)) := er8
        refine mw_goto cx (tgt := 36) dX12_isParts_32 (by decide) ?_
        refine mw_sub [2, 3, 4, 1, 0] rfl ?_
        exact hK6 r8 ⟨(by first | exact Or.inl rfl | exact Or.inr hnx), qr80⟩
  · refine mw_icmp_ne cx (tgt := 15) (q := 11) dX12_isParts_8 (by decide) rfl (fun h4 => ?_) (fun h4 => ?_)
    · refine mw_iconst cx (q := 16) (v := 0) dX12_isParts_15 rfl rfl ?_
      exact hK3 false
    · refine mw_iconst cx (q := 12) (v := 1) dX12_isParts_11 rfl rfl ?_
      refine mw_goto cx (tgt := 16) dX12_isParts_12 (by decide) ?_
      exact hK3 true
/-- the reference's rows of names and of how many values they take -/
def lst12 (i : Int32) : Int32 := ([2, 2, 2, 2, 2, 2, 2, 2, 2, 1, 2, 2, 3, 2, 1, 3, 2, 3, 2, 2, 3, 3, 1, 1, 0, 0] : List Int32).getD i.toNatClampNeg 0
def mst12 (i : Int32) : Int32 := ([2, 2, 2, 2, 2, 2, 2, 2, 2, 1, 2, 2, 3, 99, 99, 99, 2, 3, 2, 2, 3, 3, 1, 1, 0, 0] : List Int32).getD i.toNatClampNeg 0
def Ct12 (m : Cm) : Prop := ∀ j : Int32, vp_in j 26 → m 28 0 j = wdCode j ∧ m 29 0 j = lst12 j ∧ m 30 0 j = mst12 j
theorem in26 {P : Int32 → Prop} (h : ∀ k : Nat, k < 26 → P (nI k)) {j : Int32} (hj : vp_in j 26) : P j := by
  rw [← nI_tn hj]
  refine h _ ?_
  exact Nat.not_le.mp fun q => hj (Or.inr q)
theorem lst12_1 {j : Int32} (hj : vp_in j 26) (h : ¬ j = 24) (h2 : ¬ j = 25) : 1 ≤ (lst12 j).toInt := by
  refine in26 (P := fun j => ¬ j = 24 → ¬ j = 25 → 1 ≤ (lst12 j).toInt) ?_ hj h h2
  decide +kernel
/-- what the well-formed lists of a first name have -/
theorem isFormed_1 {m : Cm} {op first : Int32} (hk : Ok12 m) (hC : Ct12 m) (hT : Tx12 m (m 0 0 60)) (hN : Nx12 m (m 0 0 60) first) (ho : vp_in op 26) (h : ¬ f12_countFrom m (m 0 0 60) first < m 29 0 op) : (lst12 op).toInt ≤ (CN12 m (m 0 0 60) first : Int) := by
  rw [(hC op ho).2.1] at h
  simp only [i32lt] at h
  rw [countFrom_eq hk hk.scr hT hN] at h
  omega
theorem CN12_pos {m : Cm} {s i : Int32} (hN : Nx12 m s i) (h : 1 ≤ (CN12 m s i : Int)) : Ix12 m s i := by
  refine hN.resolve_left (fun z => ?_)
  rw [z, CN12_none] at h
  exact absurd h (by decide)
theorem CN12_2 {m : Cm} {s i : Int32} (hk : Ok12 m) (hs : vp_in s 8) (hT : Tx12 m s) (hN : Nx12 m s i) (h : 2 ≤ (CN12 m s i : Int)) : Ix12 m s (f12_following m s i) := by
  have hI := CN12_pos hN (by omega)
  have hc := CN12_s hk hs hT hI
  exact CN12_pos (following_n hk hs hT hI) (by omega)
def f12_isFormed (m : Cm) (p1 : Int32) (p2 : Int32) (p3 : Int32) : Bool := bnd (f12_countFrom m (m 0 0 60) p3) (fun (r1 : Int32) => if p1 = 26 then if r1 = (m 53 0 p2) then true else false else if r1 < (m 29 0 p1) then false else if r1 ≤ (m 30 0 p1) then if p1 = 15 then bnd (f12_isName m (m 0 0 60) p3) (fun (r6 : Bool) => r6) else if p1 = 16 then bnd (f12_isName m (m 0 0 60) p3) (fun (r32 : Bool) => r32) else if p1 = 18 then bnd (f12_goodAt m (m 0 0 60) p3) (fun (r9 : Int32) => if r9 = (-1) then false else true) else if p1 = 19 then bnd (f12_goodAt m (m 0 0 60) p3) (fun (r30 : Int32) => if r30 = (-1) then false else true) else if p1 = 20 then bnd (f12_following m (m 0 0 60) p3) (fun (r27 : Int32) => bnd (f12_goodAt m (m 0 0 60) r27) (fun (r28 : Int32) => if r28 = (-1) then false else true)) else if p1 = 17 then bnd (f12_isName m (m 0 0 60) p3) (fun (r14 : Bool) => jn (fun (v15 : Bool) => if v15 = true then bnd (f12_following m (m 0 0 60) p3) (fun (r24 : Int32) => bnd (f12_isParts m (m 0 0 60) r24) (fun (r25 : Bool) => if r25 = true then true else false)) else false) (fun K16 => if r14 = true then bnd (f12_nameAt m (m 0 0 60) p3) (fun (r18 : Int32) => bnd (f12_opOf m r18) (fun (r19 : Int32) => if r19 = (-1) then bnd (f12_goodAt m (m 0 0 60) p3) (fun (r21 : Int32) => if r21 = (-1) then K16 true else K16 false) else K16 false)) else K16 false)) else true else false)
set_option maxHeartbeats 4000000 in
set_option maxRecDepth 100000 in
theorem mc_X12_isFormed (l : Launch) (D : va_G) (ta : wTa) (ad : wAd) (M : Wm) (p1 : Int32) (p2 : Int32) (p3 : Int32) (hok : Ok12 (M 12)) (hT : Tx12 (M 12) ((M 12) 0 0 60)) (hN : Nx12 (M 12) ((M 12) 0 0 60) p3) (hp1 : vp_in p1 27) (hp2 : p1 = 26 → vp_in p2 8) (hC : Ct12 (M 12)) : MC l D ta ad yX12_isFormed cX12_isFormed 6 (some .boolean) 5 [.ref (ad 12 0 0), .int p1, .int p2, .int p3] M (fzp M (f12_isFormed (M 12) p1 p2 p3)) := by
  refine MC.of (fzp M) (f12_isFormed (M 12) p1 p2 p3) rfl (by decide) (Nat.le_of_ble_eq_true rfl) (fun p e s m args below meth c cx hr => ?_)
  unfold f12_isFormed
  refine mw_sub (lv' := [(0, .ref (ad 12 0 0)), (1, .int p1), (2, .int p2), (3, .int p3)]) [0, 1, 2, 3] rfl ?_
  have u_scr : vp_in ((M 12) 0 0 60) 8 := hok.scr
  have h26 : ¬ p1 = 26 → vp_in p1 26 := (by intro hz; rw [vp_in_iff] at hp1 ⊢; simp only [i32eq, t32_26] at hz; omega)
  refine mw_aload_n cx (q := 1) 0 rfl rfl dX12_isFormed_0 rfl ?_
  refine mw_aload_n cx (q := 2) 0 rfl rfl dX12_isFormed_1 rfl ?_
  refine mw_get cx (q := 5) (v := .int ((M 12) 0 0 60)) gf_X12_242 rfl rfl vi_12_0 dX12_isFormed_2 rfl ?_
  refine mw_iload_n cx (q := 6) 3 rfl rfl dX12_isFormed_5 rfl ?_
  refine mw_bnd (fun r1 er1 => ?_)
  refine mw_callV cx (q := 9) (d := 4) (As := [.int ((M 12) 0 0 60), .int p3]) (z := fip M r1) (st := []) (st1 := [.int r1]) (M' := M) (by rw [er1]; exact mc_X12_countFrom l D ta ad M ((M 12) 0 0 60) p3 hok u_scr hT hN) cv_X12_204 rfl rfl rfl vi_12_0 ⟨Nat.le_of_ble_eq_true rfl, Nat.le_of_ble_eq_true rfl⟩ ⟨Nat.le_refl _, Nat.le_refl _⟩ (by simp [Value.category]) rfl rfl rfl dX12_isFormed_6 rfl ?_
  refine mw_istore cx (q := 11) (lv' := [(4, .int r1), (0, .ref (ad 12 0 0)), (1, .int p1), (2, .int p2), (3, .int p3)]) rfl (by decide) dX12_isFormed_9 rfl ?_
  refine mw_iload_n cx (q := 12) 2 rfl rfl dX12_isFormed_11 rfl ?_
  refine mw_bipush cx (q := 14) (v := 26) dX12_isFormed_12 rfl rfl ?_
  refine mw_icmp_ne cx (tgt := 34) (q := 17) dX12_isFormed_14 (by decide) rfl (fun h2 => ?_) (fun h2 => ?_)
  · refine mw_iload cx (q := 36) 0 rfl dX12_isFormed_34 rfl ?_
    refine mw_aload_n cx (q := 37) 1 rfl rfl dX12_isFormed_36 rfl ?_
    refine mw_get cx (q := 40) (v := .ref (ad 12 29 0)) gf_X12_92 rfl rfl vi_12_0 dX12_isFormed_37 rfl ?_
    refine mw_iload_n cx (q := 41) 2 rfl rfl dX12_isFormed_40 rfl ?_
    refine mw_iald cx (q := 42) (w := ((M 12) 29 0 p1)) rfl (fun _ => rfl) vi_12_29 (h26 h2) dX12_isFormed_41 rfl ?_
    refine mw_icmp_lt cx (tgt := 56) (q := 45) dX12_isFormed_42 (by decide) rfl (fun h3 => ?_) (fun h3 => ?_)
    · refine mw_iconst cx (q := 57) (v := 0) dX12_isFormed_56 rfl rfl ?_
      exact mw_zret cx hr rfl rfl dX12_isFormed_57
    · refine mw_iload cx (q := 47) 0 rfl dX12_isFormed_45 rfl ?_
      refine mw_aload_n cx (q := 48) 1 rfl rfl dX12_isFormed_47 rfl ?_
      refine mw_get cx (q := 51) (v := .ref (ad 12 30 0)) gf_X12_95 rfl rfl vi_12_0 dX12_isFormed_48 rfl ?_
      refine mw_iload_n cx (q := 52) 2 rfl rfl dX12_isFormed_51 rfl ?_
      refine mw_iald cx (q := 53) (w := ((M 12) 30 0 p1)) rfl (fun _ => rfl) vi_12_30 (h26 h2) dX12_isFormed_52 rfl ?_
      refine mw_icmp_le cx (tgt := 58) (q := 56) dX12_isFormed_53 (by decide) rfl (fun h4 => ?_) (fun h4 => ?_)
      · refine mw_iload_n cx (q := 59) 2 rfl rfl dX12_isFormed_58 rfl ?_
        refine mw_bipush cx (q := 61) (v := 15) dX12_isFormed_59 rfl rfl ?_
        refine mw_icmp_eq cx (tgt := 70) (q := 64) dX12_isFormed_61 (by decide) rfl (fun h5 => ?_) (fun h5 => ?_)
        · refine mw_aload_n cx (q := 71) 1 rfl rfl dX12_isFormed_70 rfl ?_
          refine mw_aload_n cx (q := 72) 1 rfl rfl dX12_isFormed_71 rfl ?_
          refine mw_get cx (q := 75) (v := .int ((M 12) 0 0 60)) gf_X12_242 rfl rfl vi_12_0 dX12_isFormed_72 rfl ?_
          refine mw_iload_n cx (q := 76) 4 rfl rfl dX12_isFormed_75 rfl ?_
          refine mw_bnd (fun r6 er6 => ?_)
          refine mw_callV cx (q := 79) (d := 2) (As := [.int ((M 12) 0 0 60), .int p3]) (z := fzp M r6) (st := []) (st1 := [.int (b2i r6)]) (M' := M) (by rw [er6]; exact mc_X12_isName l D ta ad M ((M 12) 0 0 60) p3 hok u_scr hN) cv_X12_207 rfl rfl rfl vi_12_0 ⟨Nat.le_of_ble_eq_true rfl, Nat.le_of_ble_eq_true rfl⟩ ⟨Nat.le_refl _, Nat.le_refl _⟩ (by simp [Value.category]) rfl rfl rfl dX12_isFormed_76 rfl ?_
          have qr60 : r6 = true → Ix12 (M 12) ((M 12) 0 0 60) p3 := (fun hq => isName_i hN (er6.symm.trans hq))
          exact mw_zret cx hr (b2i_nar _) rfl dX12_isFormed_79
        · refine mw_iload_n cx (q := 65) 2 rfl rfl dX12_isFormed_64 rfl ?_
          refine mw_bipush cx (q := 67) (v := 16) dX12_isFormed_65 rfl rfl ?_
          refine mw_icmp_ne cx (tgt := 80) (q := 70) dX12_isFormed_67 (by decide) rfl (fun h7 => ?_) (fun h7 => ?_)
          · refine mw_iload_n cx (q := 81) 2 rfl rfl dX12_isFormed_80 rfl ?_
            refine mw_bipush cx (q := 83) (v := 18) dX12_isFormed_81 rfl rfl ?_
            refine mw_icmp_eq cx (tgt := 92) (q := 86) dX12_isFormed_83 (by decide) rfl (fun h8 => ?_) (fun h8 => ?_)
            · refine mw_aload_n cx (q := 93) 1 rfl rfl dX12_isFormed_92 rfl ?_
              refine mw_aload_n cx (q := 94) 1 rfl rfl dX12_isFormed_93 rfl ?_
              refine mw_get cx (q := 97) (v := .int ((M 12) 0 0 60)) gf_X12_242 rfl rfl vi_12_0 dX12_isFormed_94 rfl ?_
              refine mw_iload_n cx (q := 98) 4 rfl rfl dX12_isFormed_97 rfl ?_
              refine mw_bnd (fun r9 er9 => ?_)
              refine mw_callV cx (q := 101) (d := 3) (As := [.int ((M 12) 0 0 60), .int p3]) (z := fip M r9) (st := []) (st1 := [.int r9]) (M' := M) (by rw [er9]; exact mc_X12_goodAt l D ta ad M ((M 12) 0 0 60) p3 hok u_scr hN) cv_X12_274 rfl rfl rfl vi_12_0 ⟨Nat.le_of_ble_eq_true rfl, Nat.le_of_ble_eq_true rfl⟩ ⟨Nat.le_refl _, Nat.le_refl _⟩ (by simp [Value.category]) rfl rfl rfl dX12_isFormed_98 rfl ?_
              have qr90 : ¬ r9 = (-1) → vp_in r9 8 := (by rw [er9]; exact goodAt_in)
              refine mw_iconst cx (q := 102) (v := (-1)) dX12_isFormed_101 rfl rfl ?_
              refine mw_icmp_eq cx (tgt := 109) (q := 105) dX12_isFormed_102 (by decide) rfl (fun h10 => ?_) (fun h10 => ?_)
              · refine mw_iconst cx (q := 110) (v := 0) dX12_isFormed_109 rfl rfl ?_
                exact mw_zret cx hr rfl rfl dX12_isFormed_110
              · refine mw_iconst cx (q := 106) (v := 1) dX12_isFormed_105 rfl rfl ?_
                refine mw_goto cx (tgt := 110) dX12_isFormed_106 (by decide) ?_
                exact mw_zret cx hr rfl rfl dX12_isFormed_110
            · refine mw_iload_n cx (q := 87) 2 rfl rfl dX12_isFormed_86 rfl ?_
              refine mw_bipush cx (q := 89) (v := 19) dX12_isFormed_87 rfl rfl ?_
              refine mw_icmp_ne cx (tgt := 111) (q := 92) dX12_isFormed_89 (by decide) rfl (fun h11 => ?_) (fun h11 => ?_)
              · refine mw_iload_n cx (q := 112) 2 rfl rfl dX12_isFormed_111 rfl ?_
                refine mw_bipush cx (q := 114) (v := 20) dX12_isFormed_112 rfl rfl ?_
                refine mw_icmp_ne cx (tgt := 144) (q := 117) dX12_isFormed_114 (by decide) rfl (fun h12 => ?_) (fun h12 => ?_)
                · refine mw_iload_n cx (q := 145) 2 rfl rfl dX12_isFormed_144 rfl ?_
                  refine mw_bipush cx (q := 147) (v := 17) dX12_isFormed_145 rfl rfl ?_
                  refine mw_icmp_ne cx (tgt := 230) (q := 150) dX12_isFormed_147 (by decide) rfl (fun h13 => ?_) (fun h13 => ?_)
                  · refine mw_iconst cx (q := 231) (v := 1) dX12_isFormed_230 rfl rfl ?_
                    exact mw_zret cx hr rfl rfl dX12_isFormed_231
                  · refine mw_aload_n cx (q := 151) 1 rfl rfl dX12_isFormed_150 rfl ?_
                    refine mw_aload_n cx (q := 152) 1 rfl rfl dX12_isFormed_151 rfl ?_
                    refine mw_get cx (q := 155) (v := .int ((M 12) 0 0 60)) gf_X12_242 rfl rfl vi_12_0 dX12_isFormed_152 rfl ?_
                    refine mw_iload_n cx (q := 156) 4 rfl rfl dX12_isFormed_155 rfl ?_
                    refine mw_bnd (fun r14 er14 => ?_)
                    refine mw_callV cx (q := 159) (d := 2) (As := [.int ((M 12) 0 0 60), .int p3]) (z := fzp M r14) (st := []) (st1 := [.int (b2i r14)]) (M' := M) (by rw [er14]; exact mc_X12_isName l D ta ad M ((M 12) 0 0 60) p3 hok u_scr hN) cv_X12_207 rfl rfl rfl vi_12_0 ⟨Nat.le_of_ble_eq_true rfl, Nat.le_of_ble_eq_true rfl⟩ ⟨Nat.le_refl _, Nat.le_refl _⟩ (by simp [Value.category]) rfl rfl rfl dX12_isFormed_156 rfl ?_
                    have qr140 : r14 = true → Ix12 (M 12) ((M 12) 0 0 60) p3 := (fun hq => isName_i hN (er14.symm.trans hq))
                    refine mw_jn (Mj := fun (v15 : Bool) => M) (pj := 197) (lj := fun (v15 : Bool) => [(0, .ref (ad 12 0 0)), (3, .int p3)]) (sj := fun (v15 : Bool) => [.int (b2i v15)]) (fun v15 => ?_) (fun K16 hK16 => ?_)
                    · refine mw_istore cx (q := 199) (lv' := [(5, .int (b2i v15)), (0, .ref (ad 12 0 0)), (3, .int p3)]) rfl (by decide) dX12_isFormed_197 rfl ?_
                      refine mw_iload cx (q := 201) 0 rfl dX12_isFormed_199 rfl ?_
                      refine mw_ifb_eq cx (tgt := 228) (q := 204) dX12_isFormed_201 (by decide) rfl (fun h23 => ?_) (fun h23 => ?_)
                      · refine mw_iconst cx (q := 229) (v := 0) dX12_isFormed_228 rfl rfl ?_
                        exact mw_zret cx hr rfl rfl dX12_isFormed_229
                      · refine mw_aload_n cx (q := 205) 1 rfl rfl dX12_isFormed_204 rfl ?_
                        refine mw_aload_n cx (q := 206) 1 rfl rfl dX12_isFormed_205 rfl ?_
                        refine mw_get cx (q := 209) (v := .int ((M 12) 0 0 60)) gf_X12_242 rfl rfl vi_12_0 dX12_isFormed_206 rfl ?_
                        refine mw_aload_n cx (q := 210) 1 rfl rfl dX12_isFormed_209 rfl ?_
                        refine mw_aload_n cx (q := 211) 1 rfl rfl dX12_isFormed_210 rfl ?_
                        refine mw_get cx (q := 214) (v := .int ((M 12) 0 0 60)) gf_X12_242 rfl rfl vi_12_0 dX12_isFormed_211 rfl ?_
                        refine mw_iload_n cx (q := 215) 2 rfl rfl dX12_isFormed_214 rfl ?_
                        refine mw_bnd (fun r24 er24 => ?_)
                        refine mw_callV cx (q := 218) (d := 3) (As := [.int ((M 12) 0 0 60), .int p3]) (z := fip M r24) (st := [.int ((M 12) 0 0 60), .ref (ad 12 0 0)]) (st1 := [.int r24, .int ((M 12) 0 0 60), .ref (ad 12 0 0)]) (M' := M) (by rw [er24]; exact mc_X12_following l D ta ad M ((M 12) 0 0 60) p3 hok u_scr hT (CN12_pos hN (by have := isFormed_1 hok hC hT hN (h26 (by assumption)) (by rw [← er1]; assumption); rw [show p1 = 17 by assumption] at this; have : (lst12 17).toInt = 3 := (by decide +kernel); omega))) cv_X12_201 rfl rfl rfl vi_12_0 ⟨Nat.le_of_ble_eq_true rfl, Nat.le_of_ble_eq_true rfl⟩ ⟨Nat.le_refl _, Nat.le_refl _⟩ (by simp [Value.category]) rfl rfl rfl dX12_isFormed_215 rfl ?_
                        have qr240 : Nx12 (M 12) ((M 12) 0 0 60) r24 := (by rw [er24]; exact following_n hok u_scr hT (CN12_pos hN (by have := isFormed_1 hok hC hT hN (h26 (by assumption)) (by rw [← er1]; assumption); rw [show p1 = 17 by assumption] at this; have : (lst12 17).toInt = 3 := (by decide +kernel); omega)))
                        refine mw_bnd (fun r25 er25 => ?_)
                        refine mw_callV cx (q := 221) (d := 4) (As := [.int ((M 12) 0 0 60), .int r24]) (z := fzp M r25) (st := []) (st1 := [.int (b2i r25)]) (M' := M) (by rw [er25]; exact mc_X12_isParts l D ta ad M ((M 12) 0 0 60) r24 hok u_scr hT (by rw [er24]; exact CN12_2 hok hok.scr hT hN (by have := isFormed_1 hok hC hT hN (h26 (by assumption)) (by rw [← er1]; assumption); rw [show p1 = 17 by assumption] at this; have : (lst12 17).toInt = 3 := (by decide +kernel); omega))) cv_X12_280 rfl rfl rfl vi_12_0 ⟨Nat.le_of_ble_eq_true rfl, Nat.le_of_ble_eq_true rfl⟩ ⟨Nat.le_refl _, Nat.le_refl _⟩ (by simp [Value.category]) rfl rfl rfl dX12_isFormed_218 rfl ?_
                        refine mw_ifb_eq cx (tgt := 228) (q := 224) dX12_isFormed_221 (by decide) rfl (fun h26 => ?_) (fun h26 => ?_)
                        · refine mw_iconst cx (q := 229) (v := 0) dX12_isFormed_228 rfl rfl ?_
                          exact mw_zret cx hr rfl rfl dX12_isFormed_229
                        · refine mw_iconst cx (q := 225) (v := 1) dX12_isFormed_224 rfl rfl ?_
                          refine mw_goto cx (tgt := 229) dX12_isFormed_225 (by decide) ?_
                          exact mw_zret cx hr rfl rfl dX12_isFormed_229
                    · refine mw_ifb_eq cx (tgt := 196) (q := 162) dX12_isFormed_159 (by decide) rfl (fun h17 => ?_) (fun h17 => ?_)
                      · refine mw_iconst cx (q := 197) (v := 0) dX12_isFormed_196 rfl rfl ?_
                        refine mw_sub [1, 4] rfl ?_
                        exact hK16 false
                      · refine mw_aload_n cx (q := 163) 1 rfl rfl dX12_isFormed_162 rfl ?_
                        refine mw_aload_n cx (q := 164) 1 rfl rfl dX12_isFormed_163 rfl ?_
                        refine mw_aload_n cx (q := 165) 1 rfl rfl dX12_isFormed_164 rfl ?_
                        refine mw_get cx (q := 168) (v := .int ((M 12) 0 0 60)) gf_X12_242 rfl rfl vi_12_0 dX12_isFormed_165 rfl ?_
                        refine mw_iload_n cx (q := 169) 4 rfl rfl dX12_isFormed_168 rfl ?_
                        refine mw_bnd (fun r18 er18 => ?_)
                        refine mw_callV cx (q := 172) (d := 2) (As := [.int ((M 12) 0 0 60), .int p3]) (z := fip M r18) (st := [.ref (ad 12 0 0)]) (st1 := [.int r18, .ref (ad 12 0 0)]) (M' := M) (by rw [er18]; exact mc_X12_nameAt l D ta ad M ((M 12) 0 0 60) p3 hok u_scr (isName_i hN (by rw [← er14]; assumption))) cv_X12_211 rfl rfl rfl vi_12_0 ⟨Nat.le_of_ble_eq_true rfl, Nat.le_of_ble_eq_true rfl⟩ ⟨Nat.le_refl _, Nat.le_refl _⟩ (by simp [Value.category]) rfl rfl rfl dX12_isFormed_169 rfl ?_
                        refine mw_bnd (fun r19 er19 => ?_)
                        refine mw_callV cx (q := 175) (d := 0) (As := [.int r18]) (z := fip M r19) (st := []) (st1 := [.int r19]) (M' := M) (by rw [er19]; exact mc_X12_opOf l D ta ad M r18) cv_X12_277 rfl rfl rfl vi_12_0 ⟨Nat.le_of_ble_eq_true rfl, Nat.le_of_ble_eq_true rfl⟩ ⟨Nat.le_refl _, Nat.le_refl _⟩ (by simp [Value.category]) rfl rfl rfl dX12_isFormed_172 rfl ?_
                        have qr190 : ¬ r19 = (-1) → vp_in r19 26 := (by rw [er19]; exact opOf_in)
                        refine mw_iconst cx (q := 176) (v := (-1)) dX12_isFormed_175 rfl rfl ?_
                        refine mw_icmp_ne cx (tgt := 196) (q := 179) dX12_isFormed_176 (by decide) rfl (fun h20 => ?_) (fun h20 => ?_)
                        · refine mw_iconst cx (q := 197) (v := 0) dX12_isFormed_196 rfl rfl ?_
                          refine mw_sub [1, 4] rfl ?_
                          exact hK16 false
                        · refine mw_aload_n cx (q := 180) 1 rfl rfl dX12_isFormed_179 rfl ?_
                          refine mw_aload_n cx (q := 181) 1 rfl rfl dX12_isFormed_180 rfl ?_
                          refine mw_get cx (q := 184) (v := .int ((M 12) 0 0 60)) gf_X12_242 rfl rfl vi_12_0 dX12_isFormed_181 rfl ?_
                          refine mw_iload_n cx (q := 185) 4 rfl rfl dX12_isFormed_184 rfl ?_
                          refine mw_bnd (fun r21 er21 => ?_)
                          refine mw_callV cx (q := 188) (d := 3) (As := [.int ((M 12) 0 0 60), .int p3]) (z := fip M r21) (st := []) (st1 := [.int r21]) (M' := M) (by rw [er21]; exact mc_X12_goodAt l D ta ad M ((M 12) 0 0 60) p3 hok u_scr hN) cv_X12_274 rfl rfl rfl vi_12_0 ⟨Nat.le_of_ble_eq_true rfl, Nat.le_of_ble_eq_true rfl⟩ ⟨Nat.le_refl _, Nat.le_refl _⟩ (by simp [Value.category]) rfl rfl rfl dX12_isFormed_185 rfl ?_
                          have qr210 : ¬ r21 = (-1) → vp_in r21 8 := (by rw [er21]; exact goodAt_in)
                          refine mw_iconst cx (q := 189) (v := (-1)) dX12_isFormed_188 rfl rfl ?_
                          refine mw_icmp_ne cx (tgt := 196) (q := 192) dX12_isFormed_189 (by decide) rfl (fun h22 => ?_) (fun h22 => ?_)
                          · refine mw_iconst cx (q := 197) (v := 0) dX12_isFormed_196 rfl rfl ?_
                            refine mw_sub [1, 4] rfl ?_
                            exact hK16 false
                          · refine mw_iconst cx (q := 193) (v := 1) dX12_isFormed_192 rfl rfl ?_
                            refine mw_goto cx (tgt := 197) dX12_isFormed_193 (by decide) ?_
                            refine mw_sub [1, 4] rfl ?_
                            exact hK16 true
                · refine mw_aload_n cx (q := 118) 1 rfl rfl dX12_isFormed_117 rfl ?_
                  refine mw_aload_n cx (q := 119) 1 rfl rfl dX12_isFormed_118 rfl ?_
                  refine mw_get cx (q := 122) (v := .int ((M 12) 0 0 60)) gf_X12_242 rfl rfl vi_12_0 dX12_isFormed_119 rfl ?_
                  refine mw_aload_n cx (q := 123) 1 rfl rfl dX12_isFormed_122 rfl ?_
                  refine mw_aload_n cx (q := 124) 1 rfl rfl dX12_isFormed_123 rfl ?_
                  refine mw_get cx (q := 127) (v := .int ((M 12) 0 0 60)) gf_X12_242 rfl rfl vi_12_0 dX12_isFormed_124 rfl ?_
                  refine mw_iload_n cx (q := 128) 4 rfl rfl dX12_isFormed_127 rfl ?_
                  refine mw_bnd (fun r27 er27 => ?_)
                  refine mw_callV cx (q := 131) (d := 3) (As := [.int ((M 12) 0 0 60), .int p3]) (z := fip M r27) (st := [.int ((M 12) 0 0 60), .ref (ad 12 0 0)]) (st1 := [.int r27, .int ((M 12) 0 0 60), .ref (ad 12 0 0)]) (M' := M) (by rw [er27]; exact mc_X12_following l D ta ad M ((M 12) 0 0 60) p3 hok u_scr hT (CN12_pos hN (by have := isFormed_1 hok hC hT hN (h26 (by assumption)) (by rw [← er1]; assumption); rw [show p1 = 20 by assumption] at this; have : (lst12 20).toInt = 3 := (by decide +kernel); omega))) cv_X12_201 rfl rfl rfl vi_12_0 ⟨Nat.le_of_ble_eq_true rfl, Nat.le_of_ble_eq_true rfl⟩ ⟨Nat.le_refl _, Nat.le_refl _⟩ (by simp [Value.category]) rfl rfl rfl dX12_isFormed_128 rfl ?_
                  have qr270 : Nx12 (M 12) ((M 12) 0 0 60) r27 := (by rw [er27]; exact following_n hok u_scr hT (CN12_pos hN (by have := isFormed_1 hok hC hT hN (h26 (by assumption)) (by rw [← er1]; assumption); rw [show p1 = 20 by assumption] at this; have : (lst12 20).toInt = 3 := (by decide +kernel); omega)))
                  refine mw_bnd (fun r28 er28 => ?_)
                  refine mw_callV cx (q := 134) (d := 3) (As := [.int ((M 12) 0 0 60), .int r27]) (z := fip M r28) (st := []) (st1 := [.int r28]) (M' := M) (by rw [er28]; exact mc_X12_goodAt l D ta ad M ((M 12) 0 0 60) r27 hok u_scr qr270) cv_X12_274 rfl rfl rfl vi_12_0 ⟨Nat.le_of_ble_eq_true rfl, Nat.le_of_ble_eq_true rfl⟩ ⟨Nat.le_refl _, Nat.le_refl _⟩ (by simp [Value.category]) rfl rfl rfl dX12_isFormed_131 rfl ?_
                  have qr280 : ¬ r28 = (-1) → vp_in r28 8 := (by rw [er28]; exact goodAt_in)
                  refine mw_iconst cx (q := 135) (v := (-1)) dX12_isFormed_134 rfl rfl ?_
                  refine mw_icmp_eq cx (tgt := 142) (q := 138) dX12_isFormed_135 (by decide) rfl (fun h29 => ?_) (fun h29 => ?_)
                  · refine mw_iconst cx (q := 143) (v := 0) dX12_isFormed_142 rfl rfl ?_
                    exact mw_zret cx hr rfl rfl dX12_isFormed_143
                  · refine mw_iconst cx (q := 139) (v := 1) dX12_isFormed_138 rfl rfl ?_
                    refine mw_goto cx (tgt := 143) dX12_isFormed_139 (by decide) ?_
                    exact mw_zret cx hr rfl rfl dX12_isFormed_143
              · refine mw_aload_n cx (q := 93) 1 rfl rfl dX12_isFormed_92 rfl ?_
                refine mw_aload_n cx (q := 94) 1 rfl rfl dX12_isFormed_93 rfl ?_
                refine mw_get cx (q := 97) (v := .int ((M 12) 0 0 60)) gf_X12_242 rfl rfl vi_12_0 dX12_isFormed_94 rfl ?_
                refine mw_iload_n cx (q := 98) 4 rfl rfl dX12_isFormed_97 rfl ?_
                refine mw_bnd (fun r30 er30 => ?_)
                refine mw_callV cx (q := 101) (d := 3) (As := [.int ((M 12) 0 0 60), .int p3]) (z := fip M r30) (st := []) (st1 := [.int r30]) (M' := M) (by rw [er30]; exact mc_X12_goodAt l D ta ad M ((M 12) 0 0 60) p3 hok u_scr hN) cv_X12_274 rfl rfl rfl vi_12_0 ⟨Nat.le_of_ble_eq_true rfl, Nat.le_of_ble_eq_true rfl⟩ ⟨Nat.le_refl _, Nat.le_refl _⟩ (by simp [Value.category]) rfl rfl rfl dX12_isFormed_98 rfl ?_
                have qr300 : ¬ r30 = (-1) → vp_in r30 8 := (by rw [er30]; exact goodAt_in)
                refine mw_iconst cx (q := 102) (v := (-1)) dX12_isFormed_101 rfl rfl ?_
                refine mw_icmp_eq cx (tgt := 109) (q := 105) dX12_isFormed_102 (by decide) rfl (fun h31 => ?_) (fun h31 => ?_)
                · refine mw_iconst cx (q := 110) (v := 0) dX12_isFormed_109 rfl rfl ?_
                  exact mw_zret cx hr rfl rfl dX12_isFormed_110
                · refine mw_iconst cx (q := 106) (v := 1) dX12_isFormed_105 rfl rfl ?_
                  refine mw_goto cx (tgt := 110) dX12_isFormed_106 (by decide) ?_
                  exact mw_zret cx hr rfl rfl dX12_isFormed_110
          · refine mw_aload_n cx (q := 71) 1 rfl rfl dX12_isFormed_70 rfl ?_
            refine mw_aload_n cx (q := 72) 1 rfl rfl dX12_isFormed_71 rfl ?_
            refine mw_get cx (q := 75) (v := .int ((M 12) 0 0 60)) gf_X12_242 rfl rfl vi_12_0 dX12_isFormed_72 rfl ?_
            refine mw_iload_n cx (q := 76) 4 rfl rfl dX12_isFormed_75 rfl ?_
            refine mw_bnd (fun r32 er32 => ?_)
            refine mw_callV cx (q := 79) (d := 2) (As := [.int ((M 12) 0 0 60), .int p3]) (z := fzp M r32) (st := []) (st1 := [.int (b2i r32)]) (M' := M) (by rw [er32]; exact mc_X12_isName l D ta ad M ((M 12) 0 0 60) p3 hok u_scr hN) cv_X12_207 rfl rfl rfl vi_12_0 ⟨Nat.le_of_ble_eq_true rfl, Nat.le_of_ble_eq_true rfl⟩ ⟨Nat.le_refl _, Nat.le_refl _⟩ (by simp [Value.category]) rfl rfl rfl dX12_isFormed_76 rfl ?_
            have qr320 : r32 = true → Ix12 (M 12) ((M 12) 0 0 60) p3 := (fun hq => isName_i hN (er32.symm.trans hq))
            exact mw_zret cx hr (b2i_nar _) rfl dX12_isFormed_79
      · refine mw_iconst cx (q := 57) (v := 0) dX12_isFormed_56 rfl rfl ?_
        exact mw_zret cx hr rfl rfl dX12_isFormed_57
  · refine mw_iload cx (q := 19) 0 rfl dX12_isFormed_17 rfl ?_
    refine mw_aload_n cx (q := 20) 1 rfl rfl dX12_isFormed_19 rfl ?_
    refine mw_get cx (q := 23) (v := .ref (ad 12 53 0)) gf_X12_152 rfl rfl vi_12_0 dX12_isFormed_20 rfl ?_
    refine mw_iload_n cx (q := 24) 3 rfl rfl dX12_isFormed_23 rfl ?_
    refine mw_iald cx (q := 25) (w := ((M 12) 53 0 p2)) rfl (fun _ => rfl) vi_12_53 (hp2 h2) dX12_isFormed_24 rfl ?_
    refine mw_icmp_ne cx (tgt := 32) (q := 28) dX12_isFormed_25 (by decide) rfl (fun h33 => ?_) (fun h33 => ?_)
    · refine mw_iconst cx (q := 33) (v := 0) dX12_isFormed_32 rfl rfl ?_
      exact mw_zret cx hr rfl rfl dX12_isFormed_33
    · refine mw_iconst cx (q := 29) (v := 1) dX12_isFormed_28 rfl rfl ?_
      refine mw_goto cx (tgt := 33) dX12_isFormed_29 (by decide) ?_
      exact mw_zret cx hr rfl rfl dX12_isFormed_33
