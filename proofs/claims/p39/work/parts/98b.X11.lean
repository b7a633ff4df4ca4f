def fxi (x : (Nat × Int32) × Wm) : XO := ((x.1.1, some (.int x.1.2)), x.2)
def fgv (M : Wm) (r : Nat) : XO := ((r, none), M)
def fga (ad : wAd) (p1 : Int32) (M : Wm) (r : Nat) : XO := ((r, some (.ref (ad 4 4 p1))), M)
theorem isIn11_t {a b c : Int32} (h : f11_isIn a b c = true) : b.toInt ≤ a.toInt ∧ a.toInt ≤ c.toInt := by
  unfold f11_isIn at h
  by_cases h1 : a < b
  · rw [if_pos h1] at h; cases h
  · rw [if_neg h1] at h
    by_cases h2 : c < a
    · rw [if_pos h2] at h; cases h
    · simp only [i32lt] at h1 h2; omega
def f11_demand (p1 : Bool) : Nat := if p1 = true then 0 else 1
set_option maxHeartbeats 4000000 in
set_option maxRecDepth 100000 in
theorem mc_X11_demand (l : Launch) (hl : l.stackTraces = false) (D : va_G) (ta : wTa) (ad : wAd) (M : Wm) (p1 : Bool) : MX l D ta ad yX11_demand cX11_demand 1 none 6 1 [.int (b2i p1)] M (fgv M (f11_demand p1)) := by
  refine MX.of (fgv M) (f11_demand p1) rfl (by decide) (Nat.le_of_ble_eq_true rfl) (fun p e s m args below meth c cx hzx ht hr => ?_)
  unfold f11_demand
  refine mw_sub (lv' := [(0, .int (b2i p1))]) [0] rfl ?_
  refine mw_iload_n cx (q := 1) 0 rfl rfl dX11_demand_0 rfl ?_
  refine mw_ifb_ne cx (tgt := 12) (q := 4) dX11_demand_1 (by decide) rfl (fun h1 => ?_) (fun h1 => ?_)
  · exact mx_vret cx hr rfl ⟨by decide, by decide⟩ dX11_demand_12
  · exact mx_throw cx hzx hl ht xw_1 (by decide) ⟨rfl, rfl⟩ ⟨by decide, by decide⟩ ⟨by decide, by decide⟩ ⟨by decide, by decide⟩ dX11_demand_4 dX11_demand_7 dX11_demand_8 dX11_demand_11
theorem demand_ok {b : Bool} (h : f11_demand b = 0) : b = true := by
  unfold f11_demand at h
  cases b with
  | true => rfl
  | false => exact absurd h (by decide)
def f11_demandState (p1 : Bool) : Nat := if p1 = true then 0 else 2
set_option maxHeartbeats 4000000 in
set_option maxRecDepth 100000 in
theorem mc_X11_demandState (l : Launch) (hl : l.stackTraces = false) (D : va_G) (ta : wTa) (ad : wAd) (M : Wm) (p1 : Bool) : MX l D ta ad yX11_demandState cX11_demandState 1 none 6 1 [.int (b2i p1)] M (fgv M (f11_demandState p1)) := by
  refine MX.of (fgv M) (f11_demandState p1) rfl (by decide) (Nat.le_of_ble_eq_true rfl) (fun p e s m args below meth c cx hzx ht hr => ?_)
  unfold f11_demandState
  refine mw_sub (lv' := [(0, .int (b2i p1))]) [0] rfl ?_
  refine mw_iload_n cx (q := 1) 0 rfl rfl dX11_demandState_0 rfl ?_
  refine mw_ifb_ne cx (tgt := 12) (q := 4) dX11_demandState_1 (by decide) rfl (fun h1 => ?_) (fun h1 => ?_)
  · exact mx_vret cx hr rfl ⟨by decide, by decide⟩ dX11_demandState_12
  · exact mx_throw cx hzx hl ht xw_2 (by decide) ⟨rfl, rfl⟩ ⟨by decide, by decide⟩ ⟨by decide, by decide⟩ ⟨by decide, by decide⟩ dX11_demandState_4 dX11_demandState_7 dX11_demandState_8 dX11_demandState_11
theorem demandState_ok {b : Bool} (h : f11_demandState b = 0) : b = true := by
  unfold f11_demandState at h
  cases b with
  | true => rfl
  | false => exact absurd h (by decide)
def f11_demandIndex (p1 : Int32) (p2 : Int32) : Nat := if p1 < 0 then 3 else if p1 < p2 then 0 else 3
set_option maxHeartbeats 4000000 in
set_option maxRecDepth 100000 in
theorem mc_X11_demandIndex (l : Launch) (hl : l.stackTraces = false) (D : va_G) (ta : wTa) (ad : wAd) (M : Wm) (p1 : Int32) (p2 : Int32) : MX l D ta ad yX11_demandIndex cX11_demandIndex 2 none 6 1 [.int p1, .int p2] M (fgv M (f11_demandIndex p1 p2)) := by
  refine MX.of (fgv M) (f11_demandIndex p1 p2) rfl (by decide) (Nat.le_of_ble_eq_true rfl) (fun p e s m args below meth c cx hzx ht hr => ?_)
  unfold f11_demandIndex
  refine mw_sub (lv' := [(0, .int p1), (1, .int p2)]) [0, 1] rfl ?_
  refine mw_iload_n cx (q := 1) 0 rfl rfl dX11_demandIndex_0 rfl ?_
  refine mw_if_lt cx (tgt := 9) (q := 4) dX11_demandIndex_1 (by decide) rfl (fun h1 => ?_) (fun h1 => ?_)
  · exact mx_throw cx hzx hl ht xw_3 (by decide) ⟨rfl, rfl⟩ ⟨by decide, by decide⟩ ⟨by decide, by decide⟩ ⟨by decide, by decide⟩ dX11_demandIndex_9 dX11_demandIndex_12 dX11_demandIndex_13 dX11_demandIndex_16
  · refine mw_iload_n cx (q := 5) 0 rfl rfl dX11_demandIndex_4 rfl ?_
    refine mw_iload_n cx (q := 6) 1 rfl rfl dX11_demandIndex_5 rfl ?_
    refine mw_icmp_lt cx (tgt := 17) (q := 9) dX11_demandIndex_6 (by decide) rfl (fun h2 => ?_) (fun h2 => ?_)
    · exact mx_vret cx hr rfl ⟨by decide, by decide⟩ dX11_demandIndex_17
    · exact mx_throw cx hzx hl ht xw_3 (by decide) ⟨rfl, rfl⟩ ⟨by decide, by decide⟩ ⟨by decide, by decide⟩ ⟨by decide, by decide⟩ dX11_demandIndex_9 dX11_demandIndex_12 dX11_demandIndex_13 dX11_demandIndex_16
theorem demandIndex_ok {a b : Int32} (h : f11_demandIndex a b = 0) : 0 ≤ a.toInt ∧ a.toInt < b.toInt := by
  unfold f11_demandIndex at h
  by_cases h1 : a < 0
  · rw [if_pos h1] at h; exact absurd h (by decide)
  · rw [if_neg h1] at h
    by_cases h2 : a < b
    · simp only [i32lt, t32_0] at h1 h2; omega
    · rw [if_neg h2] at h; exact absurd h (by decide)
def f11_demandScript (p1 : Int32) : Nat := bnd (f11_isIn p1 0 7) (fun (r1 : Bool) => bnd (f11_demand r1) (fun (r2 : Nat) => if r2 = 0 then 0 else r2))
set_option maxHeartbeats 4000000 in
set_option maxRecDepth 100000 in
theorem mc_X11_demandScript (l : Launch) (hl : l.stackTraces = false) (D : va_G) (ta : wTa) (ad : wAd) (M : Wm) (p1 : Int32) : MX l D ta ad yX11_demandScript cX11_demandScript 1 none 7 1 [.int p1] M (fgv M (f11_demandScript p1)) := by
  refine MX.of (fgv M) (f11_demandScript p1) rfl (by decide) (Nat.le_of_ble_eq_true rfl) (fun p e s m args below meth c cx hzx ht hr => ?_)
  unfold f11_demandScript
  refine mw_sub (lv' := [(0, .int p1)]) [0] rfl ?_
  refine mw_iload_n cx (q := 1) 0 rfl rfl dX11_demandScript_0 rfl ?_
  refine mw_iconst cx (q := 2) (v := 0) dX11_demandScript_1 rfl rfl ?_
  refine mw_bipush cx (q := 4) (v := 7) dX11_demandScript_2 rfl rfl ?_
  refine mw_bnd (fun r1 er1 => ?_)
  refine mw_callS cx (q := 7) (d := 0) (As := [.int p1, .int 0, .int 7]) (z := fzp M r1) (st := []) (st1 := [.int (b2i r1)]) (M' := M) (by rw [er1]; exact mc_X11_isIn l D ta ad M p1 0 7) cv_X11_105 ⟨Nat.le_of_ble_eq_true rfl, Nat.le_of_ble_eq_true rfl⟩ ⟨by decide, by decide⟩ (by simp [Value.category]) rfl rfl rfl dX11_demandScript_4 rfl ?_
  refine mw_bnd (fun r2 er2 => ?_)
  refine mx_gS cx hzx ht (q := 10) (d := 6) (u0 := 1) (As := [.int (b2i r1)]) (r := r2) (v := none) (st := []) (st1 := []) (by rw [er2]; exact mc_X11_demand l hl D ta ad M r1) cv_X11_65 ⟨by decide, by decide⟩ ⟨by decide, by decide⟩ ⟨by decide, by decide⟩ (by simp [Value.category]) rfl rfl ⟨rfl, rfl⟩ dX11_demandScript_7 rfl (fun h3 => ?_)
  have qr20 : r1 = true := demand_ok (er2.symm.trans h3)
  exact mx_vret cx hr rfl ⟨by decide, by decide⟩ dX11_demandScript_10
theorem demandScript_ok {a : Int32} (h : f11_demandScript a = 0) : vp_in a 8 := by
  unfold f11_demandScript at h
  simp only [bnd_e] at h
  by_cases h1 : f11_demand (f11_isIn a 0 7) = 0
  · have h2 := isIn11_t (demand_ok h1)
    rw [show (7 : Int32).toInt = 7 by decide, t32_0] at h2
    rw [vp_in_iff]; omega
  · rw [if_neg h1] at h; exact absurd h h1
def f11_demandGood (p1 : Int32) : Nat := bnd (f11_isIn p1 0 7) (fun (r1 : Bool) => bnd (f11_demand r1) (fun (r2 : Nat) => if r2 = 0 then 0 else r2))
set_option maxHeartbeats 4000000 in
set_option maxRecDepth 100000 in
theorem mc_X11_demandGood (l : Launch) (hl : l.stackTraces = false) (D : va_G) (ta : wTa) (ad : wAd) (M : Wm) (p1 : Int32) : MX l D ta ad yX11_demandGood cX11_demandGood 1 none 7 1 [.int p1] M (fgv M (f11_demandGood p1)) := by
  refine MX.of (fgv M) (f11_demandGood p1) rfl (by decide) (Nat.le_of_ble_eq_true rfl) (fun p e s m args below meth c cx hzx ht hr => ?_)
  unfold f11_demandGood
  refine mw_sub (lv' := [(0, .int p1)]) [0] rfl ?_
  refine mw_iload_n cx (q := 1) 0 rfl rfl dX11_demandGood_0 rfl ?_
  refine mw_iconst cx (q := 2) (v := 0) dX11_demandGood_1 rfl rfl ?_
  refine mw_bipush cx (q := 4) (v := 7) dX11_demandGood_2 rfl rfl ?_
  refine mw_bnd (fun r1 er1 => ?_)
  refine mw_callS cx (q := 7) (d := 0) (As := [.int p1, .int 0, .int 7]) (z := fzp M r1) (st := []) (st1 := [.int (b2i r1)]) (M' := M) (by rw [er1]; exact mc_X11_isIn l D ta ad M p1 0 7) cv_X11_105 ⟨Nat.le_of_ble_eq_true rfl, Nat.le_of_ble_eq_true rfl⟩ ⟨by decide, by decide⟩ (by simp [Value.category]) rfl rfl rfl dX11_demandGood_4 rfl ?_
  refine mw_bnd (fun r2 er2 => ?_)
  refine mx_gS cx hzx ht (q := 10) (d := 6) (u0 := 1) (As := [.int (b2i r1)]) (r := r2) (v := none) (st := []) (st1 := []) (by rw [er2]; exact mc_X11_demand l hl D ta ad M r1) cv_X11_65 ⟨by decide, by decide⟩ ⟨by decide, by decide⟩ ⟨by decide, by decide⟩ (by simp [Value.category]) rfl rfl ⟨rfl, rfl⟩ dX11_demandGood_7 rfl (fun h3 => ?_)
  have qr20 : r1 = true := demand_ok (er2.symm.trans h3)
  exact mx_vret cx hr rfl ⟨by decide, by decide⟩ dX11_demandGood_10
theorem demandGood_ok {a : Int32} (h : f11_demandGood a = 0) : vp_in a 8 := by
  unfold f11_demandGood at h
  simp only [bnd_e] at h
  by_cases h1 : f11_demand (f11_isIn a 0 7) = 0
  · have h2 := isIn11_t (demand_ok h1)
    rw [show (7 : Int32).toInt = 7 by decide, t32_0] at h2
    rw [vp_in_iff]; omega
  · rw [if_neg h1] at h; exact absurd h h1
def f11_demandCompany (p1 : Int32) : Nat := bnd (f11_isIn p1 0 3) (fun (r1 : Bool) => bnd (f11_demand r1) (fun (r2 : Nat) => if r2 = 0 then 0 else r2))
set_option maxHeartbeats 4000000 in
set_option maxRecDepth 100000 in
theorem mc_X11_demandCompany (l : Launch) (hl : l.stackTraces = false) (D : va_G) (ta : wTa) (ad : wAd) (M : Wm) (p1 : Int32) : MX l D ta ad yX11_demandCompany cX11_demandCompany 1 none 7 1 [.int p1] M (fgv M (f11_demandCompany p1)) := by
  refine MX.of (fgv M) (f11_demandCompany p1) rfl (by decide) (Nat.le_of_ble_eq_true rfl) (fun p e s m args below meth c cx hzx ht hr => ?_)
  unfold f11_demandCompany
  refine mw_sub (lv' := [(0, .int p1)]) [0] rfl ?_
  refine mw_iload_n cx (q := 1) 0 rfl rfl dX11_demandCompany_0 rfl ?_
  refine mw_iconst cx (q := 2) (v := 0) dX11_demandCompany_1 rfl rfl ?_
  refine mw_iconst cx (q := 3) (v := 3) dX11_demandCompany_2 rfl rfl ?_
  refine mw_bnd (fun r1 er1 => ?_)
  refine mw_callS cx (q := 6) (d := 0) (As := [.int p1, .int 0, .int 3]) (z := fzp M r1) (st := []) (st1 := [.int (b2i r1)]) (M' := M) (by rw [er1]; exact mc_X11_isIn l D ta ad M p1 0 3) cv_X11_105 ⟨Nat.le_of_ble_eq_true rfl, Nat.le_of_ble_eq_true rfl⟩ ⟨by decide, by decide⟩ (by simp [Value.category]) rfl rfl rfl dX11_demandCompany_3 rfl ?_
  refine mw_bnd (fun r2 er2 => ?_)
  refine mx_gS cx hzx ht (q := 9) (d := 6) (u0 := 1) (As := [.int (b2i r1)]) (r := r2) (v := none) (st := []) (st1 := []) (by rw [er2]; exact mc_X11_demand l hl D ta ad M r1) cv_X11_65 ⟨by decide, by decide⟩ ⟨by decide, by decide⟩ ⟨by decide, by decide⟩ (by simp [Value.category]) rfl rfl ⟨rfl, rfl⟩ dX11_demandCompany_6 rfl (fun h3 => ?_)
  have qr20 : r1 = true := demand_ok (er2.symm.trans h3)
  exact mx_vret cx hr rfl ⟨by decide, by decide⟩ dX11_demandCompany_9
theorem demandCompany_ok {a : Int32} (h : f11_demandCompany a = 0) : vp_in a 4 := by
  unfold f11_demandCompany at h
  simp only [bnd_e] at h
  by_cases h1 : f11_demand (f11_isIn a 0 3) = 0
  · have h2 := isIn11_t (demand_ok h1)
    rw [show (3 : Int32).toInt = 3 by decide, t32_0] at h2
    rw [vp_in_iff]; omega
  · rw [if_neg h1] at h; exact absurd h h1
def f11_demandOwner (p1 : Int32) : Nat := jn (fun (v1 : Bool) => bnd (f11_demand v1) (fun (r6 : Nat) => if r6 = 0 then 0 else r6)) (fun K2 => if p1 = (-1) then K2 true else bnd (f11_isIn p1 0 3) (fun (r4 : Bool) => if r4 = true then K2 true else K2 false))
set_option maxHeartbeats 4000000 in
set_option maxRecDepth 100000 in
theorem mc_X11_demandOwner (l : Launch) (hl : l.stackTraces = false) (D : va_G) (ta : wTa) (ad : wAd) (M : Wm) (p1 : Int32) : MX l D ta ad yX11_demandOwner cX11_demandOwner 1 none 7 1 [.int p1] M (fgv M (f11_demandOwner p1)) := by
  refine MX.of (fgv M) (f11_demandOwner p1) rfl (by decide) (Nat.le_of_ble_eq_true rfl) (fun p e s m args below meth c cx hzx ht hr => ?_)
  unfold f11_demandOwner
  refine mw_sub (lv' := [(0, .int p1)]) [0] rfl ?_
  refine mw_iload_n cx (q := 1) 0 rfl rfl dX11_demandOwner_0 rfl ?_
  refine mw_iconst cx (q := 2) (v := (-1)) dX11_demandOwner_1 rfl rfl ?_
  refine mw_jn (Mj := fun (v1 : Bool) => M) (pj := 19) (lj := fun (v1 : Bool) => []) (sj := fun (v1 : Bool) => [.int (b2i v1)]) (fun v1 => ?_) (fun K2 hK2 => ?_)
  · refine mw_bnd (fun r6 er6 => ?_)
    refine mx_gS cx hzx ht (q := 22) (d := 6) (u0 := 1) (As := [.int (b2i v1)]) (r := r6) (v := none) (st := []) (st1 := []) (by rw [er6]; exact mc_X11_demand l hl D ta ad M v1) cv_X11_65 ⟨by decide, by decide⟩ ⟨by decide, by decide⟩ ⟨by decide, by decide⟩ (by simp [Value.category]) rfl rfl ⟨rfl, rfl⟩ dX11_demandOwner_19 rfl (fun h7 => ?_)
    have qr60 : v1 = true := demand_ok (er6.symm.trans h7)
    exact mx_vret cx hr rfl ⟨by decide, by decide⟩ dX11_demandOwner_22
  · refine mw_icmp_eq cx (tgt := 14) (q := 5) dX11_demandOwner_2 (by decide) rfl (fun h3 => ?_) (fun h3 => ?_)
    · refine mw_iconst cx (q := 15) (v := 1) dX11_demandOwner_14 rfl rfl ?_
      refine mw_goto cx (tgt := 19) dX11_demandOwner_15 (by decide) ?_
      refine mw_sub [] rfl ?_
      exact hK2 true
    · refine mw_iload_n cx (q := 6) 0 rfl rfl dX11_demandOwner_5 rfl ?_
      refine mw_iconst cx (q := 7) (v := 0) dX11_demandOwner_6 rfl rfl ?_
      refine mw_iconst cx (q := 8) (v := 3) dX11_demandOwner_7 rfl rfl ?_
      refine mw_bnd (fun r4 er4 => ?_)
      refine mw_callS cx (q := 11) (d := 0) (As := [.int p1, .int 0, .int 3]) (z := fzp M r4) (st := []) (st1 := [.int (b2i r4)]) (M' := M) (by rw [er4]; exact mc_X11_isIn l D ta ad M p1 0 3) cv_X11_105 ⟨Nat.le_of_ble_eq_true rfl, Nat.le_of_ble_eq_true rfl⟩ ⟨by decide, by decide⟩ (by simp [Value.category]) rfl rfl rfl dX11_demandOwner_8 rfl ?_
      refine mw_ifb_eq cx (tgt := 18) (q := 14) dX11_demandOwner_11 (by decide) rfl (fun h5 => ?_) (fun h5 => ?_)
      · refine mw_iconst cx (q := 19) (v := 0) dX11_demandOwner_18 rfl rfl ?_
        refine mw_sub [] rfl ?_
        exact hK2 false
      · refine mw_iconst cx (q := 15) (v := 1) dX11_demandOwner_14 rfl rfl ?_
        refine mw_goto cx (tgt := 19) dX11_demandOwner_15 (by decide) ?_
        refine mw_sub [] rfl ?_
        exact hK2 true
theorem demandOwner_e (a : Int32) : f11_demandOwner a = f11_demand (if a = -1 then true else f11_isIn a 0 3) := by
  unfold f11_demandOwner
  simp only [bnd_e, jn_e]
  by_cases h1 : a = -1
  · rw [if_pos h1, if_pos h1]
    by_cases h2 : f11_demand true = 0
    · rw [if_pos h2, h2]
    · rw [if_neg h2]
  · rw [if_neg h1, if_neg h1]
    by_cases h3 : f11_isIn a 0 3 = true
    · rw [if_pos h3, h3]
      by_cases h2 : f11_demand true = 0
      · rw [if_pos h2, h2]
      · rw [if_neg h2]
    · rw [if_neg h3, Bool.not_eq_true _ |>.mp h3]
      by_cases h2 : f11_demand false = 0
      · rw [if_pos h2, h2]
      · rw [if_neg h2]
theorem demandOwner_ok {a : Int32} (h : f11_demandOwner a = 0) : vp_in (a + 1) 5 := by
  rw [demandOwner_e] at h
  have h1 := demand_ok h
  by_cases c : a = -1
  · rw [c]; exact vin_lit (by decide)
  · rw [if_neg c] at h1
    have h2 := isIn11_t h1
    rw [t32_0, t32_3] at h2
    rw [vp_in_iff, inc_t h2.1 (by omega)]; omega
def f11_existing (M : Wm) (p1 : Int32) : Nat := bnd (f11_demandIndex p1 (M 4 0 0 1)) (fun (r1 : Nat) => if r1 = 0 then 0 else r1)
set_option maxHeartbeats 4000000 in
set_option maxRecDepth 100000 in
theorem mc_X11_existing (l : Launch) (hl : l.stackTraces = false) (D : va_G) (ta : wTa) (ad : wAd) (M : Wm) (p1 : Int32) (hc1 : (M 4 0 0 1).toInt ≤ 60) : MX l D ta ad yX11_existing cX11_existing 2 (some (.object "RationLisp$Order")) 7 1 [.ref (ad 11 0 0), .int p1] M (fga ad p1 M (f11_existing M p1)) := by
  refine MX.of (fga ad p1 M) (f11_existing M p1) rfl (by decide) (Nat.le_of_ble_eq_true rfl) (fun p e s m args below meth c cx hzx ht hr => ?_)
  unfold f11_existing
  refine mw_sub (lv' := [(0, .ref (ad 11 0 0)), (1, .int p1)]) [0, 1] rfl ?_
  refine mw_iload_n cx (q := 1) 1 rfl rfl dX11_existing_0 rfl ?_
  refine mw_aload_n cx (q := 2) 0 rfl rfl dX11_existing_1 rfl ?_
  refine mw_get cx (q := 5) (v := .ref (ad 4 0 0)) gf_X11_42 rfl rfl vi_11_0 dX11_existing_2 rfl ?_
  refine mw_getN cx (q := 8) (v := .int (M 4 0 0 1)) gf_X11_165 rfl rfl vi_4_0 dX11_existing_5 rfl ?_
  refine mw_bnd (fun r1 er1 => ?_)
  refine mx_gS cx hzx ht (q := 11) (d := 6) (u0 := 1) (As := [.int p1, .int (M 4 0 0 1)]) (r := r1) (v := none) (st := []) (st1 := []) (by rw [er1]; exact mc_X11_demandIndex l hl D ta ad M p1 (M 4 0 0 1)) cv_X11_83 ⟨by decide, by decide⟩ ⟨by decide, by decide⟩ ⟨by decide, by decide⟩ (by simp [Value.category]) rfl rfl ⟨rfl, rfl⟩ dX11_existing_8 rfl (fun h2 => ?_)
  have qr10 : 0 ≤ p1.toInt ∧ p1.toInt < (M 4 0 0 1).toInt := demandIndex_ok (er1.symm.trans h2)
  refine mw_aload_n cx (q := 12) 0 rfl rfl dX11_existing_11 rfl ?_
  refine mw_get cx (q := 15) (v := .ref (ad 4 0 0)) gf_X11_42 rfl rfl vi_11_0 dX11_existing_12 rfl ?_
  refine mw_getN cx (q := 18) (v := .ref (ad 4 1 0)) gf_X11_168 rfl rfl vi_4_0 dX11_existing_15 rfl ?_
  refine mw_iload_n cx (q := 19) 1 rfl rfl dX11_existing_18 rfl ?_
  refine mw_aald cx (q := 20) (fun _ => rfl) rfl rfl vi_4_1 (by simp only [vp_in_iff, i32lt, i32le, i32eq, i32add, i32sub, i32mul, i32neg, t32_0, t32_1, t32_4, t32_60] at qr10 hc1 ⊢; omega) dX11_existing_19 rfl ?_
  exact mx_aret cx hr (Or.inl ⟨_, rfl⟩) (Or.inr ⟨_, rfl⟩) rfl ⟨by decide, by decide⟩ dX11_existing_20
theorem existing_ok {M : Wm} {p1 : Int32} (h : f11_existing M p1 = 0) : 0 ≤ p1.toInt ∧ p1.toInt < (M 4 0 0 1).toInt := by
  unfold f11_existing at h
  simp only [bnd_e] at h
  by_cases c : f11_demandIndex p1 (M 4 0 0 1) = 0
  · exact demandIndex_ok c
  · rw [if_neg c] at h; exact absurd h c
def f11_type (M : Wm) (p1 : Int32) (p2 : Int32) : ((Nat × Int32) × Wm) := bnd (f11_demandScript p1) (fun (r1 : Nat) => if r1 = 0 then bnd (f6_isSign p2) (fun (r3 : Bool) => bnd (f11_demand r3) (fun (r4 : Nat) => if r4 = 0 then bnd (f8_lengthOf (M 8) p1) (fun (r6 : Int32) => jn (fun (v7 : Bool) => bnd (f11_demandState v7) (fun (r10 : Nat) => if r10 = 0 then bnd (f8_append (M 8) p1 p2) (fun (r12 : Int32 × Cm) => bnd (uW M 8 r12.2) (fun (M13 : Wm) => ((0, r12.1), M13))) else ((r10, 0), M))) (fun K8 => if 120 ≤ r6 then K8 false else K8 true)) else ((r4, 0), M))) else ((r1, 0), M))
set_option maxHeartbeats 4000000 in
set_option maxRecDepth 100000 in
theorem mc_X11_type (l : Launch) (hl : l.stackTraces = false) (D : va_G) (ta : wTa) (ad : wAd) (M : Wm) (p1 : Int32) (p2 : Int32) (hln : ∀ j : Int32, vp_in j 8 → 0 ≤ (M 8 2 0 j).toInt ∧ (M 8 2 0 j).toInt ≤ 120) : MX l D ta ad yX11_type cX11_type 3 (some .int) 8 3 [.ref (ad 11 0 0), .int p1, .int p2] M (fxi (f11_type M p1 p2)) := by
  refine MX.of (fxi) (f11_type M p1 p2) rfl (by decide) (Nat.le_of_ble_eq_true rfl) (fun p e s m args below meth c cx hzx ht hr => ?_)
  unfold f11_type
  refine mw_sub (lv' := [(0, .ref (ad 11 0 0)), (1, .int p1), (2, .int p2)]) [0, 1, 2] rfl ?_
  refine mw_iload_n cx (q := 1) 1 rfl rfl dX11_type_0 rfl ?_
  refine mw_bnd (fun r1 er1 => ?_)
  refine mx_gS cx hzx ht (q := 4) (d := 7) (u0 := 1) (As := [.int p1]) (r := r1) (v := none) (st := []) (st1 := []) (by rw [er1]; exact mc_X11_demandScript l hl D ta ad M p1) cv_X11_55 ⟨by decide, by decide⟩ ⟨by decide, by decide⟩ ⟨by decide, by decide⟩ (by simp [Value.category]) rfl rfl ⟨rfl, rfl⟩ dX11_type_1 rfl (fun h2 => ?_)
  have qr10 : vp_in p1 8 := demandScript_ok (er1.symm.trans h2)
  refine mw_iload_n cx (q := 5) 2 rfl rfl dX11_type_4 rfl ?_
  refine mw_bnd (fun r3 er3 => ?_)
  refine mw_callS cx (q := 8) (d := 2) (As := [.int p2]) (z := fzp M r3) (st := []) (st1 := [.int (b2i r3)]) (M' := M) (by rw [er3]; exact mc_X6_isSign l D ta ad M p2) cv_X11_59 ⟨Nat.le_of_ble_eq_true rfl, Nat.le_of_ble_eq_true rfl⟩ ⟨by decide, by decide⟩ (by simp [Value.category]) rfl rfl rfl dX11_type_5 rfl ?_
  refine mw_bnd (fun r4 er4 => ?_)
  refine mx_gS cx hzx ht (q := 11) (d := 6) (u0 := 1) (As := [.int (b2i r3)]) (r := r4) (v := none) (st := []) (st1 := []) (by rw [er4]; exact mc_X11_demand l hl D ta ad M r3) cv_X11_65 ⟨by decide, by decide⟩ ⟨by decide, by decide⟩ ⟨by decide, by decide⟩ (by simp [Value.category]) rfl rfl ⟨rfl, rfl⟩ dX11_type_8 rfl (fun h5 => ?_)
  have qr40 : r3 = true := demand_ok (er4.symm.trans h5)
  refine mw_aload_n cx (q := 12) 0 rfl rfl dX11_type_11 rfl ?_
  refine mw_get cx (q := 15) (v := .ref (ad 8 0 0)) gf_X11_21 rfl rfl vi_11_0 dX11_type_12 rfl ?_
  refine mw_iload_n cx (q := 16) 1 rfl rfl dX11_type_15 rfl ?_
  refine mw_bnd (fun r6 er6 => ?_)
  refine mw_callV cx (q := 19) (d := 0) (As := [.int p1]) (z := fip M r6) (st := []) (st1 := [.int r6]) (M' := M) (by rw [er6]; exact mc_X8_lengthOf l D ta ad M p1 qr10) cv_X11_69 rfl rfl rfl vi_8_0 ⟨Nat.le_of_ble_eq_true rfl, Nat.le_of_ble_eq_true rfl⟩ ⟨by decide, by decide⟩ (by simp [Value.category]) rfl rfl rfl dX11_type_16 rfl ?_
  refine mw_bipush cx (q := 21) (v := 120) dX11_type_19 rfl rfl ?_
  refine mw_jnP (P := fun (v7 : Bool) => (v7 = true → (M 8 2 0 p1).toInt < 120)) (Mj := fun (v7 : Bool) => M) (pj := 29) (lj := fun (v7 : Bool) => [(0, .ref (ad 11 0 0)), (1, .int p1), (2, .int p2)]) (sj := fun (v7 : Bool) => [.int (b2i v7)]) (fun v7 jv7 => ?_) (fun K8 hK8 => ?_)
  · have jv7_0 := jv7
    refine mw_bnd (fun r10 er10 => ?_)
    refine mx_gS cx hzx ht (q := 32) (d := 6) (u0 := 1) (As := [.int (b2i v7)]) (r := r10) (v := none) (st := []) (st1 := []) (by rw [er10]; exact mc_X11_demandState l hl D ta ad M v7) cv_X11_73 ⟨by decide, by decide⟩ ⟨by decide, by decide⟩ ⟨by decide, by decide⟩ (by simp [Value.category]) rfl rfl ⟨rfl, rfl⟩ dX11_type_29 rfl (fun h11 => ?_)
    have qr100 : v7 = true := demandState_ok (er10.symm.trans h11)
    refine mw_aload_n cx (q := 33) 0 rfl rfl dX11_type_32 rfl ?_
    refine mw_get cx (q := 36) (v := .ref (ad 8 0 0)) gf_X11_21 rfl rfl vi_11_0 dX11_type_33 rfl ?_
    refine mw_iload_n cx (q := 37) 1 rfl rfl dX11_type_36 rfl ?_
    refine mw_iload_n cx (q := 38) 2 rfl rfl dX11_type_37 rfl ?_
    refine mw_bnd (fun r12 er12 => ?_)
    refine mw_callV cx (q := 41) (d := 0) (As := [.int p1, .int p2]) (z := fic M 8 r12) (st := []) (st1 := [.int r12.1]) (M' := uW M 8 r12.2) (by rw [er12]; exact mc_X8_append l D ta ad M p1 p2 qr10 (hln _ (by assumption)).1 (jv7_0 qr100)) cv_X11_76 rfl rfl rfl vi_8_0 ⟨Nat.le_of_ble_eq_true rfl, Nat.le_of_ble_eq_true rfl⟩ ⟨by decide, by decide⟩ (by simp [Value.category]) rfl rfl rfl dX11_type_38 rfl ?_
    refine mw_bndM (fun M13 eM13 => ?_)
    exact mx_iret cx hr rfl rfl ⟨by decide, by decide⟩ dX11_type_41
  · refine mw_icmp_ge cx (tgt := 28) (q := 24) dX11_type_21 (by decide) rfl (fun h9 => ?_) (fun h9 => ?_)
    · refine mw_iconst cx (q := 29) (v := 0) dX11_type_28 rfl rfl ?_
      exact hK8 false (by intro hz; first | exact absurd hz (by decide) | (refine Int.not_le.mp (fun h8 => ?_); have h7 : (120 : Int32) ≤ f8_lengthOf (M 8) p1 := (by simp only [i32le, t32_120]; exact h8); rw [← er6] at h7; exact absurd h7 (by assumption)))
    · refine mw_iconst cx (q := 25) (v := 1) dX11_type_24 rfl rfl ?_
      refine mw_goto cx (tgt := 29) dX11_type_25 (by decide) ?_
      exact hK8 true (by intro hz; first | exact absurd hz (by decide) | (refine Int.not_le.mp (fun h8 => ?_); have h7 : (120 : Int32) ≤ f8_lengthOf (M 8) p1 := (by simp only [i32le, t32_120]; exact h8); rw [← er6] at h7; exact absurd h7 (by assumption)))
def f11_erase (M : Wm) (p1 : Int32) (p2 : Int32) : ((Nat × Int32) × Wm) := bnd (f11_demandScript p1) (fun (r1 : Nat) => if r1 = 0 then jn (fun (v3 : Bool) => bnd (f11_demand v3) (fun (r6 : Nat) => if r6 = 0 then bnd (f8_cut (M 8) p1 p2) (fun (r8 : Int32 × Cm) => bnd (uW M 8 r8.2) (fun (M9 : Wm) => ((0, r8.1), M9))) else ((r6, 0), M))) (fun K4 => if p2 < 1 then K4 false else K4 true) else ((r1, 0), M))
set_option maxHeartbeats 4000000 in
set_option maxRecDepth 100000 in
theorem mc_X11_erase (l : Launch) (hl : l.stackTraces = false) (D : va_G) (ta : wTa) (ad : wAd) (M : Wm) (p1 : Int32) (p2 : Int32) : MX l D ta ad yX11_erase cX11_erase 3 (some .int) 8 2 [.ref (ad 11 0 0), .int p1, .int p2] M (fxi (f11_erase M p1 p2)) := by
  refine MX.of (fxi) (f11_erase M p1 p2) rfl (by decide) (Nat.le_of_ble_eq_true rfl) (fun p e s m args below meth c cx hzx ht hr => ?_)
  unfold f11_erase
  refine mw_sub (lv' := [(0, .ref (ad 11 0 0)), (1, .int p1), (2, .int p2)]) [0, 1, 2] rfl ?_
  refine mw_iload_n cx (q := 1) 1 rfl rfl dX11_erase_0 rfl ?_
  refine mw_bnd (fun r1 er1 => ?_)
  refine mx_gS cx hzx ht (q := 4) (d := 7) (u0 := 1) (As := [.int p1]) (r := r1) (v := none) (st := []) (st1 := []) (by rw [er1]; exact mc_X11_demandScript l hl D ta ad M p1) cv_X11_55 ⟨by decide, by decide⟩ ⟨by decide, by decide⟩ ⟨by decide, by decide⟩ (by simp [Value.category]) rfl rfl ⟨rfl, rfl⟩ dX11_erase_1 rfl (fun h2 => ?_)
  have qr10 : vp_in p1 8 := demandScript_ok (er1.symm.trans h2)
  refine mw_iload_n cx (q := 5) 2 rfl rfl dX11_erase_4 rfl ?_
  refine mw_iconst cx (q := 6) (v := 1) dX11_erase_5 rfl rfl ?_
  refine mw_jn (Mj := fun (v3 : Bool) => M) (pj := 14) (lj := fun (v3 : Bool) => [(0, .ref (ad 11 0 0)), (1, .int p1), (2, .int p2)]) (sj := fun (v3 : Bool) => [.int (b2i v3)]) (fun v3 => ?_) (fun K4 hK4 => ?_)
  · refine mw_bnd (fun r6 er6 => ?_)
    refine mx_gS cx hzx ht (q := 17) (d := 6) (u0 := 1) (As := [.int (b2i v3)]) (r := r6) (v := none) (st := []) (st1 := []) (by rw [er6]; exact mc_X11_demand l hl D ta ad M v3) cv_X11_65 ⟨by decide, by decide⟩ ⟨by decide, by decide⟩ ⟨by decide, by decide⟩ (by simp [Value.category]) rfl rfl ⟨rfl, rfl⟩ dX11_erase_14 rfl (fun h7 => ?_)
    have qr60 : v3 = true := demand_ok (er6.symm.trans h7)
    refine mw_aload_n cx (q := 18) 0 rfl rfl dX11_erase_17 rfl ?_
    refine mw_get cx (q := 21) (v := .ref (ad 8 0 0)) gf_X11_21 rfl rfl vi_11_0 dX11_erase_18 rfl ?_
    refine mw_iload_n cx (q := 22) 1 rfl rfl dX11_erase_21 rfl ?_
    refine mw_iload_n cx (q := 23) 2 rfl rfl dX11_erase_22 rfl ?_
    refine mw_bnd (fun r8 er8 => ?_)
    refine mw_callV cx (q := 26) (d := 1) (As := [.int p1, .int p2]) (z := fic M 8 r8) (st := []) (st1 := [.int r8.1]) (M' := uW M 8 r8.2) (by rw [er8]; exact mc_X8_cut l D ta ad M p1 p2 qr10) cv_X11_80 rfl rfl rfl vi_8_0 ⟨Nat.le_of_ble_eq_true rfl, Nat.le_of_ble_eq_true rfl⟩ ⟨by decide, by decide⟩ (by simp [Value.category]) rfl rfl rfl dX11_erase_23 rfl ?_
    refine mw_bndM (fun M9 eM9 => ?_)
    exact mx_iret cx hr rfl rfl ⟨by decide, by decide⟩ dX11_erase_26
  · refine mw_icmp_lt cx (tgt := 13) (q := 9) dX11_erase_6 (by decide) rfl (fun h5 => ?_) (fun h5 => ?_)
    · refine mw_iconst cx (q := 14) (v := 0) dX11_erase_13 rfl rfl ?_
      exact hK4 false
    · refine mw_iconst cx (q := 10) (v := 1) dX11_erase_9 rfl rfl ?_
      refine mw_goto cx (tgt := 14) dX11_erase_10 (by decide) ?_
      exact hK4 true
def f11_length (M : Wm) (p1 : Int32) : ((Nat × Int32) × Wm) := bnd (f11_demandScript p1) (fun (r1 : Nat) => if r1 = 0 then bnd (f8_lengthOf (M 8) p1) (fun (r3 : Int32) => ((0, r3), M)) else ((r1, 0), M))
set_option maxHeartbeats 4000000 in
set_option maxRecDepth 100000 in
theorem mc_X11_length (l : Launch) (hl : l.stackTraces = false) (D : va_G) (ta : wTa) (ad : wAd) (M : Wm) (p1 : Int32) : MX l D ta ad yX11_length cX11_length 2 (some .int) 8 1 [.ref (ad 11 0 0), .int p1] M (fxi (f11_length M p1)) := by
  refine MX.of (fxi) (f11_length M p1) rfl (by decide) (Nat.le_of_ble_eq_true rfl) (fun p e s m args below meth c cx hzx ht hr => ?_)
  unfold f11_length
  refine mw_sub (lv' := [(0, .ref (ad 11 0 0)), (1, .int p1)]) [0, 1] rfl ?_
  refine mw_iload_n cx (q := 1) 1 rfl rfl dX11_length_0 rfl ?_
  refine mw_bnd (fun r1 er1 => ?_)
  refine mx_gS cx hzx ht (q := 4) (d := 7) (u0 := 1) (As := [.int p1]) (r := r1) (v := none) (st := []) (st1 := []) (by rw [er1]; exact mc_X11_demandScript l hl D ta ad M p1) cv_X11_55 ⟨by decide, by decide⟩ ⟨by decide, by decide⟩ ⟨by decide, by decide⟩ (by simp [Value.category]) rfl rfl ⟨rfl, rfl⟩ dX11_length_1 rfl (fun h2 => ?_)
  have qr10 : vp_in p1 8 := demandScript_ok (er1.symm.trans h2)
  refine mw_aload_n cx (q := 5) 0 rfl rfl dX11_length_4 rfl ?_
  refine mw_get cx (q := 8) (v := .ref (ad 8 0 0)) gf_X11_21 rfl rfl vi_11_0 dX11_length_5 rfl ?_
  refine mw_iload_n cx (q := 9) 1 rfl rfl dX11_length_8 rfl ?_
  refine mw_bnd (fun r3 er3 => ?_)
  refine mw_callV cx (q := 12) (d := 0) (As := [.int p1]) (z := fip M r3) (st := []) (st1 := [.int r3]) (M' := M) (by rw [er3]; exact mc_X8_lengthOf l D ta ad M p1 qr10) cv_X11_69 rfl rfl rfl vi_8_0 ⟨Nat.le_of_ble_eq_true rfl, Nat.le_of_ble_eq_true rfl⟩ ⟨by decide, by decide⟩ (by simp [Value.category]) rfl rfl rfl dX11_length_9 rfl ?_
  exact mx_iret cx hr rfl rfl ⟨by decide, by decide⟩ dX11_length_12
def f11_fault (M : Wm) (p1 : Int32) : ((Nat × Int32) × Wm) := bnd (f11_demandScript p1) (fun (r1 : Nat) => if r1 = 0 then bnd (f8_readChanged M) (fun (r3 : Wm) => bnd (f8_faultOf (r3 8) p1) (fun (r4 : Int32) => ((0, r4), r3))) else ((r1, 0), M))
set_option maxHeartbeats 4000000 in
set_option maxRecDepth 100000 in
theorem mc_X11_fault (l : Launch) (hl : l.stackTraces = false) (D : va_G) (ta : wTa) (ad : wAd) (M : Wm) (p1 : Int32) (hln : ∀ j : Int32, vp_in j 8 → 0 ≤ (M 8 2 0 j).toInt ∧ (M 8 2 0 j).toInt ≤ 120) : MX l D ta ad yX11_fault cX11_fault 2 (some .int) 8 1 [.ref (ad 11 0 0), .int p1] M (fxi (f11_fault M p1)) := by
  refine MX.of (fxi) (f11_fault M p1) rfl (by decide) (Nat.le_of_ble_eq_true rfl) (fun p e s m args below meth c cx hzx ht hr => ?_)
  unfold f11_fault
  refine mw_sub (lv' := [(0, .ref (ad 11 0 0)), (1, .int p1)]) [0, 1] rfl ?_
  refine mw_iload_n cx (q := 1) 1 rfl rfl dX11_fault_0 rfl ?_
  refine mw_bnd (fun r1 er1 => ?_)
  refine mx_gS cx hzx ht (q := 4) (d := 7) (u0 := 1) (As := [.int p1]) (r := r1) (v := none) (st := []) (st1 := []) (by rw [er1]; exact mc_X11_demandScript l hl D ta ad M p1) cv_X11_55 ⟨by decide, by decide⟩ ⟨by decide, by decide⟩ ⟨by decide, by decide⟩ (by simp [Value.category]) rfl rfl ⟨rfl, rfl⟩ dX11_fault_1 rfl (fun h2 => ?_)
  have qr10 : vp_in p1 8 := demandScript_ok (er1.symm.trans h2)
  refine mw_aload_n cx (q := 5) 0 rfl rfl dX11_fault_4 rfl ?_
  refine mw_get cx (q := 8) (v := .ref (ad 8 0 0)) gf_X11_21 rfl rfl vi_11_0 dX11_fault_5 rfl ?_
  refine mw_bnd (fun r3 er3 => ?_)
  refine mw_callV cx (q := 11) (d := 5) (As := []) (z := fv r3) (st := []) (st1 := []) (M' := r3) (by rw [er3]; exact mc_X8_readChanged l D ta ad M hln) cv_X11_90 rfl rfl rfl vi_8_0 ⟨Nat.le_of_ble_eq_true rfl, Nat.le_of_ble_eq_true rfl⟩ ⟨by decide, by decide⟩ (by simp [Value.category]) rfl rfl rfl dX11_fault_8 rfl ?_
  refine mw_aload_n cx (q := 12) 0 rfl rfl dX11_fault_11 rfl ?_
  refine mw_get cx (q := 15) (v := .ref (ad 8 0 0)) gf_X11_21 rfl rfl vi_11_0 dX11_fault_12 rfl ?_
  refine mw_iload_n cx (q := 16) 1 rfl rfl dX11_fault_15 rfl ?_
  refine mw_bnd (fun r4 er4 => ?_)
  refine mw_callV cx (q := 19) (d := 0) (As := [.int p1]) (z := fip r3 r4) (st := []) (st1 := [.int r4]) (M' := r3) (by rw [er4]; exact mc_X8_faultOf l D ta ad r3 p1 qr10) cv_X11_93 rfl rfl rfl vi_8_0 ⟨Nat.le_of_ble_eq_true rfl, Nat.le_of_ble_eq_true rfl⟩ ⟨by decide, by decide⟩ (by simp [Value.category]) rfl rfl rfl dX11_fault_16 rfl ?_
  exact mx_iret cx hr rfl rfl ⟨by decide, by decide⟩ dX11_fault_19
def f11_expressions (M : Wm) (p1 : Int32) : ((Nat × Int32) × Wm) := bnd (f11_demandScript p1) (fun (r1 : Nat) => if r1 = 0 then bnd (f8_readChanged M) (fun (r3 : Wm) => bnd (f8_faultOf (r3 8) p1) (fun (r4 : Int32) => jn (fun (v5 : Bool) => bnd (f11_demandState v5) (fun (r8 : Nat) => if r8 = 0 then bnd (f9_rowOf p1) (fun (r10 : Int32) => bnd (f9_partsOf (r3 9) r10) (fun (r11 : Int32) => ((0, r11), r3))) else ((r8, 0), r3))) (fun K6 => if r4 = (-1) then K6 true else K6 false))) else ((r1, 0), M))
set_option maxHeartbeats 4000000 in
set_option maxRecDepth 100000 in
theorem mc_X11_expressions (l : Launch) (hl : l.stackTraces = false) (D : va_G) (ta : wTa) (ad : wAd) (M : Wm) (p1 : Int32) (hln : ∀ j : Int32, vp_in j 8 → 0 ≤ (M 8 2 0 j).toInt ∧ (M 8 2 0 j).toInt ≤ 120) : MX l D ta ad yX11_expressions cX11_expressions 2 (some .int) 8 2 [.ref (ad 11 0 0), .int p1] M (fxi (f11_expressions M p1)) := by
  refine MX.of (fxi) (f11_expressions M p1) rfl (by decide) (Nat.le_of_ble_eq_true rfl) (fun p e s m args below meth c cx hzx ht hr => ?_)
  unfold f11_expressions
  refine mw_sub (lv' := [(0, .ref (ad 11 0 0)), (1, .int p1)]) [0, 1] rfl ?_
  refine mw_iload_n cx (q := 1) 1 rfl rfl dX11_expressions_0 rfl ?_
  refine mw_bnd (fun r1 er1 => ?_)
  refine mx_gS cx hzx ht (q := 4) (d := 7) (u0 := 1) (As := [.int p1]) (r := r1) (v := none) (st := []) (st1 := []) (by rw [er1]; exact mc_X11_demandScript l hl D ta ad M p1) cv_X11_55 ⟨by decide, by decide⟩ ⟨by decide, by decide⟩ ⟨by decide, by decide⟩ (by simp [Value.category]) rfl rfl ⟨rfl, rfl⟩ dX11_expressions_1 rfl (fun h2 => ?_)
  have qr10 : vp_in p1 8 := demandScript_ok (er1.symm.trans h2)
  refine mw_aload_n cx (q := 5) 0 rfl rfl dX11_expressions_4 rfl ?_
  refine mw_get cx (q := 8) (v := .ref (ad 8 0 0)) gf_X11_21 rfl rfl vi_11_0 dX11_expressions_5 rfl ?_
  refine mw_bnd (fun r3 er3 => ?_)
  refine mw_callV cx (q := 11) (d := 5) (As := []) (z := fv r3) (st := []) (st1 := []) (M' := r3) (by rw [er3]; exact mc_X8_readChanged l D ta ad M hln) cv_X11_90 rfl rfl rfl vi_8_0 ⟨Nat.le_of_ble_eq_true rfl, Nat.le_of_ble_eq_true rfl⟩ ⟨by decide, by decide⟩ (by simp [Value.category]) rfl rfl rfl dX11_expressions_8 rfl ?_
  refine mw_aload_n cx (q := 12) 0 rfl rfl dX11_expressions_11 rfl ?_
  refine mw_get cx (q := 15) (v := .ref (ad 8 0 0)) gf_X11_21 rfl rfl vi_11_0 dX11_expressions_12 rfl ?_
  refine mw_iload_n cx (q := 16) 1 rfl rfl dX11_expressions_15 rfl ?_
  refine mw_bnd (fun r4 er4 => ?_)
  refine mw_callV cx (q := 19) (d := 0) (As := [.int p1]) (z := fip r3 r4) (st := []) (st1 := [.int r4]) (M' := r3) (by rw [er4]; exact mc_X8_faultOf l D ta ad r3 p1 qr10) cv_X11_93 rfl rfl rfl vi_8_0 ⟨Nat.le_of_ble_eq_true rfl, Nat.le_of_ble_eq_true rfl⟩ ⟨by decide, by decide⟩ (by simp [Value.category]) rfl rfl rfl dX11_expressions_16 rfl ?_
  refine mw_iconst cx (q := 20) (v := (-1)) dX11_expressions_19 rfl rfl ?_
  refine mw_jn (Mj := fun (v5 : Bool) => r3) (pj := 28) (lj := fun (v5 : Bool) => [(0, .ref (ad 11 0 0)), (1, .int p1)]) (sj := fun (v5 : Bool) => [.int (b2i v5)]) (fun v5 => ?_) (fun K6 hK6 => ?_)
  · refine mw_bnd (fun r8 er8 => ?_)
    refine mx_gS cx hzx ht (q := 31) (d := 6) (u0 := 1) (As := [.int (b2i v5)]) (r := r8) (v := none) (st := []) (st1 := []) (by rw [er8]; exact mc_X11_demandState l hl D ta ad r3 v5) cv_X11_73 ⟨by decide, by decide⟩ ⟨by decide, by decide⟩ ⟨by decide, by decide⟩ (by simp [Value.category]) rfl rfl ⟨rfl, rfl⟩ dX11_expressions_28 rfl (fun h9 => ?_)
    have qr80 : v5 = true := demandState_ok (er8.symm.trans h9)
    refine mw_aload_n cx (q := 32) 0 rfl rfl dX11_expressions_31 rfl ?_
    refine mw_get cx (q := 35) (v := .ref (ad 9 0 0)) gf_X11_10 rfl rfl vi_11_0 dX11_expressions_32 rfl ?_
    refine mw_iload_n cx (q := 36) 1 rfl rfl dX11_expressions_35 rfl ?_
    refine mw_bnd (fun r10 er10 => ?_)
    refine mw_callS cx (q := 39) (d := 1) (As := [.int p1]) (z := fip r3 r10) (st := [.ref (ad 9 0 0)]) (st1 := [.int r10, .ref (ad 9 0 0)]) (M' := r3) (by rw [er10]; exact mc_X9_rowOf l D ta ad r3 p1) cv_X11_96 ⟨Nat.le_of_ble_eq_true rfl, Nat.le_of_ble_eq_true rfl⟩ ⟨by decide, by decide⟩ (by simp [Value.category]) rfl rfl rfl dX11_expressions_36 rfl ?_
    refine mw_bnd (fun r11 er11 => ?_)
    refine mw_callV cx (q := 42) (d := 0) (As := [.int r10]) (z := fip r3 r11) (st := []) (st1 := [.int r11]) (M' := r3) (by rw [er11]; exact mc_X9_partsOf l D ta ad r3 r10) cv_X11_99 rfl rfl rfl vi_9_0 ⟨Nat.le_of_ble_eq_true rfl, Nat.le_of_ble_eq_true rfl⟩ ⟨by decide, by decide⟩ (by simp [Value.category]) rfl rfl rfl dX11_expressions_39 rfl ?_
    exact mx_iret cx hr rfl rfl ⟨by decide, by decide⟩ dX11_expressions_42
  · refine mw_icmp_ne cx (tgt := 27) (q := 23) dX11_expressions_20 (by decide) rfl (fun h7 => ?_) (fun h7 => ?_)
    · refine mw_iconst cx (q := 28) (v := 0) dX11_expressions_27 rfl rfl ?_
      exact hK6 false
    · refine mw_iconst cx (q := 24) (v := 1) dX11_expressions_23 rfl rfl ?_
      refine mw_goto cx (tgt := 28) dX11_expressions_24 (by decide) ?_
      exact hK6 true
def f11_supply (M : Wm) (p1 : Int32) (p2 : Int32) : ((Nat × Int32) × Wm) := bnd (f11_demandGood p1) (fun (r1 : Nat) => if r1 = 0 then bnd (f11_isIn p2 1 1000) (fun (r3 : Bool) => bnd (f11_demand r3) (fun (r4 : Nat) => if r4 = 0 then bnd (f1_receive (M 1) p1 p2) (fun (r6 : Int32 × Cm) => bnd (uW M 1 r6.2) (fun (M7 : Wm) => ((0, r6.1), M7))) else ((r4, 0), M))) else ((r1, 0), M))
set_option maxHeartbeats 4000000 in
set_option maxRecDepth 100000 in
theorem mc_X11_supply (l : Launch) (hl : l.stackTraces = false) (D : va_G) (ta : wTa) (ad : wAd) (M : Wm) (p1 : Int32) (p2 : Int32) : MX l D ta ad yX11_supply cX11_supply 3 (some .int) 8 2 [.ref (ad 11 0 0), .int p1, .int p2] M (fxi (f11_supply M p1 p2)) := by
  refine MX.of (fxi) (f11_supply M p1 p2) rfl (by decide) (Nat.le_of_ble_eq_true rfl) (fun p e s m args below meth c cx hzx ht hr => ?_)
  unfold f11_supply
  refine mw_sub (lv' := [(0, .ref (ad 11 0 0)), (1, .int p1), (2, .int p2)]) [0, 1, 2] rfl ?_
  refine mw_iload_n cx (q := 1) 1 rfl rfl dX11_supply_0 rfl ?_
  refine mw_bnd (fun r1 er1 => ?_)
  refine mx_gS cx hzx ht (q := 4) (d := 7) (u0 := 1) (As := [.int p1]) (r := r1) (v := none) (st := []) (st1 := []) (by rw [er1]; exact mc_X11_demandGood l hl D ta ad M p1) cv_X11_102 ⟨by decide, by decide⟩ ⟨by decide, by decide⟩ ⟨by decide, by decide⟩ (by simp [Value.category]) rfl rfl ⟨rfl, rfl⟩ dX11_supply_1 rfl (fun h2 => ?_)
  have qr10 : vp_in p1 8 := demandGood_ok (er1.symm.trans h2)
  refine mw_iload_n cx (q := 5) 2 rfl rfl dX11_supply_4 rfl ?_
  refine mw_iconst cx (q := 6) (v := 1) dX11_supply_5 rfl rfl ?_
  refine mw_sipush cx (q := 9) (v := 1000) dX11_supply_6 rfl rfl ?_
  refine mw_bnd (fun r3 er3 => ?_)
  refine mw_callS cx (q := 12) (d := 0) (As := [.int p2, .int 1, .int 1000]) (z := fzp M r3) (st := []) (st1 := [.int (b2i r3)]) (M' := M) (by rw [er3]; exact mc_X11_isIn l D ta ad M p2 1 1000) cv_X11_105 ⟨Nat.le_of_ble_eq_true rfl, Nat.le_of_ble_eq_true rfl⟩ ⟨by decide, by decide⟩ (by simp [Value.category]) rfl rfl rfl dX11_supply_9 rfl ?_
  refine mw_bnd (fun r4 er4 => ?_)
  refine mx_gS cx hzx ht (q := 15) (d := 6) (u0 := 1) (As := [.int (b2i r3)]) (r := r4) (v := none) (st := []) (st1 := []) (by rw [er4]; exact mc_X11_demand l hl D ta ad M r3) cv_X11_65 ⟨by decide, by decide⟩ ⟨by decide, by decide⟩ ⟨by decide, by decide⟩ (by simp [Value.category]) rfl rfl ⟨rfl, rfl⟩ dX11_supply_12 rfl (fun h5 => ?_)
  have qr40 : r3 = true := demand_ok (er4.symm.trans h5)
  refine mw_aload_n cx (q := 16) 0 rfl rfl dX11_supply_15 rfl ?_
  refine mw_get cx (q := 19) (v := .ref (ad 1 0 0)) gf_X11_35 rfl rfl vi_11_0 dX11_supply_16 rfl ?_
  refine mw_iload_n cx (q := 20) 1 rfl rfl dX11_supply_19 rfl ?_
  refine mw_iload_n cx (q := 21) 2 rfl rfl dX11_supply_20 rfl ?_
  refine mw_bnd (fun r6 er6 => ?_)
  refine mw_callV cx (q := 24) (d := 0) (As := [.int p1, .int p2]) (z := fic M 1 r6) (st := []) (st1 := [.int r6.1]) (M' := uW M 1 r6.2) (by rw [er6]; exact mc_X1_receive l D ta ad M p1 p2 qr10) cv_X11_109 rfl rfl rfl vi_1_0 ⟨Nat.le_of_ble_eq_true rfl, Nat.le_of_ble_eq_true rfl⟩ ⟨by decide, by decide⟩ (by simp [Value.category]) rfl rfl rfl dX11_supply_21 rfl ?_
  refine mw_bndM (fun M7 eM7 => ?_)
  exact mx_iret cx hr rfl rfl ⟨by decide, by decide⟩ dX11_supply_24
def f11_giveRations (M : Wm) (p1 : Int32) (p2 : Int32) : ((Nat × Int32) × Wm) := bnd (f11_demandCompany p1) (fun (r1 : Nat) => if r1 = 0 then bnd (f11_isIn p2 1 1000) (fun (r3 : Bool) => bnd (f11_demand r3) (fun (r4 : Nat) => if r4 = 0 then bnd (f5_addRations (M 5) p1 p2) (fun (r6 : Int32 × Cm) => bnd (uW M 5 r6.2) (fun (M7 : Wm) => ((0, r6.1), M7))) else ((r4, 0), M))) else ((r1, 0), M))
set_option maxHeartbeats 4000000 in
set_option maxRecDepth 100000 in
theorem mc_X11_giveRations (l : Launch) (hl : l.stackTraces = false) (D : va_G) (ta : wTa) (ad : wAd) (M : Wm) (p1 : Int32) (p2 : Int32) : MX l D ta ad yX11_giveRations cX11_giveRations 3 (some .int) 8 2 [.ref (ad 11 0 0), .int p1, .int p2] M (fxi (f11_giveRations M p1 p2)) := by
  refine MX.of (fxi) (f11_giveRations M p1 p2) rfl (by decide) (Nat.le_of_ble_eq_true rfl) (fun p e s m args below meth c cx hzx ht hr => ?_)
  unfold f11_giveRations
  refine mw_sub (lv' := [(0, .ref (ad 11 0 0)), (1, .int p1), (2, .int p2)]) [0, 1, 2] rfl ?_
  refine mw_iload_n cx (q := 1) 1 rfl rfl dX11_giveRations_0 rfl ?_
  refine mw_bnd (fun r1 er1 => ?_)
  refine mx_gS cx hzx ht (q := 4) (d := 7) (u0 := 1) (As := [.int p1]) (r := r1) (v := none) (st := []) (st1 := []) (by rw [er1]; exact mc_X11_demandCompany l hl D ta ad M p1) cv_X11_112 ⟨by decide, by decide⟩ ⟨by decide, by decide⟩ ⟨by decide, by decide⟩ (by simp [Value.category]) rfl rfl ⟨rfl, rfl⟩ dX11_giveRations_1 rfl (fun h2 => ?_)
  have qr10 : vp_in p1 4 := demandCompany_ok (er1.symm.trans h2)
  refine mw_iload_n cx (q := 5) 2 rfl rfl dX11_giveRations_4 rfl ?_
  refine mw_iconst cx (q := 6) (v := 1) dX11_giveRations_5 rfl rfl ?_
  refine mw_sipush cx (q := 9) (v := 1000) dX11_giveRations_6 rfl rfl ?_
  refine mw_bnd (fun r3 er3 => ?_)
  refine mw_callS cx (q := 12) (d := 0) (As := [.int p2, .int 1, .int 1000]) (z := fzp M r3) (st := []) (st1 := [.int (b2i r3)]) (M' := M) (by rw [er3]; exact mc_X11_isIn l D ta ad M p2 1 1000) cv_X11_105 ⟨Nat.le_of_ble_eq_true rfl, Nat.le_of_ble_eq_true rfl⟩ ⟨by decide, by decide⟩ (by simp [Value.category]) rfl rfl rfl dX11_giveRations_9 rfl ?_
  refine mw_bnd (fun r4 er4 => ?_)
  refine mx_gS cx hzx ht (q := 15) (d := 6) (u0 := 1) (As := [.int (b2i r3)]) (r := r4) (v := none) (st := []) (st1 := []) (by rw [er4]; exact mc_X11_demand l hl D ta ad M r3) cv_X11_65 ⟨by decide, by decide⟩ ⟨by decide, by decide⟩ ⟨by decide, by decide⟩ (by simp [Value.category]) rfl rfl ⟨rfl, rfl⟩ dX11_giveRations_12 rfl (fun h5 => ?_)
  have qr40 : r3 = true := demand_ok (er4.symm.trans h5)
  refine mw_aload_n cx (q := 16) 0 rfl rfl dX11_giveRations_15 rfl ?_
  refine mw_get cx (q := 19) (v := .ref (ad 5 0 0)) gf_X11_28 rfl rfl vi_11_0 dX11_giveRations_16 rfl ?_
  refine mw_iload_n cx (q := 20) 1 rfl rfl dX11_giveRations_19 rfl ?_
  refine mw_iload_n cx (q := 21) 2 rfl rfl dX11_giveRations_20 rfl ?_
  refine mw_bnd (fun r6 er6 => ?_)
  refine mw_callV cx (q := 24) (d := 0) (As := [.int p1, .int p2]) (z := fic M 5 r6) (st := []) (st1 := [.int r6.1]) (M' := uW M 5 r6.2) (by rw [er6]; exact mc_X5_addRations l D ta ad M p1 p2 qr10) cv_X11_115 rfl rfl rfl vi_5_0 ⟨Nat.le_of_ble_eq_true rfl, Nat.le_of_ble_eq_true rfl⟩ ⟨by decide, by decide⟩ (by simp [Value.category]) rfl rfl rfl dX11_giveRations_21 rfl ?_
  refine mw_bndM (fun M7 eM7 => ?_)
  exact mx_iret cx hr rfl rfl ⟨by decide, by decide⟩ dX11_giveRations_24
def f11_setTariff (M : Wm) (p1 : Int32) : ((Nat × Int32) × Wm) := bnd (f11_isIn p1 0 100) (fun (r1 : Bool) => bnd (f11_demand r1) (fun (r2 : Nat) => if r2 = 0 then bnd (f5_changeTariff (M 5) p1) (fun (r4 : Int32 × Cm) => bnd (uW M 5 r4.2) (fun (M5 : Wm) => ((0, r4.1), M5))) else ((r2, 0), M)))
set_option maxHeartbeats 4000000 in
set_option maxRecDepth 100000 in
theorem mc_X11_setTariff (l : Launch) (hl : l.stackTraces = false) (D : va_G) (ta : wTa) (ad : wAd) (M : Wm) (p1 : Int32) : MX l D ta ad yX11_setTariff cX11_setTariff 2 (some .int) 8 1 [.ref (ad 11 0 0), .int p1] M (fxi (f11_setTariff M p1)) := by
  refine MX.of (fxi) (f11_setTariff M p1) rfl (by decide) (Nat.le_of_ble_eq_true rfl) (fun p e s m args below meth c cx hzx ht hr => ?_)
  unfold f11_setTariff
  refine mw_sub (lv' := [(0, .ref (ad 11 0 0)), (1, .int p1)]) [0, 1] rfl ?_
  refine mw_iload_n cx (q := 1) 1 rfl rfl dX11_setTariff_0 rfl ?_
  refine mw_iconst cx (q := 2) (v := 0) dX11_setTariff_1 rfl rfl ?_
  refine mw_bipush cx (q := 4) (v := 100) dX11_setTariff_2 rfl rfl ?_
  refine mw_bnd (fun r1 er1 => ?_)
  refine mw_callS cx (q := 7) (d := 0) (As := [.int p1, .int 0, .int 100]) (z := fzp M r1) (st := []) (st1 := [.int (b2i r1)]) (M' := M) (by rw [er1]; exact mc_X11_isIn l D ta ad M p1 0 100) cv_X11_105 ⟨Nat.le_of_ble_eq_true rfl, Nat.le_of_ble_eq_true rfl⟩ ⟨by decide, by decide⟩ (by simp [Value.category]) rfl rfl rfl dX11_setTariff_4 rfl ?_
  refine mw_bnd (fun r2 er2 => ?_)
  refine mx_gS cx hzx ht (q := 10) (d := 6) (u0 := 1) (As := [.int (b2i r1)]) (r := r2) (v := none) (st := []) (st1 := []) (by rw [er2]; exact mc_X11_demand l hl D ta ad M r1) cv_X11_65 ⟨by decide, by decide⟩ ⟨by decide, by decide⟩ ⟨by decide, by decide⟩ (by simp [Value.category]) rfl rfl ⟨rfl, rfl⟩ dX11_setTariff_7 rfl (fun h3 => ?_)
  have qr20 : r1 = true := demand_ok (er2.symm.trans h3)
  refine mw_aload_n cx (q := 11) 0 rfl rfl dX11_setTariff_10 rfl ?_
  refine mw_get cx (q := 14) (v := .ref (ad 5 0 0)) gf_X11_28 rfl rfl vi_11_0 dX11_setTariff_11 rfl ?_
  refine mw_iload_n cx (q := 15) 1 rfl rfl dX11_setTariff_14 rfl ?_
  refine mw_bnd (fun r4 er4 => ?_)
  refine mw_callV cx (q := 18) (d := 0) (As := [.int p1]) (z := fic M 5 r4) (st := []) (st1 := [.int r4.1]) (M' := uW M 5 r4.2) (by rw [er4]; exact mc_X5_changeTariff l D ta ad M p1) cv_X11_118 rfl rfl rfl vi_5_0 ⟨Nat.le_of_ble_eq_true rfl, Nat.le_of_ble_eq_true rfl⟩ ⟨by decide, by decide⟩ (by simp [Value.category]) rfl rfl rfl dX11_setTariff_15 rfl ?_
  refine mw_bndM (fun M5 eM5 => ?_)
  exact mx_iret cx hr rfl rfl ⟨by decide, by decide⟩ dX11_setTariff_18
def f11_buy (M : Wm) (p1 : Int32) (p2 : Int32) : ((Nat × Int32) × Wm) := bnd (f11_demandCompany p1) (fun (r1 : Nat) => if r1 = 0 then jn (fun (v3 : Bool) => bnd (f11_demand v3) (fun (r6 : Nat) => if r6 = 0 then bnd (f5_rationsOf (M 5) p1) (fun (r8 : Int32) => jn (fun (v9 : Bool) => bnd (f11_demandState v9) (fun (r12 : Nat) => if r12 = 0 then bnd (f5_buyFuel (M 5) p1 p2) (fun (r14 : Int32 × Cm) => bnd (uW M 5 r14.2) (fun (M15 : Wm) => ((0, r14.1), M15))) else ((r12, 0), M))) (fun K10 => if r8 < p2 then K10 false else K10 true)) else ((r6, 0), M))) (fun K4 => if p2 < 1 then K4 false else K4 true) else ((r1, 0), M))
set_option maxHeartbeats 4000000 in
set_option maxRecDepth 100000 in
theorem mc_X11_buy (l : Launch) (hl : l.stackTraces = false) (D : va_G) (ta : wTa) (ad : wAd) (M : Wm) (p1 : Int32) (p2 : Int32) : MX l D ta ad yX11_buy cX11_buy 3 (some .int) 8 3 [.ref (ad 11 0 0), .int p1, .int p2] M (fxi (f11_buy M p1 p2)) := by
  refine MX.of (fxi) (f11_buy M p1 p2) rfl (by decide) (Nat.le_of_ble_eq_true rfl) (fun p e s m args below meth c cx hzx ht hr => ?_)
  unfold f11_buy
  refine mw_sub (lv' := [(0, .ref (ad 11 0 0)), (1, .int p1), (2, .int p2)]) [0, 1, 2] rfl ?_
  refine mw_iload_n cx (q := 1) 1 rfl rfl dX11_buy_0 rfl ?_
  refine mw_bnd (fun r1 er1 => ?_)
  refine mx_gS cx hzx ht (q := 4) (d := 7) (u0 := 1) (As := [.int p1]) (r := r1) (v := none) (st := []) (st1 := []) (by rw [er1]; exact mc_X11_demandCompany l hl D ta ad M p1) cv_X11_112 ⟨by decide, by decide⟩ ⟨by decide, by decide⟩ ⟨by decide, by decide⟩ (by simp [Value.category]) rfl rfl ⟨rfl, rfl⟩ dX11_buy_1 rfl (fun h2 => ?_)
  have qr10 : vp_in p1 4 := demandCompany_ok (er1.symm.trans h2)
  refine mw_iload_n cx (q := 5) 2 rfl rfl dX11_buy_4 rfl ?_
  refine mw_iconst cx (q := 6) (v := 1) dX11_buy_5 rfl rfl ?_
  refine mw_jn (Mj := fun (v3 : Bool) => M) (pj := 14) (lj := fun (v3 : Bool) => [(0, .ref (ad 11 0 0)), (1, .int p1), (2, .int p2)]) (sj := fun (v3 : Bool) => [.int (b2i v3)]) (fun v3 => ?_) (fun K4 hK4 => ?_)
  · refine mw_bnd (fun r6 er6 => ?_)
    refine mx_gS cx hzx ht (q := 17) (d := 6) (u0 := 1) (As := [.int (b2i v3)]) (r := r6) (v := none) (st := []) (st1 := []) (by rw [er6]; exact mc_X11_demand l hl D ta ad M v3) cv_X11_65 ⟨by decide, by decide⟩ ⟨by decide, by decide⟩ ⟨by decide, by decide⟩ (by simp [Value.category]) rfl rfl ⟨rfl, rfl⟩ dX11_buy_14 rfl (fun h7 => ?_)
    have qr60 : v3 = true := demand_ok (er6.symm.trans h7)
    refine mw_aload_n cx (q := 18) 0 rfl rfl dX11_buy_17 rfl ?_
    refine mw_get cx (q := 21) (v := .ref (ad 5 0 0)) gf_X11_28 rfl rfl vi_11_0 dX11_buy_18 rfl ?_
    refine mw_iload_n cx (q := 22) 1 rfl rfl dX11_buy_21 rfl ?_
    refine mw_bnd (fun r8 er8 => ?_)
    refine mw_callV cx (q := 25) (d := 0) (As := [.int p1]) (z := fip M r8) (st := []) (st1 := [.int r8]) (M' := M) (by rw [er8]; exact mc_X5_rationsOf l D ta ad M p1 qr10) cv_X11_121 rfl rfl rfl vi_5_0 ⟨Nat.le_of_ble_eq_true rfl, Nat.le_of_ble_eq_true rfl⟩ ⟨by decide, by decide⟩ (by simp [Value.category]) rfl rfl rfl dX11_buy_22 rfl ?_
    refine mw_iload_n cx (q := 26) 2 rfl rfl dX11_buy_25 rfl ?_
    refine mw_jn (Mj := fun (v9 : Bool) => M) (pj := 34) (lj := fun (v9 : Bool) => [(0, .ref (ad 11 0 0)), (1, .int p1), (2, .int p2)]) (sj := fun (v9 : Bool) => [.int (b2i v9)]) (fun v9 => ?_) (fun K10 hK10 => ?_)
    · refine mw_bnd (fun r12 er12 => ?_)
      refine mx_gS cx hzx ht (q := 37) (d := 6) (u0 := 1) (As := [.int (b2i v9)]) (r := r12) (v := none) (st := []) (st1 := []) (by rw [er12]; exact mc_X11_demandState l hl D ta ad M v9) cv_X11_73 ⟨by decide, by decide⟩ ⟨by decide, by decide⟩ ⟨by decide, by decide⟩ (by simp [Value.category]) rfl rfl ⟨rfl, rfl⟩ dX11_buy_34 rfl (fun h13 => ?_)
      have qr120 : v9 = true := demandState_ok (er12.symm.trans h13)
      refine mw_aload_n cx (q := 38) 0 rfl rfl dX11_buy_37 rfl ?_
      refine mw_get cx (q := 41) (v := .ref (ad 5 0 0)) gf_X11_28 rfl rfl vi_11_0 dX11_buy_38 rfl ?_
      refine mw_iload_n cx (q := 42) 1 rfl rfl dX11_buy_41 rfl ?_
      refine mw_iload_n cx (q := 43) 2 rfl rfl dX11_buy_42 rfl ?_
      refine mw_bnd (fun r14 er14 => ?_)
      refine mw_callV cx (q := 46) (d := 1) (As := [.int p1, .int p2]) (z := fic M 5 r14) (st := []) (st1 := [.int r14.1]) (M' := uW M 5 r14.2) (by rw [er14]; exact mc_X5_buyFuel l D ta ad M p1 p2 qr10) cv_X11_124 rfl rfl rfl vi_5_0 ⟨Nat.le_of_ble_eq_true rfl, Nat.le_of_ble_eq_true rfl⟩ ⟨by decide, by decide⟩ (by simp [Value.category]) rfl rfl rfl dX11_buy_43 rfl ?_
      refine mw_bndM (fun M15 eM15 => ?_)
      exact mx_iret cx hr rfl rfl ⟨by decide, by decide⟩ dX11_buy_46
    · refine mw_icmp_lt cx (tgt := 33) (q := 29) dX11_buy_26 (by decide) rfl (fun h11 => ?_) (fun h11 => ?_)
      · refine mw_iconst cx (q := 34) (v := 0) dX11_buy_33 rfl rfl ?_
        exact hK10 false
      · refine mw_iconst cx (q := 30) (v := 1) dX11_buy_29 rfl rfl ?_
        refine mw_goto cx (tgt := 34) dX11_buy_30 (by decide) ?_
        exact hK10 true
  · refine mw_icmp_lt cx (tgt := 13) (q := 9) dX11_buy_6 (by decide) rfl (fun h5 => ?_) (fun h5 => ?_)
    · refine mw_iconst cx (q := 14) (v := 0) dX11_buy_13 rfl rfl ?_
      exact hK4 false
    · refine mw_iconst cx (q := 10) (v := 1) dX11_buy_9 rfl rfl ?_
      refine mw_goto cx (tgt := 14) dX11_buy_10 (by decide) ?_
      exact hK4 true
def f11_setBuying (M : Wm) (p1 : Int32) (p2 : Bool) : ((Nat × Int32) × Wm) := bnd (f11_demandCompany p1) (fun (r1 : Nat) => if r1 = 0 then bnd (f5_changeBuying (M 5) p1 p2) (fun (r3 : Bool × Cm) => bnd (uW M 5 r3.2) (fun (M4 : Wm) => ((0, b2i r3.1), M4))) else ((r1, 0), M))
set_option maxHeartbeats 4000000 in
set_option maxRecDepth 100000 in
theorem mc_X11_setBuying (l : Launch) (hl : l.stackTraces = false) (D : va_G) (ta : wTa) (ad : wAd) (M : Wm) (p1 : Int32) (p2 : Bool) (hb : ∀ j : Int32, vp_in j 4 → M 5 3 0 j = 0 ∨ M 5 3 0 j = 1) : MX l D ta ad yX11_setBuying cX11_setBuying 3 (some .boolean) 8 1 [.ref (ad 11 0 0), .int p1, .int (b2i p2)] M (fxi (f11_setBuying M p1 p2)) := by
  refine MX.of (fxi) (f11_setBuying M p1 p2) rfl (by decide) (Nat.le_of_ble_eq_true rfl) (fun p e s m args below meth c cx hzx ht hr => ?_)
  unfold f11_setBuying
  refine mw_sub (lv' := [(0, .ref (ad 11 0 0)), (1, .int p1), (2, .int (b2i p2))]) [0, 1, 2] rfl ?_
  refine mw_iload_n cx (q := 1) 1 rfl rfl dX11_setBuying_0 rfl ?_
  refine mw_bnd (fun r1 er1 => ?_)
  refine mx_gS cx hzx ht (q := 4) (d := 7) (u0 := 1) (As := [.int p1]) (r := r1) (v := none) (st := []) (st1 := []) (by rw [er1]; exact mc_X11_demandCompany l hl D ta ad M p1) cv_X11_112 ⟨by decide, by decide⟩ ⟨by decide, by decide⟩ ⟨by decide, by decide⟩ (by simp [Value.category]) rfl rfl ⟨rfl, rfl⟩ dX11_setBuying_1 rfl (fun h2 => ?_)
  have qr10 : vp_in p1 4 := demandCompany_ok (er1.symm.trans h2)
  refine mw_aload_n cx (q := 5) 0 rfl rfl dX11_setBuying_4 rfl ?_
  refine mw_get cx (q := 8) (v := .ref (ad 5 0 0)) gf_X11_28 rfl rfl vi_11_0 dX11_setBuying_5 rfl ?_
  refine mw_iload_n cx (q := 9) 1 rfl rfl dX11_setBuying_8 rfl ?_
  refine mw_iload_n cx (q := 10) 2 rfl rfl dX11_setBuying_9 rfl ?_
  refine mw_bnd (fun r3 er3 => ?_)
  refine mw_callV cx (q := 13) (d := 0) (As := [.int p1, .int (b2i p2)]) (z := fzc M 5 r3) (st := []) (st1 := [.int (b2i r3.1)]) (M' := uW M 5 r3.2) (by rw [er3]; exact mc_X5_changeBuying l D ta ad M p1 p2 qr10 (hb _ (by assumption))) cv_X11_127 rfl rfl rfl vi_5_0 ⟨Nat.le_of_ble_eq_true rfl, Nat.le_of_ble_eq_true rfl⟩ ⟨by decide, by decide⟩ (by simp [Value.category]) rfl rfl rfl dX11_setBuying_10 rfl ?_
  refine mw_bndM (fun M4 eM4 => ?_)
  exact mx_iret cx hr (b2i_nar _) rfl ⟨by decide, by decide⟩ dX11_setBuying_13
def f11_setCredit (M : Wm) (p1 : Int32) (p2 : Int32) (p3 : Int32) : ((Nat × Int32) × Wm) := bnd (f11_demandCompany p1) (fun (r1 : Nat) => if r1 = 0 then bnd (f11_demandCompany p2) (fun (r3 : Nat) => if r3 = 0 then jn (fun (v5 : Bool) => bnd (f11_demand v5) (fun (r10 : Nat) => if r10 = 0 then bnd (f5_changeCredit (M 5) p1 p2 p3) (fun (r12 : Int32 × Cm) => bnd (uW M 5 r12.2) (fun (M13 : Wm) => ((0, r12.1), M13))) else ((r10, 0), M))) (fun K6 => if p1 = p2 then K6 false else bnd (f11_isIn p3 0 1000) (fun (r8 : Bool) => if r8 = true then K6 true else K6 false)) else ((r3, 0), M)) else ((r1, 0), M))
set_option maxHeartbeats 4000000 in
set_option maxRecDepth 100000 in
theorem mc_X11_setCredit (l : Launch) (hl : l.stackTraces = false) (D : va_G) (ta : wTa) (ad : wAd) (M : Wm) (p1 : Int32) (p2 : Int32) (p3 : Int32) : MX l D ta ad yX11_setCredit cX11_setCredit 4 (some .int) 8 3 [.ref (ad 11 0 0), .int p1, .int p2, .int p3] M (fxi (f11_setCredit M p1 p2 p3)) := by
  refine MX.of (fxi) (f11_setCredit M p1 p2 p3) rfl (by decide) (Nat.le_of_ble_eq_true rfl) (fun p e s m args below meth c cx hzx ht hr => ?_)
  unfold f11_setCredit
  refine mw_sub (lv' := [(0, .ref (ad 11 0 0)), (1, .int p1), (2, .int p2), (3, .int p3)]) [0, 1, 2, 3] rfl ?_
  refine mw_iload_n cx (q := 1) 1 rfl rfl dX11_setCredit_0 rfl ?_
  refine mw_bnd (fun r1 er1 => ?_)
  refine mx_gS cx hzx ht (q := 4) (d := 7) (u0 := 1) (As := [.int p1]) (r := r1) (v := none) (st := []) (st1 := []) (by rw [er1]; exact mc_X11_demandCompany l hl D ta ad M p1) cv_X11_112 ⟨by decide, by decide⟩ ⟨by decide, by decide⟩ ⟨by decide, by decide⟩ (by simp [Value.category]) rfl rfl ⟨rfl, rfl⟩ dX11_setCredit_1 rfl (fun h2 => ?_)
  have qr10 : vp_in p1 4 := demandCompany_ok (er1.symm.trans h2)
  refine mw_iload_n cx (q := 5) 2 rfl rfl dX11_setCredit_4 rfl ?_
  refine mw_bnd (fun r3 er3 => ?_)
  refine mx_gS cx hzx ht (q := 8) (d := 7) (u0 := 1) (As := [.int p2]) (r := r3) (v := none) (st := []) (st1 := []) (by rw [er3]; exact mc_X11_demandCompany l hl D ta ad M p2) cv_X11_112 ⟨by decide, by decide⟩ ⟨by decide, by decide⟩ ⟨by decide, by decide⟩ (by simp [Value.category]) rfl rfl ⟨rfl, rfl⟩ dX11_setCredit_5 rfl (fun h4 => ?_)
  have qr30 : vp_in p2 4 := demandCompany_ok (er3.symm.trans h4)
  refine mw_iload_n cx (q := 9) 1 rfl rfl dX11_setCredit_8 rfl ?_
  refine mw_iload_n cx (q := 10) 2 rfl rfl dX11_setCredit_9 rfl ?_
  refine mw_jn (Mj := fun (v5 : Bool) => M) (pj := 29) (lj := fun (v5 : Bool) => [(0, .ref (ad 11 0 0)), (1, .int p1), (2, .int p2), (3, .int p3)]) (sj := fun (v5 : Bool) => [.int (b2i v5)]) (fun v5 => ?_) (fun K6 hK6 => ?_)
  · refine mw_bnd (fun r10 er10 => ?_)
    refine mx_gS cx hzx ht (q := 32) (d := 6) (u0 := 1) (As := [.int (b2i v5)]) (r := r10) (v := none) (st := []) (st1 := []) (by rw [er10]; exact mc_X11_demand l hl D ta ad M v5) cv_X11_65 ⟨by decide, by decide⟩ ⟨by decide, by decide⟩ ⟨by decide, by decide⟩ (by simp [Value.category]) rfl rfl ⟨rfl, rfl⟩ dX11_setCredit_29 rfl (fun h11 => ?_)
    have qr100 : v5 = true := demand_ok (er10.symm.trans h11)
    refine mw_aload_n cx (q := 33) 0 rfl rfl dX11_setCredit_32 rfl ?_
    refine mw_get cx (q := 36) (v := .ref (ad 5 0 0)) gf_X11_28 rfl rfl vi_11_0 dX11_setCredit_33 rfl ?_
    refine mw_iload_n cx (q := 37) 1 rfl rfl dX11_setCredit_36 rfl ?_
    refine mw_iload_n cx (q := 38) 2 rfl rfl dX11_setCredit_37 rfl ?_
    refine mw_iload_n cx (q := 39) 3 rfl rfl dX11_setCredit_38 rfl ?_
    refine mw_bnd (fun r12 er12 => ?_)
    refine mw_callV cx (q := 42) (d := 0) (As := [.int p1, .int p2, .int p3]) (z := fic M 5 r12) (st := []) (st1 := [.int r12.1]) (M' := uW M 5 r12.2) (by rw [er12]; exact mc_X5_changeCredit l D ta ad M p1 p2 p3 qr10 qr30) cv_X11_131 rfl rfl rfl vi_5_0 ⟨Nat.le_of_ble_eq_true rfl, Nat.le_of_ble_eq_true rfl⟩ ⟨by decide, by decide⟩ (by simp [Value.category]) rfl rfl rfl dX11_setCredit_39 rfl ?_
    refine mw_bndM (fun M13 eM13 => ?_)
    exact mx_iret cx hr rfl rfl ⟨by decide, by decide⟩ dX11_setCredit_42
  · refine mw_icmp_eq cx (tgt := 28) (q := 13) dX11_setCredit_10 (by decide) rfl (fun h7 => ?_) (fun h7 => ?_)
    · refine mw_iconst cx (q := 29) (v := 0) dX11_setCredit_28 rfl rfl ?_
      exact hK6 false
    · refine mw_iload_n cx (q := 14) 3 rfl rfl dX11_setCredit_13 rfl ?_
      refine mw_iconst cx (q := 15) (v := 0) dX11_setCredit_14 rfl rfl ?_
      refine mw_sipush cx (q := 18) (v := 1000) dX11_setCredit_15 rfl rfl ?_
      refine mw_bnd (fun r8 er8 => ?_)
      refine mw_callS cx (q := 21) (d := 0) (As := [.int p3, .int 0, .int 1000]) (z := fzp M r8) (st := []) (st1 := [.int (b2i r8)]) (M' := M) (by rw [er8]; exact mc_X11_isIn l D ta ad M p3 0 1000) cv_X11_105 ⟨Nat.le_of_ble_eq_true rfl, Nat.le_of_ble_eq_true rfl⟩ ⟨by decide, by decide⟩ (by simp [Value.category]) rfl rfl rfl dX11_setCredit_18 rfl ?_
      refine mw_ifb_eq cx (tgt := 28) (q := 24) dX11_setCredit_21 (by decide) rfl (fun h9 => ?_) (fun h9 => ?_)
      · refine mw_iconst cx (q := 29) (v := 0) dX11_setCredit_28 rfl rfl ?_
        exact hK6 false
      · refine mw_iconst cx (q := 25) (v := 1) dX11_setCredit_24 rfl rfl ?_
        refine mw_goto cx (tgt := 29) dX11_setCredit_25 (by decide) ?_
        exact hK6 true
def f11_payBack (M : Wm) (p1 : Int32) (p2 : Int32) (p3 : Int32) : ((Nat × Int32) × Wm) := bnd (f11_demandCompany p1) (fun (r1 : Nat) => if r1 = 0 then bnd (f11_demandCompany p2) (fun (r3 : Nat) => if r3 = 0 then jn (fun (v5 : Bool) => bnd (f11_demand v5) (fun (r8 : Nat) => if r8 = 0 then bnd (f5_debtOf (M 5) p1 p2) (fun (r10 : Int32) => jn (fun (v11 : Bool) => bnd (f11_demandState v11) (fun (r16 : Nat) => if r16 = 0 then bnd (f5_payFromFuel (M 5) p1 p2 p3) (fun (r18 : Int32 × Cm) => bnd (uW M 5 r18.2) (fun (M19 : Wm) => ((0, r18.1), M19))) else ((r16, 0), M))) (fun K12 => if r10 < p3 then K12 false else bnd (f5_fuelOf (M 5) p1) (fun (r14 : Int32) => if r14 < p3 then K12 false else K12 true))) else ((r8, 0), M))) (fun K6 => if p3 < 1 then K6 false else K6 true) else ((r3, 0), M)) else ((r1, 0), M))
set_option maxHeartbeats 4000000 in
set_option maxRecDepth 100000 in
theorem mc_X11_payBack (l : Launch) (hl : l.stackTraces = false) (D : va_G) (ta : wTa) (ad : wAd) (M : Wm) (p1 : Int32) (p2 : Int32) (p3 : Int32) : MX l D ta ad yX11_payBack cX11_payBack 4 (some .int) 8 4 [.ref (ad 11 0 0), .int p1, .int p2, .int p3] M (fxi (f11_payBack M p1 p2 p3)) := by
  refine MX.of (fxi) (f11_payBack M p1 p2 p3) rfl (by decide) (Nat.le_of_ble_eq_true rfl) (fun p e s m args below meth c cx hzx ht hr => ?_)
  unfold f11_payBack
  refine mw_sub (lv' := [(0, .ref (ad 11 0 0)), (1, .int p1), (2, .int p2), (3, .int p3)]) [0, 1, 2, 3] rfl ?_
  refine mw_iload_n cx (q := 1) 1 rfl rfl dX11_payBack_0 rfl ?_
  refine mw_bnd (fun r1 er1 => ?_)
  refine mx_gS cx hzx ht (q := 4) (d := 7) (u0 := 1) (As := [.int p1]) (r := r1) (v := none) (st := []) (st1 := []) (by rw [er1]; exact mc_X11_demandCompany l hl D ta ad M p1) cv_X11_112 ⟨by decide, by decide⟩ ⟨by decide, by decide⟩ ⟨by decide, by decide⟩ (by simp [Value.category]) rfl rfl ⟨rfl, rfl⟩ dX11_payBack_1 rfl (fun h2 => ?_)
  have qr10 : vp_in p1 4 := demandCompany_ok (er1.symm.trans h2)
  refine mw_iload_n cx (q := 5) 2 rfl rfl dX11_payBack_4 rfl ?_
  refine mw_bnd (fun r3 er3 => ?_)
  refine mx_gS cx hzx ht (q := 8) (d := 7) (u0 := 1) (As := [.int p2]) (r := r3) (v := none) (st := []) (st1 := []) (by rw [er3]; exact mc_X11_demandCompany l hl D ta ad M p2) cv_X11_112 ⟨by decide, by decide⟩ ⟨by decide, by decide⟩ ⟨by decide, by decide⟩ (by simp [Value.category]) rfl rfl ⟨rfl, rfl⟩ dX11_payBack_5 rfl (fun h4 => ?_)
  have qr30 : vp_in p2 4 := demandCompany_ok (er3.symm.trans h4)
  refine mw_iload_n cx (q := 9) 3 rfl rfl dX11_payBack_8 rfl ?_
  refine mw_iconst cx (q := 10) (v := 1) dX11_payBack_9 rfl rfl ?_
  refine mw_jn (Mj := fun (v5 : Bool) => M) (pj := 18) (lj := fun (v5 : Bool) => [(0, .ref (ad 11 0 0)), (1, .int p1), (2, .int p2), (3, .int p3)]) (sj := fun (v5 : Bool) => [.int (b2i v5)]) (fun v5 => ?_) (fun K6 hK6 => ?_)
  · refine mw_bnd (fun r8 er8 => ?_)
    refine mx_gS cx hzx ht (q := 21) (d := 6) (u0 := 1) (As := [.int (b2i v5)]) (r := r8) (v := none) (st := []) (st1 := []) (by rw [er8]; exact mc_X11_demand l hl D ta ad M v5) cv_X11_65 ⟨by decide, by decide⟩ ⟨by decide, by decide⟩ ⟨by decide, by decide⟩ (by simp [Value.category]) rfl rfl ⟨rfl, rfl⟩ dX11_payBack_18 rfl (fun h9 => ?_)
    have qr80 : v5 = true := demand_ok (er8.symm.trans h9)
    refine mw_aload_n cx (q := 22) 0 rfl rfl dX11_payBack_21 rfl ?_
    refine mw_get cx (q := 25) (v := .ref (ad 5 0 0)) gf_X11_28 rfl rfl vi_11_0 dX11_payBack_22 rfl ?_
    refine mw_iload_n cx (q := 26) 1 rfl rfl dX11_payBack_25 rfl ?_
    refine mw_iload_n cx (q := 27) 2 rfl rfl dX11_payBack_26 rfl ?_
    refine mw_bnd (fun r10 er10 => ?_)
    refine mw_callV cx (q := 30) (d := 0) (As := [.int p1, .int p2]) (z := fip M r10) (st := []) (st1 := [.int r10]) (M' := M) (by rw [er10]; exact mc_X5_debtOf l D ta ad M p1 p2 qr10 qr30) cv_X11_135 rfl rfl rfl vi_5_0 ⟨Nat.le_of_ble_eq_true rfl, Nat.le_of_ble_eq_true rfl⟩ ⟨by decide, by decide⟩ (by simp [Value.category]) rfl rfl rfl dX11_payBack_27 rfl ?_
    refine mw_iload_n cx (q := 31) 3 rfl rfl dX11_payBack_30 rfl ?_
    refine mw_jn (Mj := fun (v11 : Bool) => M) (pj := 51) (lj := fun (v11 : Bool) => [(0, .ref (ad 11 0 0)), (1, .int p1), (2, .int p2), (3, .int p3)]) (sj := fun (v11 : Bool) => [.int (b2i v11)]) (fun v11 => ?_) (fun K12 hK12 => ?_)
    · refine mw_bnd (fun r16 er16 => ?_)
      refine mx_gS cx hzx ht (q := 54) (d := 6) (u0 := 1) (As := [.int (b2i v11)]) (r := r16) (v := none) (st := []) (st1 := []) (by rw [er16]; exact mc_X11_demandState l hl D ta ad M v11) cv_X11_73 ⟨by decide, by decide⟩ ⟨by decide, by decide⟩ ⟨by decide, by decide⟩ (by simp [Value.category]) rfl rfl ⟨rfl, rfl⟩ dX11_payBack_51 rfl (fun h17 => ?_)
      have qr160 : v11 = true := demandState_ok (er16.symm.trans h17)
      refine mw_aload_n cx (q := 55) 0 rfl rfl dX11_payBack_54 rfl ?_
      refine mw_get cx (q := 58) (v := .ref (ad 5 0 0)) gf_X11_28 rfl rfl vi_11_0 dX11_payBack_55 rfl ?_
      refine mw_iload_n cx (q := 59) 1 rfl rfl dX11_payBack_58 rfl ?_
      refine mw_iload_n cx (q := 60) 2 rfl rfl dX11_payBack_59 rfl ?_
      refine mw_iload_n cx (q := 61) 3 rfl rfl dX11_payBack_60 rfl ?_
      refine mw_bnd (fun r18 er18 => ?_)
      refine mw_callV cx (q := 64) (d := 0) (As := [.int p1, .int p2, .int p3]) (z := fic M 5 r18) (st := []) (st1 := [.int r18.1]) (M' := uW M 5 r18.2) (by rw [er18]; exact mc_X5_payFromFuel l D ta ad M p1 p2 p3 qr10 qr30) cv_X11_141 rfl rfl rfl vi_5_0 ⟨Nat.le_of_ble_eq_true rfl, Nat.le_of_ble_eq_true rfl⟩ ⟨by decide, by decide⟩ (by simp [Value.category]) rfl rfl rfl dX11_payBack_61 rfl ?_
      refine mw_bndM (fun M19 eM19 => ?_)
      exact mx_iret cx hr rfl rfl ⟨by decide, by decide⟩ dX11_payBack_64
    · refine mw_icmp_lt cx (tgt := 50) (q := 34) dX11_payBack_31 (by decide) rfl (fun h13 => ?_) (fun h13 => ?_)
      · refine mw_iconst cx (q := 51) (v := 0) dX11_payBack_50 rfl rfl ?_
        exact hK12 false
      · refine mw_aload_n cx (q := 35) 0 rfl rfl dX11_payBack_34 rfl ?_
        refine mw_get cx (q := 38) (v := .ref (ad 5 0 0)) gf_X11_28 rfl rfl vi_11_0 dX11_payBack_35 rfl ?_
        refine mw_iload_n cx (q := 39) 1 rfl rfl dX11_payBack_38 rfl ?_
        refine mw_bnd (fun r14 er14 => ?_)
        refine mw_callV cx (q := 42) (d := 0) (As := [.int p1]) (z := fip M r14) (st := []) (st1 := [.int r14]) (M' := M) (by rw [er14]; exact mc_X5_fuelOf l D ta ad M p1 qr10) cv_X11_138 rfl rfl rfl vi_5_0 ⟨Nat.le_of_ble_eq_true rfl, Nat.le_of_ble_eq_true rfl⟩ ⟨by decide, by decide⟩ (by simp [Value.category]) rfl rfl rfl dX11_payBack_39 rfl ?_
        refine mw_iload_n cx (q := 43) 3 rfl rfl dX11_payBack_42 rfl ?_
        refine mw_icmp_lt cx (tgt := 50) (q := 46) dX11_payBack_43 (by decide) rfl (fun h15 => ?_) (fun h15 => ?_)
        · refine mw_iconst cx (q := 51) (v := 0) dX11_payBack_50 rfl rfl ?_
          exact hK12 false
        · refine mw_iconst cx (q := 47) (v := 1) dX11_payBack_46 rfl rfl ?_
          refine mw_goto cx (tgt := 51) dX11_payBack_47 (by decide) ?_
          exact hK12 true
  · refine mw_icmp_lt cx (tgt := 17) (q := 13) dX11_payBack_10 (by decide) rfl (fun h7 => ?_) (fun h7 => ?_)
    · refine mw_iconst cx (q := 18) (v := 0) dX11_payBack_17 rfl rfl ?_
      exact hK6 false
    · refine mw_iconst cx (q := 14) (v := 1) dX11_payBack_13 rfl rfl ?_
      refine mw_goto cx (tgt := 18) dX11_payBack_14 (by decide) ?_
      exact hK6 true
def f11_stock (M : Wm) (p1 : Int32) (p2 : Int32) : ((Nat × Int32) × Wm) := bnd (f11_demandOwner p1) (fun (r1 : Nat) => if r1 = 0 then bnd (f11_demandGood p2) (fun (r3 : Nat) => if r3 = 0 then bnd (f1_stockOf (M 1) p1 p2) (fun (r5 : Int32) => ((0, r5), M)) else ((r3, 0), M)) else ((r1, 0), M))
set_option maxHeartbeats 4000000 in
set_option maxRecDepth 100000 in
theorem mc_X11_stock (l : Launch) (hl : l.stackTraces = false) (D : va_G) (ta : wTa) (ad : wAd) (M : Wm) (p1 : Int32) (p2 : Int32) : MX l D ta ad yX11_stock cX11_stock 3 (some .int) 8 2 [.ref (ad 11 0 0), .int p1, .int p2] M (fxi (f11_stock M p1 p2)) := by
  refine MX.of (fxi) (f11_stock M p1 p2) rfl (by decide) (Nat.le_of_ble_eq_true rfl) (fun p e s m args below meth c cx hzx ht hr => ?_)
  unfold f11_stock
  refine mw_sub (lv' := [(0, .ref (ad 11 0 0)), (1, .int p1), (2, .int p2)]) [0, 1, 2] rfl ?_
  refine mw_iload_n cx (q := 1) 1 rfl rfl dX11_stock_0 rfl ?_
  refine mw_bnd (fun r1 er1 => ?_)
  refine mx_gS cx hzx ht (q := 4) (d := 7) (u0 := 1) (As := [.int p1]) (r := r1) (v := none) (st := []) (st1 := []) (by rw [er1]; exact mc_X11_demandOwner l hl D ta ad M p1) cv_X11_144 ⟨by decide, by decide⟩ ⟨by decide, by decide⟩ ⟨by decide, by decide⟩ (by simp [Value.category]) rfl rfl ⟨rfl, rfl⟩ dX11_stock_1 rfl (fun h2 => ?_)
  have qr10 : vp_in (p1 + 1) 5 := demandOwner_ok (er1.symm.trans h2)
  refine mw_iload_n cx (q := 5) 2 rfl rfl dX11_stock_4 rfl ?_
  refine mw_bnd (fun r3 er3 => ?_)
  refine mx_gS cx hzx ht (q := 8) (d := 7) (u0 := 1) (As := [.int p2]) (r := r3) (v := none) (st := []) (st1 := []) (by rw [er3]; exact mc_X11_demandGood l hl D ta ad M p2) cv_X11_102 ⟨by decide, by decide⟩ ⟨by decide, by decide⟩ ⟨by decide, by decide⟩ (by simp [Value.category]) rfl rfl ⟨rfl, rfl⟩ dX11_stock_5 rfl (fun h4 => ?_)
  have qr30 : vp_in p2 8 := demandGood_ok (er3.symm.trans h4)
  refine mw_aload_n cx (q := 9) 0 rfl rfl dX11_stock_8 rfl ?_
  refine mw_get cx (q := 12) (v := .ref (ad 1 0 0)) gf_X11_35 rfl rfl vi_11_0 dX11_stock_9 rfl ?_
  refine mw_iload_n cx (q := 13) 1 rfl rfl dX11_stock_12 rfl ?_
  refine mw_iload_n cx (q := 14) 2 rfl rfl dX11_stock_13 rfl ?_
  refine mw_bnd (fun r5 er5 => ?_)
  refine mw_callV cx (q := 17) (d := 0) (As := [.int p1, .int p2]) (z := fip M r5) (st := []) (st1 := [.int r5]) (M' := M) (by rw [er5]; exact mc_X1_stockOf l D ta ad M p1 p2 qr10 qr30) cv_X11_147 rfl rfl rfl vi_1_0 ⟨Nat.le_of_ble_eq_true rfl, Nat.le_of_ble_eq_true rfl⟩ ⟨by decide, by decide⟩ (by simp [Value.category]) rfl rfl rfl dX11_stock_14 rfl ?_
  exact mx_iret cx hr rfl rfl ⟨by decide, by decide⟩ dX11_stock_17
def f11_stockByMoves (M : Wm) (p1 : Int32) (p2 : Int32) : ((Nat × Int32) × Wm) := bnd (f11_demandOwner p1) (fun (r1 : Nat) => if r1 = 0 then bnd (f11_demandGood p2) (fun (r3 : Nat) => if r3 = 0 then bnd (f1_stockTold (M 1) p1 p2) (fun (r5 : Int32) => ((0, r5), M)) else ((r3, 0), M)) else ((r1, 0), M))
set_option maxHeartbeats 4000000 in
set_option maxRecDepth 100000 in
theorem mc_X11_stockByMoves (l : Launch) (hl : l.stackTraces = false) (D : va_G) (ta : wTa) (ad : wAd) (M : Wm) (p1 : Int32) (p2 : Int32) (hc0 : 0 ≤ (M 1 0 0 7).toInt) (hc1 : (M 1 0 0 7).toInt ≤ 3000) : MX l D ta ad yX11_stockByMoves cX11_stockByMoves 3 (some .int) 8 2 [.ref (ad 11 0 0), .int p1, .int p2] M (fxi (f11_stockByMoves M p1 p2)) := by
  refine MX.of (fxi) (f11_stockByMoves M p1 p2) rfl (by decide) (Nat.le_of_ble_eq_true rfl) (fun p e s m args below meth c cx hzx ht hr => ?_)
  unfold f11_stockByMoves
  refine mw_sub (lv' := [(0, .ref (ad 11 0 0)), (1, .int p1), (2, .int p2)]) [0, 1, 2] rfl ?_
  refine mw_iload_n cx (q := 1) 1 rfl rfl dX11_stockByMoves_0 rfl ?_
  refine mw_bnd (fun r1 er1 => ?_)
  refine mx_gS cx hzx ht (q := 4) (d := 7) (u0 := 1) (As := [.int p1]) (r := r1) (v := none) (st := []) (st1 := []) (by rw [er1]; exact mc_X11_demandOwner l hl D ta ad M p1) cv_X11_144 ⟨by decide, by decide⟩ ⟨by decide, by decide⟩ ⟨by decide, by decide⟩ (by simp [Value.category]) rfl rfl ⟨rfl, rfl⟩ dX11_stockByMoves_1 rfl (fun h2 => ?_)
  have qr10 : vp_in (p1 + 1) 5 := demandOwner_ok (er1.symm.trans h2)
  refine mw_iload_n cx (q := 5) 2 rfl rfl dX11_stockByMoves_4 rfl ?_
  refine mw_bnd (fun r3 er3 => ?_)
  refine mx_gS cx hzx ht (q := 8) (d := 7) (u0 := 1) (As := [.int p2]) (r := r3) (v := none) (st := []) (st1 := []) (by rw [er3]; exact mc_X11_demandGood l hl D ta ad M p2) cv_X11_102 ⟨by decide, by decide⟩ ⟨by decide, by decide⟩ ⟨by decide, by decide⟩ (by simp [Value.category]) rfl rfl ⟨rfl, rfl⟩ dX11_stockByMoves_5 rfl (fun h4 => ?_)
  have qr30 : vp_in p2 8 := demandGood_ok (er3.symm.trans h4)
  refine mw_aload_n cx (q := 9) 0 rfl rfl dX11_stockByMoves_8 rfl ?_
  refine mw_get cx (q := 12) (v := .ref (ad 1 0 0)) gf_X11_35 rfl rfl vi_11_0 dX11_stockByMoves_9 rfl ?_
  refine mw_iload_n cx (q := 13) 1 rfl rfl dX11_stockByMoves_12 rfl ?_
  refine mw_iload_n cx (q := 14) 2 rfl rfl dX11_stockByMoves_13 rfl ?_
  refine mw_bnd (fun r5 er5 => ?_)
  refine mw_callV cx (q := 17) (d := 0) (As := [.int p1, .int p2]) (z := fip M r5) (st := []) (st1 := [.int r5]) (M' := M) (by rw [er5]; exact mc_X1_stockTold l D ta ad M p1 p2 qr30 hc0 hc1) cv_X11_150 rfl rfl rfl vi_1_0 ⟨Nat.le_of_ble_eq_true rfl, Nat.le_of_ble_eq_true rfl⟩ ⟨by decide, by decide⟩ (by simp [Value.category]) rfl rfl rfl dX11_stockByMoves_14 rfl ?_
  exact mx_iret cx hr rfl rfl ⟨by decide, by decide⟩ dX11_stockByMoves_17
def f11_fuel (M : Wm) (p1 : Int32) : ((Nat × Int32) × Wm) := bnd (f11_demandCompany p1) (fun (r1 : Nat) => if r1 = 0 then bnd (f5_fuelOf (M 5) p1) (fun (r3 : Int32) => ((0, r3), M)) else ((r1, 0), M))
set_option maxHeartbeats 4000000 in
set_option maxRecDepth 100000 in
theorem mc_X11_fuel (l : Launch) (hl : l.stackTraces = false) (D : va_G) (ta : wTa) (ad : wAd) (M : Wm) (p1 : Int32) : MX l D ta ad yX11_fuel cX11_fuel 2 (some .int) 8 1 [.ref (ad 11 0 0), .int p1] M (fxi (f11_fuel M p1)) := by
  refine MX.of (fxi) (f11_fuel M p1) rfl (by decide) (Nat.le_of_ble_eq_true rfl) (fun p e s m args below meth c cx hzx ht hr => ?_)
  unfold f11_fuel
  refine mw_sub (lv' := [(0, .ref (ad 11 0 0)), (1, .int p1)]) [0, 1] rfl ?_
  refine mw_iload_n cx (q := 1) 1 rfl rfl dX11_fuel_0 rfl ?_
  refine mw_bnd (fun r1 er1 => ?_)
  refine mx_gS cx hzx ht (q := 4) (d := 7) (u0 := 1) (As := [.int p1]) (r := r1) (v := none) (st := []) (st1 := []) (by rw [er1]; exact mc_X11_demandCompany l hl D ta ad M p1) cv_X11_112 ⟨by decide, by decide⟩ ⟨by decide, by decide⟩ ⟨by decide, by decide⟩ (by simp [Value.category]) rfl rfl ⟨rfl, rfl⟩ dX11_fuel_1 rfl (fun h2 => ?_)
  have qr10 : vp_in p1 4 := demandCompany_ok (er1.symm.trans h2)
  refine mw_aload_n cx (q := 5) 0 rfl rfl dX11_fuel_4 rfl ?_
  refine mw_get cx (q := 8) (v := .ref (ad 5 0 0)) gf_X11_28 rfl rfl vi_11_0 dX11_fuel_5 rfl ?_
  refine mw_iload_n cx (q := 9) 1 rfl rfl dX11_fuel_8 rfl ?_
  refine mw_bnd (fun r3 er3 => ?_)
  refine mw_callV cx (q := 12) (d := 0) (As := [.int p1]) (z := fip M r3) (st := []) (st1 := [.int r3]) (M' := M) (by rw [er3]; exact mc_X5_fuelOf l D ta ad M p1 qr10) cv_X11_138 rfl rfl rfl vi_5_0 ⟨Nat.le_of_ble_eq_true rfl, Nat.le_of_ble_eq_true rfl⟩ ⟨by decide, by decide⟩ (by simp [Value.category]) rfl rfl rfl dX11_fuel_9 rfl ?_
  exact mx_iret cx hr rfl rfl ⟨by decide, by decide⟩ dX11_fuel_12
def f11_rations (M : Wm) (p1 : Int32) : ((Nat × Int32) × Wm) := bnd (f11_demandCompany p1) (fun (r1 : Nat) => if r1 = 0 then bnd (f5_rationsOf (M 5) p1) (fun (r3 : Int32) => ((0, r3), M)) else ((r1, 0), M))
set_option maxHeartbeats 4000000 in
set_option maxRecDepth 100000 in
theorem mc_X11_rations (l : Launch) (hl : l.stackTraces = false) (D : va_G) (ta : wTa) (ad : wAd) (M : Wm) (p1 : Int32) : MX l D ta ad yX11_rations cX11_rations 2 (some .int) 8 1 [.ref (ad 11 0 0), .int p1] M (fxi (f11_rations M p1)) := by
  refine MX.of (fxi) (f11_rations M p1) rfl (by decide) (Nat.le_of_ble_eq_true rfl) (fun p e s m args below meth c cx hzx ht hr => ?_)
  unfold f11_rations
  refine mw_sub (lv' := [(0, .ref (ad 11 0 0)), (1, .int p1)]) [0, 1] rfl ?_
  refine mw_iload_n cx (q := 1) 1 rfl rfl dX11_rations_0 rfl ?_
  refine mw_bnd (fun r1 er1 => ?_)
  refine mx_gS cx hzx ht (q := 4) (d := 7) (u0 := 1) (As := [.int p1]) (r := r1) (v := none) (st := []) (st1 := []) (by rw [er1]; exact mc_X11_demandCompany l hl D ta ad M p1) cv_X11_112 ⟨by decide, by decide⟩ ⟨by decide, by decide⟩ ⟨by decide, by decide⟩ (by simp [Value.category]) rfl rfl ⟨rfl, rfl⟩ dX11_rations_1 rfl (fun h2 => ?_)
  have qr10 : vp_in p1 4 := demandCompany_ok (er1.symm.trans h2)
  refine mw_aload_n cx (q := 5) 0 rfl rfl dX11_rations_4 rfl ?_
  refine mw_get cx (q := 8) (v := .ref (ad 5 0 0)) gf_X11_28 rfl rfl vi_11_0 dX11_rations_5 rfl ?_
  refine mw_iload_n cx (q := 9) 1 rfl rfl dX11_rations_8 rfl ?_
  refine mw_bnd (fun r3 er3 => ?_)
  refine mw_callV cx (q := 12) (d := 0) (As := [.int p1]) (z := fip M r3) (st := []) (st1 := [.int r3]) (M' := M) (by rw [er3]; exact mc_X5_rationsOf l D ta ad M p1 qr10) cv_X11_121 rfl rfl rfl vi_5_0 ⟨Nat.le_of_ble_eq_true rfl, Nat.le_of_ble_eq_true rfl⟩ ⟨by decide, by decide⟩ (by simp [Value.category]) rfl rfl rfl dX11_rations_9 rfl ?_
  exact mx_iret cx hr rfl rfl ⟨by decide, by decide⟩ dX11_rations_12
def f11_debt (M : Wm) (p1 : Int32) (p2 : Int32) : ((Nat × Int32) × Wm) := bnd (f11_demandCompany p1) (fun (r1 : Nat) => if r1 = 0 then bnd (f11_demandCompany p2) (fun (r3 : Nat) => if r3 = 0 then bnd (f5_debtOf (M 5) p1 p2) (fun (r5 : Int32) => ((0, r5), M)) else ((r3, 0), M)) else ((r1, 0), M))
set_option maxHeartbeats 4000000 in
set_option maxRecDepth 100000 in
theorem mc_X11_debt (l : Launch) (hl : l.stackTraces = false) (D : va_G) (ta : wTa) (ad : wAd) (M : Wm) (p1 : Int32) (p2 : Int32) : MX l D ta ad yX11_debt cX11_debt 3 (some .int) 8 2 [.ref (ad 11 0 0), .int p1, .int p2] M (fxi (f11_debt M p1 p2)) := by
  refine MX.of (fxi) (f11_debt M p1 p2) rfl (by decide) (Nat.le_of_ble_eq_true rfl) (fun p e s m args below meth c cx hzx ht hr => ?_)
  unfold f11_debt
  refine mw_sub (lv' := [(0, .ref (ad 11 0 0)), (1, .int p1), (2, .int p2)]) [0, 1, 2] rfl ?_
  refine mw_iload_n cx (q := 1) 1 rfl rfl dX11_debt_0 rfl ?_
  refine mw_bnd (fun r1 er1 => ?_)
  refine mx_gS cx hzx ht (q := 4) (d := 7) (u0 := 1) (As := [.int p1]) (r := r1) (v := none) (st := []) (st1 := []) (by rw [er1]; exact mc_X11_demandCompany l hl D ta ad M p1) cv_X11_112 ⟨by decide, by decide⟩ ⟨by decide, by decide⟩ ⟨by decide, by decide⟩ (by simp [Value.category]) rfl rfl ⟨rfl, rfl⟩ dX11_debt_1 rfl (fun h2 => ?_)
  have qr10 : vp_in p1 4 := demandCompany_ok (er1.symm.trans h2)
  refine mw_iload_n cx (q := 5) 2 rfl rfl dX11_debt_4 rfl ?_
  refine mw_bnd (fun r3 er3 => ?_)
  refine mx_gS cx hzx ht (q := 8) (d := 7) (u0 := 1) (As := [.int p2]) (r := r3) (v := none) (st := []) (st1 := []) (by rw [er3]; exact mc_X11_demandCompany l hl D ta ad M p2) cv_X11_112 ⟨by decide, by decide⟩ ⟨by decide, by decide⟩ ⟨by decide, by decide⟩ (by simp [Value.category]) rfl rfl ⟨rfl, rfl⟩ dX11_debt_5 rfl (fun h4 => ?_)
  have qr30 : vp_in p2 4 := demandCompany_ok (er3.symm.trans h4)
  refine mw_aload_n cx (q := 9) 0 rfl rfl dX11_debt_8 rfl ?_
  refine mw_get cx (q := 12) (v := .ref (ad 5 0 0)) gf_X11_28 rfl rfl vi_11_0 dX11_debt_9 rfl ?_
  refine mw_iload_n cx (q := 13) 1 rfl rfl dX11_debt_12 rfl ?_
  refine mw_iload_n cx (q := 14) 2 rfl rfl dX11_debt_13 rfl ?_
  refine mw_bnd (fun r5 er5 => ?_)
  refine mw_callV cx (q := 17) (d := 0) (As := [.int p1, .int p2]) (z := fip M r5) (st := []) (st1 := [.int r5]) (M' := M) (by rw [er5]; exact mc_X5_debtOf l D ta ad M p1 p2 qr10 qr30) cv_X11_135 rfl rfl rfl vi_5_0 ⟨Nat.le_of_ble_eq_true rfl, Nat.le_of_ble_eq_true rfl⟩ ⟨by decide, by decide⟩ (by simp [Value.category]) rfl rfl rfl dX11_debt_14 rfl ?_
  exact mx_iret cx hr rfl rfl ⟨by decide, by decide⟩ dX11_debt_17
def f11_order (M : Wm) (p1 : Int32) (p2 : Int32) (p3 : Int32) (p4 : Int32) : ((Nat × Int32) × Wm) := bnd (f11_demandCompany p1) (fun (r1 : Nat) => if r1 = 0 then bnd (f11_demandScript p2) (fun (r3 : Nat) => if r3 = 0 then bnd (f11_isIn p3 1 100) (fun (r5 : Bool) => jn (fun (v6 : Bool) => bnd (f11_demand v6) (fun (r11 : Nat) => if r11 = 0 then bnd (f4_areFull (M 4)) (fun (r13 : Bool) => jn (fun (v14 : Bool) => bnd (f11_demandState v14) (fun (r17 : Nat) => if r17 = 0 then bnd (f4_add (M 4) p1 p2 p3 p4) (fun (r19 : Int32 × Cm) => bnd (uW M 4 r19.2) (fun (M20 : Wm) => ((0, r19.1), M20))) else ((r17, 0), M))) (fun K15 => if r13 = true then K15 false else K15 true)) else ((r11, 0), M))) (fun K7 => if r5 = true then bnd (f11_isIn p4 1 1000) (fun (r9 : Bool) => if r9 = true then K7 true else K7 false) else K7 false)) else ((r3, 0), M)) else ((r1, 0), M))
set_option maxHeartbeats 4000000 in
set_option maxRecDepth 100000 in
theorem mc_X11_order (l : Launch) (hl : l.stackTraces = false) (D : va_G) (ta : wTa) (ad : wAd) (M : Wm) (p1 : Int32) (p2 : Int32) (p3 : Int32) (p4 : Int32) (hc0 : 0 ≤ (M 4 0 0 1).toInt) : MX l D ta ad yX11_order cX11_order 5 (some .int) 8 4 [.ref (ad 11 0 0), .int p1, .int p2, .int p3, .int p4] M (fxi (f11_order M p1 p2 p3 p4)) := by
  refine MX.of (fxi) (f11_order M p1 p2 p3 p4) rfl (by decide) (Nat.le_of_ble_eq_true rfl) (fun p e s m args below meth c cx hzx ht hr => ?_)
  unfold f11_order
  refine mw_sub (lv' := [(0, .ref (ad 11 0 0)), (1, .int p1), (2, .int p2), (3, .int p3), (4, .int p4)]) [0, 1, 2, 3, 4] rfl ?_
  refine mw_iload_n cx (q := 1) 1 rfl rfl dX11_order_0 rfl ?_
  refine mw_bnd (fun r1 er1 => ?_)
  refine mx_gS cx hzx ht (q := 4) (d := 7) (u0 := 1) (As := [.int p1]) (r := r1) (v := none) (st := []) (st1 := []) (by rw [er1]; exact mc_X11_demandCompany l hl D ta ad M p1) cv_X11_112 ⟨by decide, by decide⟩ ⟨by decide, by decide⟩ ⟨by decide, by decide⟩ (by simp [Value.category]) rfl rfl ⟨rfl, rfl⟩ dX11_order_1 rfl (fun h2 => ?_)
  have qr10 : vp_in p1 4 := demandCompany_ok (er1.symm.trans h2)
  refine mw_iload_n cx (q := 5) 2 rfl rfl dX11_order_4 rfl ?_
  refine mw_bnd (fun r3 er3 => ?_)
  refine mx_gS cx hzx ht (q := 8) (d := 7) (u0 := 1) (As := [.int p2]) (r := r3) (v := none) (st := []) (st1 := []) (by rw [er3]; exact mc_X11_demandScript l hl D ta ad M p2) cv_X11_55 ⟨by decide, by decide⟩ ⟨by decide, by decide⟩ ⟨by decide, by decide⟩ (by simp [Value.category]) rfl rfl ⟨rfl, rfl⟩ dX11_order_5 rfl (fun h4 => ?_)
  have qr30 : vp_in p2 8 := demandScript_ok (er3.symm.trans h4)
  refine mw_iload_n cx (q := 9) 3 rfl rfl dX11_order_8 rfl ?_
  refine mw_iconst cx (q := 10) (v := 1) dX11_order_9 rfl rfl ?_
  refine mw_bipush cx (q := 12) (v := 100) dX11_order_10 rfl rfl ?_
  refine mw_bnd (fun r5 er5 => ?_)
  refine mw_callS cx (q := 15) (d := 0) (As := [.int p3, .int 1, .int 100]) (z := fzp M r5) (st := []) (st1 := [.int (b2i r5)]) (M' := M) (by rw [er5]; exact mc_X11_isIn l D ta ad M p3 1 100) cv_X11_105 ⟨Nat.le_of_ble_eq_true rfl, Nat.le_of_ble_eq_true rfl⟩ ⟨by decide, by decide⟩ (by simp [Value.category]) rfl rfl rfl dX11_order_12 rfl ?_
  refine mw_jn (Mj := fun (v6 : Bool) => M) (pj := 35) (lj := fun (v6 : Bool) => [(0, .ref (ad 11 0 0)), (1, .int p1), (2, .int p2), (3, .int p3), (4, .int p4)]) (sj := fun (v6 : Bool) => [.int (b2i v6)]) (fun v6 => ?_) (fun K7 hK7 => ?_)
  · refine mw_bnd (fun r11 er11 => ?_)
    refine mx_gS cx hzx ht (q := 38) (d := 6) (u0 := 1) (As := [.int (b2i v6)]) (r := r11) (v := none) (st := []) (st1 := []) (by rw [er11]; exact mc_X11_demand l hl D ta ad M v6) cv_X11_65 ⟨by decide, by decide⟩ ⟨by decide, by decide⟩ ⟨by decide, by decide⟩ (by simp [Value.category]) rfl rfl ⟨rfl, rfl⟩ dX11_order_35 rfl (fun h12 => ?_)
    have qr110 : v6 = true := demand_ok (er11.symm.trans h12)
    refine mw_aload_n cx (q := 39) 0 rfl rfl dX11_order_38 rfl ?_
    refine mw_get cx (q := 42) (v := .ref (ad 4 0 0)) gf_X11_42 rfl rfl vi_11_0 dX11_order_39 rfl ?_
    refine mw_bnd (fun r13 er13 => ?_)
    refine mw_callV cx (q := 45) (d := 0) (As := []) (z := fzp M r13) (st := []) (st1 := [.int (b2i r13)]) (M' := M) (by rw [er13]; exact mc_X4_areFull l D ta ad M) cv_X11_153 rfl rfl rfl vi_4_0 ⟨Nat.le_of_ble_eq_true rfl, Nat.le_of_ble_eq_true rfl⟩ ⟨by decide, by decide⟩ (by simp [Value.category]) rfl rfl rfl dX11_order_42 rfl ?_
    refine mw_jn (Mj := fun (v14 : Bool) => M) (pj := 53) (lj := fun (v14 : Bool) => [(0, .ref (ad 11 0 0)), (1, .int p1), (2, .int p2), (3, .int p3), (4, .int p4)]) (sj := fun (v14 : Bool) => [.int (b2i v14)]) (fun v14 => ?_) (fun K15 hK15 => ?_)
    · refine mw_bnd (fun r17 er17 => ?_)
      refine mx_gS cx hzx ht (q := 56) (d := 6) (u0 := 1) (As := [.int (b2i v14)]) (r := r17) (v := none) (st := []) (st1 := []) (by rw [er17]; exact mc_X11_demandState l hl D ta ad M v14) cv_X11_73 ⟨by decide, by decide⟩ ⟨by decide, by decide⟩ ⟨by decide, by decide⟩ (by simp [Value.category]) rfl rfl ⟨rfl, rfl⟩ dX11_order_53 rfl (fun h18 => ?_)
      have qr170 : v14 = true := demandState_ok (er17.symm.trans h18)
      refine mw_aload_n cx (q := 57) 0 rfl rfl dX11_order_56 rfl ?_
      refine mw_get cx (q := 60) (v := .ref (ad 4 0 0)) gf_X11_42 rfl rfl vi_11_0 dX11_order_57 rfl ?_
      refine mw_iload_n cx (q := 61) 1 rfl rfl dX11_order_60 rfl ?_
      refine mw_iload_n cx (q := 62) 2 rfl rfl dX11_order_61 rfl ?_
      refine mw_iload_n cx (q := 63) 3 rfl rfl dX11_order_62 rfl ?_
      refine mw_iload cx (q := 65) 4 rfl dX11_order_63 rfl ?_
      refine mw_bnd (fun r19 er19 => ?_)
      refine mw_callV cx (q := 68) (d := 1) (As := [.int p1, .int p2, .int p3, .int p4]) (z := fic M 4 r19) (st := []) (st1 := [.int r19.1]) (M' := uW M 4 r19.2) (by rw [er19]; exact mc_X4_add l D ta ad M p1 p2 p3 p4 hc0) cv_X11_157 rfl rfl rfl vi_4_0 ⟨Nat.le_of_ble_eq_true rfl, Nat.le_of_ble_eq_true rfl⟩ ⟨by decide, by decide⟩ (by simp [Value.category]) rfl rfl rfl dX11_order_65 rfl ?_
      refine mw_bndM (fun M20 eM20 => ?_)
      exact mx_iret cx hr rfl rfl ⟨by decide, by decide⟩ dX11_order_68
    · refine mw_ifb_ne cx (tgt := 52) (q := 48) dX11_order_45 (by decide) rfl (fun h16 => ?_) (fun h16 => ?_)
      · refine mw_iconst cx (q := 53) (v := 0) dX11_order_52 rfl rfl ?_
        exact hK15 false
      · refine mw_iconst cx (q := 49) (v := 1) dX11_order_48 rfl rfl ?_
        refine mw_goto cx (tgt := 53) dX11_order_49 (by decide) ?_
        exact hK15 true
  · refine mw_ifb_eq cx (tgt := 34) (q := 18) dX11_order_15 (by decide) rfl (fun h8 => ?_) (fun h8 => ?_)
    · refine mw_iconst cx (q := 35) (v := 0) dX11_order_34 rfl rfl ?_
      exact hK7 false
    · refine mw_iload cx (q := 20) 4 rfl dX11_order_18 rfl ?_
      refine mw_iconst cx (q := 21) (v := 1) dX11_order_20 rfl rfl ?_
      refine mw_sipush cx (q := 24) (v := 1000) dX11_order_21 rfl rfl ?_
      refine mw_bnd (fun r9 er9 => ?_)
      refine mw_callS cx (q := 27) (d := 0) (As := [.int p4, .int 1, .int 1000]) (z := fzp M r9) (st := []) (st1 := [.int (b2i r9)]) (M' := M) (by rw [er9]; exact mc_X11_isIn l D ta ad M p4 1 1000) cv_X11_105 ⟨Nat.le_of_ble_eq_true rfl, Nat.le_of_ble_eq_true rfl⟩ ⟨by decide, by decide⟩ (by simp [Value.category]) rfl rfl rfl dX11_order_24 rfl ?_
      refine mw_ifb_eq cx (tgt := 34) (q := 30) dX11_order_27 (by decide) rfl (fun h10 => ?_) (fun h10 => ?_)
      · refine mw_iconst cx (q := 35) (v := 0) dX11_order_34 rfl rfl ?_
        exact hK7 false
      · refine mw_iconst cx (q := 31) (v := 1) dX11_order_30 rfl rfl ?_
        refine mw_goto cx (tgt := 35) dX11_order_31 (by decide) ?_
        exact hK7 true
def f11_hour (M : Wm) : ((Nat × Int32) × Wm) := ((0, (M 4 0 0 2)), M)
set_option maxHeartbeats 4000000 in
set_option maxRecDepth 100000 in
theorem mc_X11_hour (l : Launch) (hl : l.stackTraces = false) (D : va_G) (ta : wTa) (ad : wAd) (M : Wm) : MX l D ta ad yX11_hour cX11_hour 1 (some .int) 8 0 [.ref (ad 11 0 0)] M (fxi (f11_hour M)) := by
  refine MX.of (fxi) (f11_hour M) rfl (by decide) (Nat.le_of_ble_eq_true rfl) (fun p e s m args below meth c cx hzx ht hr => ?_)
  unfold f11_hour
  refine mw_sub (lv' := [(0, .ref (ad 11 0 0))]) [0] rfl ?_
  refine mw_aload_n cx (q := 1) 0 rfl rfl dX11_hour_0 rfl ?_
  refine mw_get cx (q := 4) (v := .ref (ad 4 0 0)) gf_X11_42 rfl rfl vi_11_0 dX11_hour_1 rfl ?_
  refine mw_getN cx (q := 7) (v := .int (M 4 0 0 2)) gf_X11_161 rfl rfl vi_4_0 dX11_hour_4 rfl ?_
  exact mx_iret cx hr rfl rfl ⟨by decide, by decide⟩ dX11_hour_7
def f11_orders (M : Wm) : ((Nat × Int32) × Wm) := ((0, (M 4 0 0 1)), M)
set_option maxHeartbeats 4000000 in
set_option maxRecDepth 100000 in
theorem mc_X11_orders (l : Launch) (hl : l.stackTraces = false) (D : va_G) (ta : wTa) (ad : wAd) (M : Wm) : MX l D ta ad yX11_orders cX11_orders 1 (some .int) 8 0 [.ref (ad 11 0 0)] M (fxi (f11_orders M)) := by
  refine MX.of (fxi) (f11_orders M) rfl (by decide) (Nat.le_of_ble_eq_true rfl) (fun p e s m args below meth c cx hzx ht hr => ?_)
  unfold f11_orders
  refine mw_sub (lv' := [(0, .ref (ad 11 0 0))]) [0] rfl ?_
  refine mw_aload_n cx (q := 1) 0 rfl rfl dX11_orders_0 rfl ?_
  refine mw_get cx (q := 4) (v := .ref (ad 4 0 0)) gf_X11_42 rfl rfl vi_11_0 dX11_orders_1 rfl ?_
  refine mw_getN cx (q := 7) (v := .int (M 4 0 0 1)) gf_X11_165 rfl rfl vi_4_0 dX11_orders_4 rfl ?_
  exact mx_iret cx hr rfl rfl ⟨by decide, by decide⟩ dX11_orders_7
def f11_state (M : Wm) (p1 : Int32) : ((Nat × Int32) × Wm) := bnd (f11_existing M p1) (fun (r1 : Nat) => if r1 = 0 then ((0, (M 4 4 p1 4)), M) else ((r1, 0), M))
set_option maxHeartbeats 4000000 in
set_option maxRecDepth 100000 in
theorem mc_X11_state (l : Launch) (hl : l.stackTraces = false) (D : va_G) (ta : wTa) (ad : wAd) (M : Wm) (p1 : Int32) (hc1 : (M 4 0 0 1).toInt ≤ 60) : MX l D ta ad yX11_state cX11_state 2 (some .int) 8 1 [.ref (ad 11 0 0), .int p1] M (fxi (f11_state M p1)) := by
  refine MX.of (fxi) (f11_state M p1) rfl (by decide) (Nat.le_of_ble_eq_true rfl) (fun p e s m args below meth c cx hzx ht hr => ?_)
  unfold f11_state
  refine mw_sub (lv' := [(0, .ref (ad 11 0 0)), (1, .int p1)]) [0, 1] rfl ?_
  refine mw_aload_n cx (q := 1) 0 rfl rfl dX11_state_0 rfl ?_
  refine mw_iload_n cx (q := 2) 1 rfl rfl dX11_state_1 rfl ?_
  refine mw_bnd (fun r1 er1 => ?_)
  refine mx_gV cx hzx ht (q := 5) (d := 7) (u0 := 1) (As := [.int p1]) (r := r1) (v := (some (.ref (ad 4 4 p1)))) (st := []) (st1 := [.ref (ad 4 4 p1)]) (by rw [er1]; exact mc_X11_existing l hl D ta ad M p1 hc1) cv_X11_184 rfl rfl rfl vi_11_0 ⟨by decide, by decide⟩ ⟨by decide, by decide⟩ ⟨by decide, by decide⟩ (by simp [Value.category]) rfl rfl ⟨rfl, rfl⟩ dX11_state_2 rfl (fun h2 => ?_)
  have qr10 : 0 ≤ p1.toInt ∧ p1.toInt < (M 4 0 0 1).toInt := existing_ok (er1.symm.trans h2)
  refine mw_getN cx (q := 8) (v := .int (M 4 4 p1 4)) gf_X11_172 rfl rfl (show vp_in p1 60 from (by simp only [vp_in_iff, i32lt, i32le, i32eq, i32add, i32sub, i32mul, i32neg, t32_0, t32_1, t32_4, t32_60] at qr10 hc1 ⊢; omega)) dX11_state_5 rfl ?_
  exact mx_iret cx hr rfl rfl ⟨by decide, by decide⟩ dX11_state_8
def f11_why (M : Wm) (p1 : Int32) : ((Nat × Int32) × Wm) := bnd (f11_existing M p1) (fun (r1 : Nat) => if r1 = 0 then ((0, (M 4 4 p1 5)), M) else ((r1, 0), M))
set_option maxHeartbeats 4000000 in
set_option maxRecDepth 100000 in
theorem mc_X11_why (l : Launch) (hl : l.stackTraces = false) (D : va_G) (ta : wTa) (ad : wAd) (M : Wm) (p1 : Int32) (hc1 : (M 4 0 0 1).toInt ≤ 60) : MX l D ta ad yX11_why cX11_why 2 (some .int) 8 1 [.ref (ad 11 0 0), .int p1] M (fxi (f11_why M p1)) := by
  refine MX.of (fxi) (f11_why M p1) rfl (by decide) (Nat.le_of_ble_eq_true rfl) (fun p e s m args below meth c cx hzx ht hr => ?_)
  unfold f11_why
  refine mw_sub (lv' := [(0, .ref (ad 11 0 0)), (1, .int p1)]) [0, 1] rfl ?_
  refine mw_aload_n cx (q := 1) 0 rfl rfl dX11_why_0 rfl ?_
  refine mw_iload_n cx (q := 2) 1 rfl rfl dX11_why_1 rfl ?_
  refine mw_bnd (fun r1 er1 => ?_)
  refine mx_gV cx hzx ht (q := 5) (d := 7) (u0 := 1) (As := [.int p1]) (r := r1) (v := (some (.ref (ad 4 4 p1)))) (st := []) (st1 := [.ref (ad 4 4 p1)]) (by rw [er1]; exact mc_X11_existing l hl D ta ad M p1 hc1) cv_X11_184 rfl rfl rfl vi_11_0 ⟨by decide, by decide⟩ ⟨by decide, by decide⟩ ⟨by decide, by decide⟩ (by simp [Value.category]) rfl rfl ⟨rfl, rfl⟩ dX11_why_2 rfl (fun h2 => ?_)
  have qr10 : 0 ≤ p1.toInt ∧ p1.toInt < (M 4 0 0 1).toInt := existing_ok (er1.symm.trans h2)
  refine mw_getN cx (q := 8) (v := .int (M 4 4 p1 5)) gf_X11_188 rfl rfl (show vp_in p1 60 from (by simp only [vp_in_iff, i32lt, i32le, i32eq, i32add, i32sub, i32mul, i32neg, t32_0, t32_1, t32_4, t32_60] at qr10 hc1 ⊢; omega)) dX11_why_5 rfl ?_
  exact mx_iret cx hr rfl rfl ⟨by decide, by decide⟩ dX11_why_8
def f11_done (M : Wm) (p1 : Int32) : ((Nat × Int32) × Wm) := bnd (f11_existing M p1) (fun (r1 : Nat) => if r1 = 0 then ((0, (M 4 4 p1 6)), M) else ((r1, 0), M))
set_option maxHeartbeats 4000000 in
set_option maxRecDepth 100000 in
theorem mc_X11_done (l : Launch) (hl : l.stackTraces = false) (D : va_G) (ta : wTa) (ad : wAd) (M : Wm) (p1 : Int32) (hc1 : (M 4 0 0 1).toInt ≤ 60) : MX l D ta ad yX11_done cX11_done 2 (some .int) 8 1 [.ref (ad 11 0 0), .int p1] M (fxi (f11_done M p1)) := by
  refine MX.of (fxi) (f11_done M p1) rfl (by decide) (Nat.le_of_ble_eq_true rfl) (fun p e s m args below meth c cx hzx ht hr => ?_)
  unfold f11_done
  refine mw_sub (lv' := [(0, .ref (ad 11 0 0)), (1, .int p1)]) [0, 1] rfl ?_
  refine mw_aload_n cx (q := 1) 0 rfl rfl dX11_done_0 rfl ?_
  refine mw_iload_n cx (q := 2) 1 rfl rfl dX11_done_1 rfl ?_
  refine mw_bnd (fun r1 er1 => ?_)
  refine mx_gV cx hzx ht (q := 5) (d := 7) (u0 := 1) (As := [.int p1]) (r := r1) (v := (some (.ref (ad 4 4 p1)))) (st := []) (st1 := [.ref (ad 4 4 p1)]) (by rw [er1]; exact mc_X11_existing l hl D ta ad M p1 hc1) cv_X11_184 rfl rfl rfl vi_11_0 ⟨by decide, by decide⟩ ⟨by decide, by decide⟩ ⟨by decide, by decide⟩ (by simp [Value.category]) rfl rfl ⟨rfl, rfl⟩ dX11_done_2 rfl (fun h2 => ?_)
  have qr10 : 0 ≤ p1.toInt ∧ p1.toInt < (M 4 0 0 1).toInt := existing_ok (er1.symm.trans h2)
  refine mw_getN cx (q := 8) (v := .int (M 4 4 p1 6)) gf_X11_191 rfl rfl (show vp_in p1 60 from (by simp only [vp_in_iff, i32lt, i32le, i32eq, i32add, i32sub, i32mul, i32neg, t32_0, t32_1, t32_4, t32_60] at qr10 hc1 ⊢; omega)) dX11_done_5 rfl ?_
  exact mx_iret cx hr rfl rfl ⟨by decide, by decide⟩ dX11_done_8
def f11_value (M : Wm) (p1 : Int32) : ((Nat × Int32) × Wm) := bnd (f11_existing M p1) (fun (r1 : Nat) => if r1 = 0 then ((0, (M 4 4 p1 7)), M) else ((r1, 0), M))
set_option maxHeartbeats 4000000 in
set_option maxRecDepth 100000 in
theorem mc_X11_value (l : Launch) (hl : l.stackTraces = false) (D : va_G) (ta : wTa) (ad : wAd) (M : Wm) (p1 : Int32) (hc1 : (M 4 0 0 1).toInt ≤ 60) : MX l D ta ad yX11_value cX11_value 2 (some .int) 8 1 [.ref (ad 11 0 0), .int p1] M (fxi (f11_value M p1)) := by
  refine MX.of (fxi) (f11_value M p1) rfl (by decide) (Nat.le_of_ble_eq_true rfl) (fun p e s m args below meth c cx hzx ht hr => ?_)
  unfold f11_value
  refine mw_sub (lv' := [(0, .ref (ad 11 0 0)), (1, .int p1)]) [0, 1] rfl ?_
  refine mw_aload_n cx (q := 1) 0 rfl rfl dX11_value_0 rfl ?_
  refine mw_iload_n cx (q := 2) 1 rfl rfl dX11_value_1 rfl ?_
  refine mw_bnd (fun r1 er1 => ?_)
  refine mx_gV cx hzx ht (q := 5) (d := 7) (u0 := 1) (As := [.int p1]) (r := r1) (v := (some (.ref (ad 4 4 p1)))) (st := []) (st1 := [.ref (ad 4 4 p1)]) (by rw [er1]; exact mc_X11_existing l hl D ta ad M p1 hc1) cv_X11_184 rfl rfl rfl vi_11_0 ⟨by decide, by decide⟩ ⟨by decide, by decide⟩ ⟨by decide, by decide⟩ (by simp [Value.category]) rfl rfl ⟨rfl, rfl⟩ dX11_value_2 rfl (fun h2 => ?_)
  have qr10 : 0 ≤ p1.toInt ∧ p1.toInt < (M 4 0 0 1).toInt := existing_ok (er1.symm.trans h2)
  refine mw_getN cx (q := 8) (v := .int (M 4 4 p1 7)) gf_X11_194 rfl rfl (show vp_in p1 60 from (by simp only [vp_in_iff, i32lt, i32le, i32eq, i32add, i32sub, i32mul, i32neg, t32_0, t32_1, t32_4, t32_60] at qr10 hc1 ⊢; omega)) dX11_value_5 rfl ?_
  exact mx_iret cx hr rfl rfl ⟨by decide, by decide⟩ dX11_value_8
def f11_used (M : Wm) (p1 : Int32) : ((Nat × Int32) × Wm) := bnd (f11_existing M p1) (fun (r1 : Nat) => if r1 = 0 then ((0, (M 4 4 p1 8)), M) else ((r1, 0), M))
set_option maxHeartbeats 4000000 in
set_option maxRecDepth 100000 in
theorem mc_X11_used (l : Launch) (hl : l.stackTraces = false) (D : va_G) (ta : wTa) (ad : wAd) (M : Wm) (p1 : Int32) (hc1 : (M 4 0 0 1).toInt ≤ 60) : MX l D ta ad yX11_used cX11_used 2 (some .int) 8 1 [.ref (ad 11 0 0), .int p1] M (fxi (f11_used M p1)) := by
  refine MX.of (fxi) (f11_used M p1) rfl (by decide) (Nat.le_of_ble_eq_true rfl) (fun p e s m args below meth c cx hzx ht hr => ?_)
  unfold f11_used
  refine mw_sub (lv' := [(0, .ref (ad 11 0 0)), (1, .int p1)]) [0, 1] rfl ?_
  refine mw_aload_n cx (q := 1) 0 rfl rfl dX11_used_0 rfl ?_
  refine mw_iload_n cx (q := 2) 1 rfl rfl dX11_used_1 rfl ?_
  refine mw_bnd (fun r1 er1 => ?_)
  refine mx_gV cx hzx ht (q := 5) (d := 7) (u0 := 1) (As := [.int p1]) (r := r1) (v := (some (.ref (ad 4 4 p1)))) (st := []) (st1 := [.ref (ad 4 4 p1)]) (by rw [er1]; exact mc_X11_existing l hl D ta ad M p1 hc1) cv_X11_184 rfl rfl rfl vi_11_0 ⟨by decide, by decide⟩ ⟨by decide, by decide⟩ ⟨by decide, by decide⟩ (by simp [Value.category]) rfl rfl ⟨rfl, rfl⟩ dX11_used_2 rfl (fun h2 => ?_)
  have qr10 : 0 ≤ p1.toInt ∧ p1.toInt < (M 4 0 0 1).toInt := existing_ok (er1.symm.trans h2)
  refine mw_getN cx (q := 8) (v := .int (M 4 4 p1 8)) gf_X11_197 rfl rfl (show vp_in p1 60 from (by simp only [vp_in_iff, i32lt, i32le, i32eq, i32add, i32sub, i32mul, i32neg, t32_0, t32_1, t32_4, t32_60] at qr10 hc1 ⊢; omega)) dX11_used_5 rfl ?_
  exact mx_iret cx hr rfl rfl ⟨by decide, by decide⟩ dX11_used_8
def f11_hourOf (M : Wm) (p1 : Int32) : ((Nat × Int32) × Wm) := bnd (f11_existing M p1) (fun (r1 : Nat) => if r1 = 0 then ((0, (M 4 4 p1 2)), M) else ((r1, 0), M))
set_option maxHeartbeats 4000000 in
set_option maxRecDepth 100000 in
theorem mc_X11_hourOf (l : Launch) (hl : l.stackTraces = false) (D : va_G) (ta : wTa) (ad : wAd) (M : Wm) (p1 : Int32) (hc1 : (M 4 0 0 1).toInt ≤ 60) : MX l D ta ad yX11_hourOf cX11_hourOf 2 (some .int) 8 1 [.ref (ad 11 0 0), .int p1] M (fxi (f11_hourOf M p1)) := by
  refine MX.of (fxi) (f11_hourOf M p1) rfl (by decide) (Nat.le_of_ble_eq_true rfl) (fun p e s m args below meth c cx hzx ht hr => ?_)
  unfold f11_hourOf
  refine mw_sub (lv' := [(0, .ref (ad 11 0 0)), (1, .int p1)]) [0, 1] rfl ?_
  refine mw_aload_n cx (q := 1) 0 rfl rfl dX11_hourOf_0 rfl ?_
  refine mw_iload_n cx (q := 2) 1 rfl rfl dX11_hourOf_1 rfl ?_
  refine mw_bnd (fun r1 er1 => ?_)
  refine mx_gV cx hzx ht (q := 5) (d := 7) (u0 := 1) (As := [.int p1]) (r := r1) (v := (some (.ref (ad 4 4 p1)))) (st := []) (st1 := [.ref (ad 4 4 p1)]) (by rw [er1]; exact mc_X11_existing l hl D ta ad M p1 hc1) cv_X11_184 rfl rfl rfl vi_11_0 ⟨by decide, by decide⟩ ⟨by decide, by decide⟩ ⟨by decide, by decide⟩ (by simp [Value.category]) rfl rfl ⟨rfl, rfl⟩ dX11_hourOf_2 rfl (fun h2 => ?_)
  have qr10 : 0 ≤ p1.toInt ∧ p1.toInt < (M 4 0 0 1).toInt := existing_ok (er1.symm.trans h2)
  refine mw_getN cx (q := 8) (v := .int (M 4 4 p1 2)) gf_X11_177 rfl rfl (show vp_in p1 60 from (by simp only [vp_in_iff, i32lt, i32le, i32eq, i32add, i32sub, i32mul, i32neg, t32_0, t32_1, t32_4, t32_60] at qr10 hc1 ⊢; omega)) dX11_hourOf_5 rfl ?_
  exact mx_iret cx hr rfl rfl ⟨by decide, by decide⟩ dX11_hourOf_8
def f11_leftBy (M : Wm) (p1 : Int32) (p2 : Int32) : ((Nat × Int32) × Wm) := bnd (f11_demandIndex p1 (M 4 0 0 1)) (fun (r1 : Nat) => if r1 = 0 then bnd (f11_demandGood p2) (fun (r3 : Nat) => if r3 = 0 then bnd (f1_leftStoreBy (M 1) p1 p2) (fun (r5 : Int32) => ((0, r5), M)) else ((r3, 0), M)) else ((r1, 0), M))
set_option maxHeartbeats 4000000 in
set_option maxRecDepth 100000 in
theorem mc_X11_leftBy (l : Launch) (hl : l.stackTraces = false) (D : va_G) (ta : wTa) (ad : wAd) (M : Wm) (p1 : Int32) (p2 : Int32) (hc0 : 0 ≤ (M 1 0 0 7).toInt) (hc1 : (M 1 0 0 7).toInt ≤ 3000) : MX l D ta ad yX11_leftBy cX11_leftBy 3 (some .int) 8 2 [.ref (ad 11 0 0), .int p1, .int p2] M (fxi (f11_leftBy M p1 p2)) := by
  refine MX.of (fxi) (f11_leftBy M p1 p2) rfl (by decide) (Nat.le_of_ble_eq_true rfl) (fun p e s m args below meth c cx hzx ht hr => ?_)
  unfold f11_leftBy
  refine mw_sub (lv' := [(0, .ref (ad 11 0 0)), (1, .int p1), (2, .int p2)]) [0, 1, 2] rfl ?_
  refine mw_iload_n cx (q := 1) 1 rfl rfl dX11_leftBy_0 rfl ?_
  refine mw_aload_n cx (q := 2) 0 rfl rfl dX11_leftBy_1 rfl ?_
  refine mw_get cx (q := 5) (v := .ref (ad 4 0 0)) gf_X11_42 rfl rfl vi_11_0 dX11_leftBy_2 rfl ?_
  refine mw_getN cx (q := 8) (v := .int (M 4 0 0 1)) gf_X11_165 rfl rfl vi_4_0 dX11_leftBy_5 rfl ?_
  refine mw_bnd (fun r1 er1 => ?_)
  refine mx_gS cx hzx ht (q := 11) (d := 6) (u0 := 1) (As := [.int p1, .int (M 4 0 0 1)]) (r := r1) (v := none) (st := []) (st1 := []) (by rw [er1]; exact mc_X11_demandIndex l hl D ta ad M p1 (M 4 0 0 1)) cv_X11_83 ⟨by decide, by decide⟩ ⟨by decide, by decide⟩ ⟨by decide, by decide⟩ (by simp [Value.category]) rfl rfl ⟨rfl, rfl⟩ dX11_leftBy_8 rfl (fun h2 => ?_)
  have qr10 : 0 ≤ p1.toInt ∧ p1.toInt < (M 4 0 0 1).toInt := demandIndex_ok (er1.symm.trans h2)
  refine mw_iload_n cx (q := 12) 2 rfl rfl dX11_leftBy_11 rfl ?_
  refine mw_bnd (fun r3 er3 => ?_)
  refine mx_gS cx hzx ht (q := 15) (d := 7) (u0 := 1) (As := [.int p2]) (r := r3) (v := none) (st := []) (st1 := []) (by rw [er3]; exact mc_X11_demandGood l hl D ta ad M p2) cv_X11_102 ⟨by decide, by decide⟩ ⟨by decide, by decide⟩ ⟨by decide, by decide⟩ (by simp [Value.category]) rfl rfl ⟨rfl, rfl⟩ dX11_leftBy_12 rfl (fun h4 => ?_)
  have qr30 : vp_in p2 8 := demandGood_ok (er3.symm.trans h4)
  refine mw_aload_n cx (q := 16) 0 rfl rfl dX11_leftBy_15 rfl ?_
  refine mw_get cx (q := 19) (v := .ref (ad 1 0 0)) gf_X11_35 rfl rfl vi_11_0 dX11_leftBy_16 rfl ?_
  refine mw_iload_n cx (q := 20) 1 rfl rfl dX11_leftBy_19 rfl ?_
  refine mw_iload_n cx (q := 21) 2 rfl rfl dX11_leftBy_20 rfl ?_
  refine mw_bnd (fun r5 er5 => ?_)
  refine mw_callV cx (q := 24) (d := 0) (As := [.int p1, .int p2]) (z := fip M r5) (st := []) (st1 := [.int r5]) (M' := M) (by rw [er5]; exact mc_X1_leftStoreBy l D ta ad M p1 p2 hc0 hc1) cv_X11_200 rfl rfl rfl vi_1_0 ⟨Nat.le_of_ble_eq_true rfl, Nat.le_of_ble_eq_true rfl⟩ ⟨by decide, by decide⟩ (by simp [Value.category]) rfl rfl rfl dX11_leftBy_21 rfl ?_
  exact mx_iret cx hr rfl rfl ⟨by decide, by decide⟩ dX11_leftBy_24
def f11_moves (M : Wm) : ((Nat × Int32) × Wm) := ((0, (M 1 0 0 7)), M)
set_option maxHeartbeats 4000000 in
set_option maxRecDepth 100000 in
theorem mc_X11_moves (l : Launch) (hl : l.stackTraces = false) (D : va_G) (ta : wTa) (ad : wAd) (M : Wm) : MX l D ta ad yX11_moves cX11_moves 1 (some .int) 8 0 [.ref (ad 11 0 0)] M (fxi (f11_moves M)) := by
  refine MX.of (fxi) (f11_moves M) rfl (by decide) (Nat.le_of_ble_eq_true rfl) (fun p e s m args below meth c cx hzx ht hr => ?_)
  unfold f11_moves
  refine mw_sub (lv' := [(0, .ref (ad 11 0 0))]) [0] rfl ?_
  refine mw_aload_n cx (q := 1) 0 rfl rfl dX11_moves_0 rfl ?_
  refine mw_get cx (q := 4) (v := .ref (ad 1 0 0)) gf_X11_35 rfl rfl vi_11_0 dX11_moves_1 rfl ?_
  refine mw_getN cx (q := 7) (v := .int (M 1 0 0 7)) gf_X11_203 rfl rfl vi_1_0 dX11_moves_4 rfl ?_
  exact mx_iret cx hr rfl rfl ⟨by decide, by decide⟩ dX11_moves_7
def f11_movedFrom (M : Wm) (p1 : Int32) : ((Nat × Int32) × Wm) := bnd (f11_demandIndex p1 (M 1 0 0 7)) (fun (r1 : Nat) => if r1 = 0 then ((0, (M 1 3 0 p1)), M) else ((r1, 0), M))
set_option maxHeartbeats 4000000 in
set_option maxRecDepth 100000 in
theorem mc_X11_movedFrom (l : Launch) (hl : l.stackTraces = false) (D : va_G) (ta : wTa) (ad : wAd) (M : Wm) (p1 : Int32) (hc1 : (M 1 0 0 7).toInt ≤ 3000) : MX l D ta ad yX11_movedFrom cX11_movedFrom 2 (some .int) 8 1 [.ref (ad 11 0 0), .int p1] M (fxi (f11_movedFrom M p1)) := by
  refine MX.of (fxi) (f11_movedFrom M p1) rfl (by decide) (Nat.le_of_ble_eq_true rfl) (fun p e s m args below meth c cx hzx ht hr => ?_)
  unfold f11_movedFrom
  refine mw_sub (lv' := [(0, .ref (ad 11 0 0)), (1, .int p1)]) [0, 1] rfl ?_
  refine mw_iload_n cx (q := 1) 1 rfl rfl dX11_movedFrom_0 rfl ?_
  refine mw_aload_n cx (q := 2) 0 rfl rfl dX11_movedFrom_1 rfl ?_
  refine mw_get cx (q := 5) (v := .ref (ad 1 0 0)) gf_X11_35 rfl rfl vi_11_0 dX11_movedFrom_2 rfl ?_
  refine mw_getN cx (q := 8) (v := .int (M 1 0 0 7)) gf_X11_203 rfl rfl vi_1_0 dX11_movedFrom_5 rfl ?_
  refine mw_bnd (fun r1 er1 => ?_)
  refine mx_gS cx hzx ht (q := 11) (d := 6) (u0 := 1) (As := [.int p1, .int (M 1 0 0 7)]) (r := r1) (v := none) (st := []) (st1 := []) (by rw [er1]; exact mc_X11_demandIndex l hl D ta ad M p1 (M 1 0 0 7)) cv_X11_83 ⟨by decide, by decide⟩ ⟨by decide, by decide⟩ ⟨by decide, by decide⟩ (by simp [Value.category]) rfl rfl ⟨rfl, rfl⟩ dX11_movedFrom_8 rfl (fun h2 => ?_)
  have qr10 : 0 ≤ p1.toInt ∧ p1.toInt < (M 1 0 0 7).toInt := demandIndex_ok (er1.symm.trans h2)
  refine mw_aload_n cx (q := 12) 0 rfl rfl dX11_movedFrom_11 rfl ?_
  refine mw_get cx (q := 15) (v := .ref (ad 1 0 0)) gf_X11_35 rfl rfl vi_11_0 dX11_movedFrom_12 rfl ?_
  refine mw_getN cx (q := 18) (v := .ref (ad 1 3 0)) gf_X11_204 rfl rfl vi_1_0 dX11_movedFrom_15 rfl ?_
  refine mw_iload_n cx (q := 19) 1 rfl rfl dX11_movedFrom_18 rfl ?_
  refine mw_iald cx (q := 20) (w := (M 1 3 0 p1)) rfl (fun _ => rfl) vi_1_3 (by simp only [vp_in_iff, i32lt, i32le, i32eq, i32add, i32sub, i32mul, i32neg, t32_0, t32_1, t32_7, t32_3000] at qr10 hc1 ⊢; omega) dX11_movedFrom_19 rfl ?_
  exact mx_iret cx hr rfl rfl ⟨by decide, by decide⟩ dX11_movedFrom_20
def f11_movedTo (M : Wm) (p1 : Int32) : ((Nat × Int32) × Wm) := bnd (f11_demandIndex p1 (M 1 0 0 7)) (fun (r1 : Nat) => if r1 = 0 then ((0, (M 1 4 0 p1)), M) else ((r1, 0), M))
set_option maxHeartbeats 4000000 in
set_option maxRecDepth 100000 in
theorem mc_X11_movedTo (l : Launch) (hl : l.stackTraces = false) (D : va_G) (ta : wTa) (ad : wAd) (M : Wm) (p1 : Int32) (hc1 : (M 1 0 0 7).toInt ≤ 3000) : MX l D ta ad yX11_movedTo cX11_movedTo 2 (some .int) 8 1 [.ref (ad 11 0 0), .int p1] M (fxi (f11_movedTo M p1)) := by
  refine MX.of (fxi) (f11_movedTo M p1) rfl (by decide) (Nat.le_of_ble_eq_true rfl) (fun p e s m args below meth c cx hzx ht hr => ?_)
  unfold f11_movedTo
  refine mw_sub (lv' := [(0, .ref (ad 11 0 0)), (1, .int p1)]) [0, 1] rfl ?_
  refine mw_iload_n cx (q := 1) 1 rfl rfl dX11_movedTo_0 rfl ?_
  refine mw_aload_n cx (q := 2) 0 rfl rfl dX11_movedTo_1 rfl ?_
  refine mw_get cx (q := 5) (v := .ref (ad 1 0 0)) gf_X11_35 rfl rfl vi_11_0 dX11_movedTo_2 rfl ?_
  refine mw_getN cx (q := 8) (v := .int (M 1 0 0 7)) gf_X11_203 rfl rfl vi_1_0 dX11_movedTo_5 rfl ?_
  refine mw_bnd (fun r1 er1 => ?_)
  refine mx_gS cx hzx ht (q := 11) (d := 6) (u0 := 1) (As := [.int p1, .int (M 1 0 0 7)]) (r := r1) (v := none) (st := []) (st1 := []) (by rw [er1]; exact mc_X11_demandIndex l hl D ta ad M p1 (M 1 0 0 7)) cv_X11_83 ⟨by decide, by decide⟩ ⟨by decide, by decide⟩ ⟨by decide, by decide⟩ (by simp [Value.category]) rfl rfl ⟨rfl, rfl⟩ dX11_movedTo_8 rfl (fun h2 => ?_)
  have qr10 : 0 ≤ p1.toInt ∧ p1.toInt < (M 1 0 0 7).toInt := demandIndex_ok (er1.symm.trans h2)
  refine mw_aload_n cx (q := 12) 0 rfl rfl dX11_movedTo_11 rfl ?_
  refine mw_get cx (q := 15) (v := .ref (ad 1 0 0)) gf_X11_35 rfl rfl vi_11_0 dX11_movedTo_12 rfl ?_
  refine mw_getN cx (q := 18) (v := .ref (ad 1 4 0)) gf_X11_208 rfl rfl vi_1_0 dX11_movedTo_15 rfl ?_
  refine mw_iload_n cx (q := 19) 1 rfl rfl dX11_movedTo_18 rfl ?_
  refine mw_iald cx (q := 20) (w := (M 1 4 0 p1)) rfl (fun _ => rfl) vi_1_4 (by simp only [vp_in_iff, i32lt, i32le, i32eq, i32add, i32sub, i32mul, i32neg, t32_0, t32_1, t32_7, t32_3000] at qr10 hc1 ⊢; omega) dX11_movedTo_19 rfl ?_
  exact mx_iret cx hr rfl rfl ⟨by decide, by decide⟩ dX11_movedTo_20
def f11_movedGood (M : Wm) (p1 : Int32) : ((Nat × Int32) × Wm) := bnd (f11_demandIndex p1 (M 1 0 0 7)) (fun (r1 : Nat) => if r1 = 0 then ((0, (M 1 5 0 p1)), M) else ((r1, 0), M))
set_option maxHeartbeats 4000000 in
set_option maxRecDepth 100000 in
theorem mc_X11_movedGood (l : Launch) (hl : l.stackTraces = false) (D : va_G) (ta : wTa) (ad : wAd) (M : Wm) (p1 : Int32) (hc1 : (M 1 0 0 7).toInt ≤ 3000) : MX l D ta ad yX11_movedGood cX11_movedGood 2 (some .int) 8 1 [.ref (ad 11 0 0), .int p1] M (fxi (f11_movedGood M p1)) := by
  refine MX.of (fxi) (f11_movedGood M p1) rfl (by decide) (Nat.le_of_ble_eq_true rfl) (fun p e s m args below meth c cx hzx ht hr => ?_)
  unfold f11_movedGood
  refine mw_sub (lv' := [(0, .ref (ad 11 0 0)), (1, .int p1)]) [0, 1] rfl ?_
  refine mw_iload_n cx (q := 1) 1 rfl rfl dX11_movedGood_0 rfl ?_
  refine mw_aload_n cx (q := 2) 0 rfl rfl dX11_movedGood_1 rfl ?_
  refine mw_get cx (q := 5) (v := .ref (ad 1 0 0)) gf_X11_35 rfl rfl vi_11_0 dX11_movedGood_2 rfl ?_
  refine mw_getN cx (q := 8) (v := .int (M 1 0 0 7)) gf_X11_203 rfl rfl vi_1_0 dX11_movedGood_5 rfl ?_
  refine mw_bnd (fun r1 er1 => ?_)
  refine mx_gS cx hzx ht (q := 11) (d := 6) (u0 := 1) (As := [.int p1, .int (M 1 0 0 7)]) (r := r1) (v := none) (st := []) (st1 := []) (by rw [er1]; exact mc_X11_demandIndex l hl D ta ad M p1 (M 1 0 0 7)) cv_X11_83 ⟨by decide, by decide⟩ ⟨by decide, by decide⟩ ⟨by decide, by decide⟩ (by simp [Value.category]) rfl rfl ⟨rfl, rfl⟩ dX11_movedGood_8 rfl (fun h2 => ?_)
  have qr10 : 0 ≤ p1.toInt ∧ p1.toInt < (M 1 0 0 7).toInt := demandIndex_ok (er1.symm.trans h2)
  refine mw_aload_n cx (q := 12) 0 rfl rfl dX11_movedGood_11 rfl ?_
  refine mw_get cx (q := 15) (v := .ref (ad 1 0 0)) gf_X11_35 rfl rfl vi_11_0 dX11_movedGood_12 rfl ?_
  refine mw_getN cx (q := 18) (v := .ref (ad 1 5 0)) gf_X11_211 rfl rfl vi_1_0 dX11_movedGood_15 rfl ?_
  refine mw_iload_n cx (q := 19) 1 rfl rfl dX11_movedGood_18 rfl ?_
  refine mw_iald cx (q := 20) (w := (M 1 5 0 p1)) rfl (fun _ => rfl) vi_1_5 (by simp only [vp_in_iff, i32lt, i32le, i32eq, i32add, i32sub, i32mul, i32neg, t32_0, t32_1, t32_7, t32_3000] at qr10 hc1 ⊢; omega) dX11_movedGood_19 rfl ?_
  exact mx_iret cx hr rfl rfl ⟨by decide, by decide⟩ dX11_movedGood_20
def f11_movedAmount (M : Wm) (p1 : Int32) : ((Nat × Int32) × Wm) := bnd (f11_demandIndex p1 (M 1 0 0 7)) (fun (r1 : Nat) => if r1 = 0 then ((0, (M 1 6 0 p1)), M) else ((r1, 0), M))
set_option maxHeartbeats 4000000 in
set_option maxRecDepth 100000 in
theorem mc_X11_movedAmount (l : Launch) (hl : l.stackTraces = false) (D : va_G) (ta : wTa) (ad : wAd) (M : Wm) (p1 : Int32) (hc1 : (M 1 0 0 7).toInt ≤ 3000) : MX l D ta ad yX11_movedAmount cX11_movedAmount 2 (some .int) 8 1 [.ref (ad 11 0 0), .int p1] M (fxi (f11_movedAmount M p1)) := by
  refine MX.of (fxi) (f11_movedAmount M p1) rfl (by decide) (Nat.le_of_ble_eq_true rfl) (fun p e s m args below meth c cx hzx ht hr => ?_)
  unfold f11_movedAmount
  refine mw_sub (lv' := [(0, .ref (ad 11 0 0)), (1, .int p1)]) [0, 1] rfl ?_
  refine mw_iload_n cx (q := 1) 1 rfl rfl dX11_movedAmount_0 rfl ?_
  refine mw_aload_n cx (q := 2) 0 rfl rfl dX11_movedAmount_1 rfl ?_
  refine mw_get cx (q := 5) (v := .ref (ad 1 0 0)) gf_X11_35 rfl rfl vi_11_0 dX11_movedAmount_2 rfl ?_
  refine mw_getN cx (q := 8) (v := .int (M 1 0 0 7)) gf_X11_203 rfl rfl vi_1_0 dX11_movedAmount_5 rfl ?_
  refine mw_bnd (fun r1 er1 => ?_)
  refine mx_gS cx hzx ht (q := 11) (d := 6) (u0 := 1) (As := [.int p1, .int (M 1 0 0 7)]) (r := r1) (v := none) (st := []) (st1 := []) (by rw [er1]; exact mc_X11_demandIndex l hl D ta ad M p1 (M 1 0 0 7)) cv_X11_83 ⟨by decide, by decide⟩ ⟨by decide, by decide⟩ ⟨by decide, by decide⟩ (by simp [Value.category]) rfl rfl ⟨rfl, rfl⟩ dX11_movedAmount_8 rfl (fun h2 => ?_)
  have qr10 : 0 ≤ p1.toInt ∧ p1.toInt < (M 1 0 0 7).toInt := demandIndex_ok (er1.symm.trans h2)
  refine mw_aload_n cx (q := 12) 0 rfl rfl dX11_movedAmount_11 rfl ?_
  refine mw_get cx (q := 15) (v := .ref (ad 1 0 0)) gf_X11_35 rfl rfl vi_11_0 dX11_movedAmount_12 rfl ?_
  refine mw_getN cx (q := 18) (v := .ref (ad 1 6 0)) gf_X11_214 rfl rfl vi_1_0 dX11_movedAmount_15 rfl ?_
  refine mw_iload_n cx (q := 19) 1 rfl rfl dX11_movedAmount_18 rfl ?_
  refine mw_iald cx (q := 20) (w := (M 1 6 0 p1)) rfl (fun _ => rfl) vi_1_6 (by simp only [vp_in_iff, i32lt, i32le, i32eq, i32add, i32sub, i32mul, i32neg, t32_0, t32_1, t32_7, t32_3000] at qr10 hc1 ⊢; omega) dX11_movedAmount_19 rfl ?_
  exact mx_iret cx hr rfl rfl ⟨by decide, by decide⟩ dX11_movedAmount_20
def f11_movedBy (M : Wm) (p1 : Int32) : ((Nat × Int32) × Wm) := bnd (f11_demandIndex p1 (M 1 0 0 7)) (fun (r1 : Nat) => if r1 = 0 then ((0, (M 1 7 0 p1)), M) else ((r1, 0), M))
set_option maxHeartbeats 4000000 in
set_option maxRecDepth 100000 in
theorem mc_X11_movedBy (l : Launch) (hl : l.stackTraces = false) (D : va_G) (ta : wTa) (ad : wAd) (M : Wm) (p1 : Int32) (hc1 : (M 1 0 0 7).toInt ≤ 3000) : MX l D ta ad yX11_movedBy cX11_movedBy 2 (some .int) 8 1 [.ref (ad 11 0 0), .int p1] M (fxi (f11_movedBy M p1)) := by
  refine MX.of (fxi) (f11_movedBy M p1) rfl (by decide) (Nat.le_of_ble_eq_true rfl) (fun p e s m args below meth c cx hzx ht hr => ?_)
  unfold f11_movedBy
  refine mw_sub (lv' := [(0, .ref (ad 11 0 0)), (1, .int p1)]) [0, 1] rfl ?_
  refine mw_iload_n cx (q := 1) 1 rfl rfl dX11_movedBy_0 rfl ?_
  refine mw_aload_n cx (q := 2) 0 rfl rfl dX11_movedBy_1 rfl ?_
  refine mw_get cx (q := 5) (v := .ref (ad 1 0 0)) gf_X11_35 rfl rfl vi_11_0 dX11_movedBy_2 rfl ?_
  refine mw_getN cx (q := 8) (v := .int (M 1 0 0 7)) gf_X11_203 rfl rfl vi_1_0 dX11_movedBy_5 rfl ?_
  refine mw_bnd (fun r1 er1 => ?_)
  refine mx_gS cx hzx ht (q := 11) (d := 6) (u0 := 1) (As := [.int p1, .int (M 1 0 0 7)]) (r := r1) (v := none) (st := []) (st1 := []) (by rw [er1]; exact mc_X11_demandIndex l hl D ta ad M p1 (M 1 0 0 7)) cv_X11_83 ⟨by decide, by decide⟩ ⟨by decide, by decide⟩ ⟨by decide, by decide⟩ (by simp [Value.category]) rfl rfl ⟨rfl, rfl⟩ dX11_movedBy_8 rfl (fun h2 => ?_)
  have qr10 : 0 ≤ p1.toInt ∧ p1.toInt < (M 1 0 0 7).toInt := demandIndex_ok (er1.symm.trans h2)
  refine mw_aload_n cx (q := 12) 0 rfl rfl dX11_movedBy_11 rfl ?_
  refine mw_get cx (q := 15) (v := .ref (ad 1 0 0)) gf_X11_35 rfl rfl vi_11_0 dX11_movedBy_12 rfl ?_
  refine mw_getN cx (q := 18) (v := .ref (ad 1 7 0)) gf_X11_217 rfl rfl vi_1_0 dX11_movedBy_15 rfl ?_
  refine mw_iload_n cx (q := 19) 1 rfl rfl dX11_movedBy_18 rfl ?_
  refine mw_iald cx (q := 20) (w := (M 1 7 0 p1)) rfl (fun _ => rfl) vi_1_7 (by simp only [vp_in_iff, i32lt, i32le, i32eq, i32add, i32sub, i32mul, i32neg, t32_0, t32_1, t32_7, t32_3000] at qr10 hc1 ⊢; omega) dX11_movedBy_19 rfl ?_
  exact mx_iret cx hr rfl rfl ⟨by decide, by decide⟩ dX11_movedBy_20
