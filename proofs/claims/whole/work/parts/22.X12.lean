def f12_in (p1 : Int32) (p2 : Int32) (p3 : Int32) : Bool := if p1 < p2 then false else if p3 < p1 then false else true
set_option maxHeartbeats 4000000 in
set_option maxRecDepth 100000 in
theorem mc_X12_in (l : Launch) (D : va_G) (ta : wTa) (ad : wAd) (M : Wm) (p1 : Int32) (p2 : Int32) (p3 : Int32) : MC l D ta ad yX12_in cX12_in 3 (some .boolean) 0 [.int p1, .int p2, .int p3] M (fzp M (f12_in p1 p2 p3)) := by
  refine MC.of (fzp M) (f12_in p1 p2 p3) rfl (by decide) (Nat.le_of_ble_eq_true rfl) (fun p e s m args below meth c cx hr => ?_)
  unfold f12_in
  refine mw_sub (lv' := [(0, .int p1), (1, .int p2), (2, .int p3)]) [0, 1, 2] rfl ?_
  refine mw_iload_n cx (q := 1) 0 rfl rfl dX12_in_0 rfl ?_
  refine mw_iload_n cx (q := 2) 1 rfl rfl dX12_in_1 rfl ?_
  refine mw_icmp_lt cx (tgt := 14) (q := 5) dX12_in_2 (by decide) rfl (fun h1 => ?_) (fun h1 => ?_)
  · refine mw_iconst cx (q := 15) (v := 0) dX12_in_14 rfl rfl ?_
    exact mw_zret cx hr rfl rfl dX12_in_15
  · refine mw_iload_n cx (q := 6) 0 rfl rfl dX12_in_5 rfl ?_
    refine mw_iload_n cx (q := 7) 2 rfl rfl dX12_in_6 rfl ?_
    refine mw_icmp_gt cx (tgt := 14) (q := 10) dX12_in_7 (by decide) rfl (fun h2 => ?_) (fun h2 => ?_)
    · refine mw_iconst cx (q := 15) (v := 0) dX12_in_14 rfl rfl ?_
      exact mw_zret cx hr rfl rfl dX12_in_15
    · refine mw_iconst cx (q := 11) (v := 1) dX12_in_10 rfl rfl ?_
      refine mw_goto cx (tgt := 15) dX12_in_11 (by decide) ?_
      exact mw_zret cx hr rfl rfl dX12_in_15
theorem in_t {a b c : Int32} (h : f12_in a b c = true) : b ≤ a ∧ a ≤ c := by
  unfold f12_in at h
  by_cases h1 : a < b
  · rw [if_pos h1] at h; cases h
  · rw [if_neg h1] at h
    by_cases h2 : c < a
    · rw [if_pos h2] at h; cases h
    · simp only [i32lt, i32le] at *; omega
theorem in_f {a b c : Int32} (h : f12_in a b c = false) : ¬ (b ≤ a ∧ a ≤ c) := by
  unfold f12_in at h
  by_cases h1 : a < b
  · simp only [i32lt, i32le] at *; omega
  · rw [if_neg h1] at h
    by_cases h2 : c < a
    · simp only [i32lt, i32le] at *; omega
    · rw [if_neg h2] at h; cases h
theorem in_i {a b c : Int32} (h : f12_in a b c = true) : b.toInt ≤ a.toInt ∧ a.toInt ≤ c.toInt := by
  have := in_t h; simp only [i32le] at this; exact this
theorem in_in {a c : Int32} {n : Nat} (h : f12_in a 0 c = true) (hc : c.toInt < n) : vp_in a n := by
  have := in_t h
  rw [vp_in_iff]; simp only [i32le, t32_0] at this; omega
def f12_isScript (p1 : Int32) : Bool := bnd (f12_in p1 0 7) (fun (r1 : Bool) => r1)
set_option maxHeartbeats 4000000 in
set_option maxRecDepth 100000 in
theorem mc_X12_isScript (l : Launch) (D : va_G) (ta : wTa) (ad : wAd) (M : Wm) (p1 : Int32) : MC l D ta ad yX12_isScript cX12_isScript 1 (some .boolean) 1 [.int p1] M (fzp M (f12_isScript p1)) := by
  refine MC.of (fzp M) (f12_isScript p1) rfl (by decide) (Nat.le_of_ble_eq_true rfl) (fun p e s m args below meth c cx hr => ?_)
  unfold f12_isScript
  refine mw_sub (lv' := [(0, .int p1)]) [0] rfl ?_
  refine mw_iload_n cx (q := 1) 0 rfl rfl dX12_isScript_0 rfl ?_
  refine mw_iconst cx (q := 2) (v := 0) dX12_isScript_1 rfl rfl ?_
  refine mw_bipush cx (q := 4) (v := 7) dX12_isScript_2 rfl rfl ?_
  refine mw_bnd (fun r1 er1 => ?_)
  refine mw_callS cx (q := 7) (d := 0) (As := [.int p1, .int 0, .int 7]) (z := fzp M r1) (st := []) (st1 := [.int (b2i r1)]) (M' := M) (by rw [er1]; exact mc_X12_in l D ta ad M p1 0 7) cv_X12_167 ⟨Nat.le_of_ble_eq_true rfl, Nat.le_of_ble_eq_true rfl⟩ ⟨Nat.le_refl _, Nat.le_refl _⟩ (by simp [Value.category]) rfl rfl rfl dX12_isScript_4 rfl ?_
  have qr10 : r1 = true → 0 ≤ p1.toInt ∧ p1.toInt ≤ 7 := (fun hq => in_i (er1.symm.trans hq))
  exact mw_zret cx hr (b2i_nar _) rfl dX12_isScript_7
theorem isScript_t {a : Int32} (h : f12_isScript a = true) : vp_in a 8 := by unfold f12_isScript at h; simp only [bnd] at h; exact in_in h (by decide)
def f12_isCompany (p1 : Int32) : Bool := bnd (f12_in p1 0 3) (fun (r1 : Bool) => r1)
set_option maxHeartbeats 4000000 in
set_option maxRecDepth 100000 in
theorem mc_X12_isCompany (l : Launch) (D : va_G) (ta : wTa) (ad : wAd) (M : Wm) (p1 : Int32) : MC l D ta ad yX12_isCompany cX12_isCompany 1 (some .boolean) 1 [.int p1] M (fzp M (f12_isCompany p1)) := by
  refine MC.of (fzp M) (f12_isCompany p1) rfl (by decide) (Nat.le_of_ble_eq_true rfl) (fun p e s m args below meth c cx hr => ?_)
  unfold f12_isCompany
  refine mw_sub (lv' := [(0, .int p1)]) [0] rfl ?_
  refine mw_iload_n cx (q := 1) 0 rfl rfl dX12_isCompany_0 rfl ?_
  refine mw_iconst cx (q := 2) (v := 0) dX12_isCompany_1 rfl rfl ?_
  refine mw_iconst cx (q := 3) (v := 3) dX12_isCompany_2 rfl rfl ?_
  refine mw_bnd (fun r1 er1 => ?_)
  refine mw_callS cx (q := 6) (d := 0) (As := [.int p1, .int 0, .int 3]) (z := fzp M r1) (st := []) (st1 := [.int (b2i r1)]) (M' := M) (by rw [er1]; exact mc_X12_in l D ta ad M p1 0 3) cv_X12_167 ⟨Nat.le_of_ble_eq_true rfl, Nat.le_of_ble_eq_true rfl⟩ ⟨Nat.le_refl _, Nat.le_refl _⟩ (by simp [Value.category]) rfl rfl rfl dX12_isCompany_3 rfl ?_
  have qr10 : r1 = true → 0 ≤ p1.toInt ∧ p1.toInt ≤ 3 := (fun hq => in_i (er1.symm.trans hq))
  exact mw_zret cx hr (b2i_nar _) rfl dX12_isCompany_6
theorem isCompany_t {a : Int32} (h : f12_isCompany a = true) : vp_in a 4 := by unfold f12_isCompany at h; simp only [bnd] at h; exact in_in h (by decide)
def f12_isGood (p1 : Int32) : Bool := bnd (f12_in p1 0 7) (fun (r1 : Bool) => r1)
set_option maxHeartbeats 4000000 in
set_option maxRecDepth 100000 in
theorem mc_X12_isGood (l : Launch) (D : va_G) (ta : wTa) (ad : wAd) (M : Wm) (p1 : Int32) : MC l D ta ad yX12_isGood cX12_isGood 1 (some .boolean) 1 [.int p1] M (fzp M (f12_isGood p1)) := by
  refine MC.of (fzp M) (f12_isGood p1) rfl (by decide) (Nat.le_of_ble_eq_true rfl) (fun p e s m args below meth c cx hr => ?_)
  unfold f12_isGood
  refine mw_sub (lv' := [(0, .int p1)]) [0] rfl ?_
  refine mw_iload_n cx (q := 1) 0 rfl rfl dX12_isGood_0 rfl ?_
  refine mw_iconst cx (q := 2) (v := 0) dX12_isGood_1 rfl rfl ?_
  refine mw_bipush cx (q := 4) (v := 7) dX12_isGood_2 rfl rfl ?_
  refine mw_bnd (fun r1 er1 => ?_)
  refine mw_callS cx (q := 7) (d := 0) (As := [.int p1, .int 0, .int 7]) (z := fzp M r1) (st := []) (st1 := [.int (b2i r1)]) (M' := M) (by rw [er1]; exact mc_X12_in l D ta ad M p1 0 7) cv_X12_167 ⟨Nat.le_of_ble_eq_true rfl, Nat.le_of_ble_eq_true rfl⟩ ⟨Nat.le_refl _, Nat.le_refl _⟩ (by simp [Value.category]) rfl rfl rfl dX12_isGood_4 rfl ?_
  have qr10 : r1 = true → 0 ≤ p1.toInt ∧ p1.toInt ≤ 7 := (fun hq => in_i (er1.symm.trans hq))
  exact mw_zret cx hr (b2i_nar _) rfl dX12_isGood_7
theorem isGood_t {a : Int32} (h : f12_isGood a = true) : vp_in a 8 := by unfold f12_isGood at h; simp only [bnd] at h; exact in_in h (by decide)
def f12_isDigit (p1 : Int32) : Bool := bnd (f12_in p1 48 57) (fun (r1 : Bool) => r1)
set_option maxHeartbeats 4000000 in
set_option maxRecDepth 100000 in
theorem mc_X12_isDigit (l : Launch) (D : va_G) (ta : wTa) (ad : wAd) (M : Wm) (p1 : Int32) : MC l D ta ad yX12_isDigit cX12_isDigit 1 (some .boolean) 1 [.int p1] M (fzp M (f12_isDigit p1)) := by
  refine MC.of (fzp M) (f12_isDigit p1) rfl (by decide) (Nat.le_of_ble_eq_true rfl) (fun p e s m args below meth c cx hr => ?_)
  unfold f12_isDigit
  refine mw_sub (lv' := [(0, .int p1)]) [0] rfl ?_
  refine mw_iload_n cx (q := 1) 0 rfl rfl dX12_isDigit_0 rfl ?_
  refine mw_bipush cx (q := 3) (v := 48) dX12_isDigit_1 rfl rfl ?_
  refine mw_bipush cx (q := 5) (v := 57) dX12_isDigit_3 rfl rfl ?_
  refine mw_bnd (fun r1 er1 => ?_)
  refine mw_callS cx (q := 8) (d := 0) (As := [.int p1, .int 48, .int 57]) (z := fzp M r1) (st := []) (st1 := [.int (b2i r1)]) (M' := M) (by rw [er1]; exact mc_X12_in l D ta ad M p1 48 57) cv_X12_167 ⟨Nat.le_of_ble_eq_true rfl, Nat.le_of_ble_eq_true rfl⟩ ⟨Nat.le_refl _, Nat.le_refl _⟩ (by simp [Value.category]) rfl rfl rfl dX12_isDigit_5 rfl ?_
  have qr10 : r1 = true → 48 ≤ p1.toInt ∧ p1.toInt ≤ 57 := (fun hq => in_i (er1.symm.trans hq))
  exact mw_zret cx hr (b2i_nar _) rfl dX12_isDigit_8
def f12_isLetter (p1 : Int32) : Bool := bnd (f12_in p1 97 122) (fun (r1 : Bool) => r1)
set_option maxHeartbeats 4000000 in
set_option maxRecDepth 100000 in
theorem mc_X12_isLetter (l : Launch) (D : va_G) (ta : wTa) (ad : wAd) (M : Wm) (p1 : Int32) : MC l D ta ad yX12_isLetter cX12_isLetter 1 (some .boolean) 1 [.int p1] M (fzp M (f12_isLetter p1)) := by
  refine MC.of (fzp M) (f12_isLetter p1) rfl (by decide) (Nat.le_of_ble_eq_true rfl) (fun p e s m args below meth c cx hr => ?_)
  unfold f12_isLetter
  refine mw_sub (lv' := [(0, .int p1)]) [0] rfl ?_
  refine mw_iload_n cx (q := 1) 0 rfl rfl dX12_isLetter_0 rfl ?_
  refine mw_bipush cx (q := 3) (v := 97) dX12_isLetter_1 rfl rfl ?_
  refine mw_bipush cx (q := 5) (v := 122) dX12_isLetter_3 rfl rfl ?_
  refine mw_bnd (fun r1 er1 => ?_)
  refine mw_callS cx (q := 8) (d := 0) (As := [.int p1, .int 97, .int 122]) (z := fzp M r1) (st := []) (st1 := [.int (b2i r1)]) (M' := M) (by rw [er1]; exact mc_X12_in l D ta ad M p1 97 122) cv_X12_167 ⟨Nat.le_of_ble_eq_true rfl, Nat.le_of_ble_eq_true rfl⟩ ⟨Nat.le_refl _, Nat.le_refl _⟩ (by simp [Value.category]) rfl rfl rfl dX12_isLetter_5 rfl ?_
  have qr10 : r1 = true → 97 ≤ p1.toInt ∧ p1.toInt ≤ 122 := (fun hq => in_i (er1.symm.trans hq))
  exact mw_zret cx hr (b2i_nar _) rfl dX12_isLetter_8
theorem isDigit_t {a : Int32} (h : f12_isDigit a = true) : 48 ≤ a.toInt ∧ a.toInt ≤ 57 := by unfold f12_isDigit at h; simp only [bnd] at h; exact in_i h
theorem isLetter_t {a : Int32} (h : f12_isLetter a = true) : 48 ≤ a.toInt ∧ 97 ≤ a.toInt ∧ a.toInt ≤ 122 := by unfold f12_isLetter at h; simp only [bnd] at h; have := in_i h; simp only [t32_97, t32_122] at this; omega
def f12_thrown (m : Cm) : Int32 := (m 0 0 0)
set_option maxHeartbeats 4000000 in
set_option maxRecDepth 100000 in
theorem mc_X12_thrown (l : Launch) (D : va_G) (ta : wTa) (ad : wAd) (M : Wm) : MC l D ta ad yX12_thrown cX12_thrown 1 (some .int) 0 [.ref (ad 12 0 0)] M (fip M (f12_thrown (M 12))) := by
  refine MC.of (fip M) (f12_thrown (M 12)) rfl (by decide) (Nat.le_of_ble_eq_true rfl) (fun p e s m args below meth c cx hr => ?_)
  unfold f12_thrown
  refine mw_sub (lv' := [(0, .ref (ad 12 0 0))]) [0] rfl ?_
  refine mw_aload_n cx (q := 1) 0 rfl rfl dX12_thrown_0 rfl ?_
  refine mw_get cx (q := 4) (v := .int ((M 12) 0 0 0)) gf_X12_164 rfl rfl vi_12_0 dX12_thrown_1 rfl ?_
  exact mw_iret cx hr rfl dX12_thrown_4
def f12_goesWell (m : Cm) (p1 : Int32) : (Bool × Cm) := bnd (u3 m 0 0 0 p1) (fun (m1 : Cm) => if p1 = 0 then (true, m1) else (false, m1))
set_option maxHeartbeats 4000000 in
set_option maxRecDepth 100000 in
theorem mc_X12_goesWell (l : Launch) (D : va_G) (ta : wTa) (ad : wAd) (M : Wm) (p1 : Int32) : MC l D ta ad yX12_goesWell cX12_goesWell 2 (some .boolean) 0 [.ref (ad 12 0 0), .int p1] M (fzc M 12 (f12_goesWell (M 12) p1)) := by
  refine MC.of (fzc M 12) (f12_goesWell (M 12) p1) rfl (by decide) (Nat.le_of_ble_eq_true rfl) (fun p e s m args below meth c cx hr => ?_)
  unfold f12_goesWell
  refine mw_sub (lv' := [(0, .ref (ad 12 0 0)), (1, .int p1)]) [0, 1] rfl ?_
  refine mw_eqM (uW_self M 12) ?_
  refine mw_aload_n cx (q := 1) 0 rfl rfl dX12_goesWell_0 rfl ?_
  refine mw_iload_n cx (q := 2) 1 rfl rfl dX12_goesWell_1 rfl ?_
  refine mw_putC cx (q := 5) 0 gf_X12_164 pf_X12_0 (int_fit _) rfl (Nat.le_of_ble_eq_true rfl) rfl vi_12_0 (by decide) dX12_goesWell_2 rfl (fun m1 em1 => ?_)
  refine mw_iload_n cx (q := 6) 1 rfl rfl dX12_goesWell_5 rfl ?_
  refine mw_if_ne cx (tgt := 13) (q := 9) dX12_goesWell_6 (by decide) rfl (fun h2 => ?_) (fun h2 => ?_)
  · refine mw_iconst cx (q := 14) (v := 0) dX12_goesWell_13 rfl rfl ?_
    exact mw_zret cx hr rfl rfl dX12_goesWell_14
  · refine mw_iconst cx (q := 10) (v := 1) dX12_goesWell_9 rfl rfl ?_
    refine mw_goto cx (tgt := 14) dX12_goesWell_10 (by decide) ?_
    exact mw_zret cx hr rfl rfl dX12_goesWell_14
theorem goesWell_t {m : Cm} {a : Int32} (h : (f12_goesWell m a).1 = true) : a = 0 := by
  unfold f12_goesWell at h; simp only [bnd] at h
  by_cases e : a = 0
  · exact e
  · rw [if_neg e] at h; cases h
theorem goesWell_m (m : Cm) (a : Int32) : (f12_goesWell m a).2 = u3 m 0 0 0 a := by
  unfold f12_goesWell; simp only [bnd]; split <;> rfl
theorem okT_f12_goesWell {m0 m : Cm} (h : OkT m0 m) (a : Int32) : OkT m0 (f12_goesWell m a).2 := by
  rw [goesWell_m]; exact okT_put0 h (by decide)
def f12_signAt (m : Cm) (p1 : Int32) (p2 : Int32) : Int32 := if (m 3 0 p1) ≤ p2 then 0 else (m 2 0 ((120 * p1) + p2))
set_option maxHeartbeats 4000000 in
set_option maxRecDepth 100000 in
theorem mc_X12_signAt (l : Launch) (D : va_G) (ta : wTa) (ad : wAd) (M : Wm) (p1 : Int32) (p2 : Int32) (hp1 : vp_in p1 8) (hok : Ok12 (M 12)) (hp2 : 0 ≤ p2.toInt) : MC l D ta ad yX12_signAt cX12_signAt 3 (some .int) 0 [.ref (ad 12 0 0), .int p1, .int p2] M (fip M (f12_signAt (M 12) p1 p2)) := by
  refine MC.of (fip M) (f12_signAt (M 12) p1 p2) rfl (by decide) (Nat.le_of_ble_eq_true rfl) (fun p e s m args below meth c cx hr => ?_)
  unfold f12_signAt
  refine mw_sub (lv' := [(0, .ref (ad 12 0 0)), (1, .int p1), (2, .int p2)]) [0, 1, 2] rfl ?_
  refine mw_iload_n cx (q := 1) 2 rfl rfl dX12_signAt_0 rfl ?_
  refine mw_aload_n cx (q := 2) 0 rfl rfl dX12_signAt_1 rfl ?_
  refine mw_get cx (q := 5) (v := .ref (ad 12 3 0)) gf_X12_13 rfl rfl vi_12_0 dX12_signAt_2 rfl ?_
  refine mw_iload_n cx (q := 6) 1 rfl rfl dX12_signAt_5 rfl ?_
  refine mw_iald cx (q := 7) (w := ((M 12) 3 0 p1)) rfl (fun _ => rfl) vi_12_3 hp1 dX12_signAt_6 rfl ?_
  refine mw_icmp_ge cx (tgt := 24) (q := 10) dX12_signAt_7 (by decide) rfl (fun h1 => ?_) (fun h1 => ?_)
  · refine mw_iconst cx (q := 25) (v := 0) dX12_signAt_24 rfl rfl ?_
    exact mw_iret cx hr rfl dX12_signAt_25
  · refine mw_aload_n cx (q := 11) 0 rfl rfl dX12_signAt_10 rfl ?_
    refine mw_get cx (q := 14) (v := .ref (ad 12 2 0)) gf_X12_7 rfl rfl vi_12_0 dX12_signAt_11 rfl ?_
    refine mw_bipush cx (q := 16) (v := 120) dX12_signAt_14 rfl rfl ?_
    refine mw_iload_n cx (q := 17) 1 rfl rfl dX12_signAt_16 rfl ?_
    refine mw_imul cx (q := 18) dX12_signAt_17 rfl ?_
    refine mw_iload_n cx (q := 19) 2 rfl rfl dX12_signAt_18 rfl ?_
    refine mw_iadd cx (q := 20) dX12_signAt_19 rfl ?_
    refine mw_iald cx (q := 21) (w := ((M 12) 2 0 ((120 * p1) + p2))) rfl (fun _ => rfl) vi_12_2 (by have hm : (120 * p1).toInt = p1.toInt * 120 := (by rw [vp_in_iff] at hp1; rw [i32mul, t32_120]; omega); have hq := (hok.len p1 hp1).2; have hz := h1; simp only [i32lt, i32le] at hz; rw [vp_in_iff] at hp1 ⊢; rw [i32addn (by rw [hm]; omega) (by rw [hm]; omega), hm]; omega) dX12_signAt_20 rfl ?_
    refine mw_goto cx (tgt := 25) dX12_signAt_21 (by decide) ?_
    exact mw_iret cx hr rfl dX12_signAt_25
def f12_length (m : Cm) (p1 : Int32) : (Int32 × Cm) := bnd (f12_isScript p1) (fun (r1 : Bool) => jn (fun (v2 : Bool) => bnd (f12_goesWell m (b2i v2)) (fun (r5 : Bool × Cm) => if r5.1 = true then ((r5.2 3 0 p1), r5.2) else (0, r5.2))) (fun K3 => if r1 = true then K3 false else K3 true))
set_option maxHeartbeats 4000000 in
set_option maxRecDepth 100000 in
theorem mc_X12_length (l : Launch) (D : va_G) (ta : wTa) (ad : wAd) (M : Wm) (p1 : Int32) (hok : Ok12 (M 12)) : MC l D ta ad yX12_length cX12_length 2 (some .int) 2 [.ref (ad 12 0 0), .int p1] M (fic M 12 (f12_length (M 12) p1)) := by
  refine MC.of (fic M 12) (f12_length (M 12) p1) rfl (by decide) (Nat.le_of_ble_eq_true rfl) (fun p e s m args below meth c cx hr => ?_)
  unfold f12_length
  refine mw_sub (lv' := [(0, .ref (ad 12 0 0)), (1, .int p1)]) [0, 1] rfl ?_
  refine mw_eqM (uW_self M 12) ?_
  have ok0 : OkT (M 12) (M 12) := ⟨hok, rfl, rfl⟩
  refine mw_aload_n cx (q := 1) 0 rfl rfl dX12_length_0 rfl ?_
  refine mw_iload_n cx (q := 2) 1 rfl rfl dX12_length_1 rfl ?_
  refine mw_bnd (fun r1 er1 => ?_)
  refine mw_callS cx (q := 5) (d := 1) (As := [.int p1]) (z := fzp (uW M 12 (M 12)) r1) (st := [.ref (ad 12 0 0)]) (st1 := [.int (b2i r1), .ref (ad 12 0 0)]) (M' := (uW M 12 (M 12))) (by rw [er1]; exact mc_X12_isScript l D ta ad (uW M 12 (M 12)) p1) cv_X12_178 ⟨Nat.le_of_ble_eq_true rfl, Nat.le_of_ble_eq_true rfl⟩ ⟨Nat.le_refl _, Nat.le_refl _⟩ (by simp [Value.category]) rfl rfl rfl dX12_length_2 rfl ?_
  have qr10 : r1 = true → vp_in p1 8 := (fun hq => isScript_t (er1.symm.trans hq))
  refine mw_jnP (P := fun (v2 : Bool) => ((b2i v2) = 0 → vp_in p1 8)) (Mj := fun (v2 : Bool) => (uW M 12 (M 12))) (pj := 13) (lj := fun (v2 : Bool) => [(0, .ref (ad 12 0 0)), (1, .int p1)]) (sj := fun (v2 : Bool) => [.int (b2i v2), .ref (ad 12 0 0)]) (fun v2 jv2 => ?_) (fun K3 hK3 => ?_)
  · have jv2_0 := jv2
    refine mw_bnd (fun r5 er5 => ?_)
    refine mw_callV cx (q := 16) (d := 0) (As := [.int (b2i v2)]) (z := fzc (uW M 12 (M 12)) 12 r5) (st := []) (st1 := [.int (b2i r5.1)]) (M' := uW M 12 r5.2) (by rw [er5]; exact mc_X12_goesWell l D ta ad (uW M 12 (M 12)) (b2i v2)) cv_X12_181 rfl rfl rfl vi_12_0 ⟨Nat.le_of_ble_eq_true rfl, Nat.le_of_ble_eq_true rfl⟩ ⟨Nat.le_refl _, Nat.le_refl _⟩ (by simp [Value.category]) rfl rfl (by exact uW_uW _ _ _ _) dX12_length_13 rfl ?_
    have ok6 : OkT (M 12) r5.2 := (by rw [er5]; exact okT_f12_goesWell ok0 (b2i v2))
    have qr50 : r5.1 = true → (b2i v2) = 0 := (fun hq => goesWell_t ((congrArg Prod.fst er5).symm.trans hq))
    refine mw_ifb_eq cx (tgt := 28) (q := 19) dX12_length_16 (by decide) rfl (fun h7 => ?_) (fun h7 => ?_)
    · refine mw_iconst cx (q := 29) (v := 0) dX12_length_28 rfl rfl ?_
      exact mw_iret cx hr rfl dX12_length_29
    · refine mw_aload_n cx (q := 20) 0 rfl rfl dX12_length_19 rfl ?_
      refine mw_get cx (q := 23) (v := .ref (ad 12 3 0)) gf_X12_13 rfl rfl vi_12_0 dX12_length_20 rfl ?_
      refine mw_iload_n cx (q := 24) 1 rfl rfl dX12_length_23 rfl ?_
      refine mw_iald cx (q := 25) (w := (r5.2 3 0 p1)) rfl (fun _ => rfl) vi_12_3 (jv2_0 (qr50 h7)) dX12_length_24 rfl ?_
      refine mw_goto cx (tgt := 29) dX12_length_25 (by decide) ?_
      exact mw_iret cx hr rfl dX12_length_29
  · refine mw_ifb_eq cx (tgt := 12) (q := 8) dX12_length_5 (by decide) rfl (fun h4 => ?_) (fun h4 => ?_)
    · refine mw_iconst cx (q := 13) (v := 1) dX12_length_12 rfl rfl ?_
      exact hK3 true (by intro hz; first | exact absurd hz (by decide) | exact (by (try simp only [vp_in_iff, i32lt, i32le, i32eq, i32add, i32sub, i32mul, i32neg, t32_8] at qr10 h4 ⊢); omega))
    · refine mw_iconst cx (q := 9) (v := 0) dX12_length_8 rfl rfl ?_
      refine mw_goto cx (tgt := 13) dX12_length_9 (by decide) ?_
      exact hK3 false (by intro hz; first | exact absurd hz (by decide) | exact (qr10 h4))
def f12_isOrder (m : Cm) (p1 : Int32) : Bool := bnd (f12_in p1 0 ((m 0 0 11) - 1)) (fun (r1 : Bool) => r1)
set_option maxHeartbeats 4000000 in
set_option maxRecDepth 100000 in
theorem mc_X12_isOrder (l : Launch) (D : va_G) (ta : wTa) (ad : wAd) (M : Wm) (p1 : Int32) : MC l D ta ad yX12_isOrder cX12_isOrder 2 (some .boolean) 1 [.ref (ad 12 0 0), .int p1] M (fzp M (f12_isOrder (M 12) p1)) := by
  refine MC.of (fzp M) (f12_isOrder (M 12) p1) rfl (by decide) (Nat.le_of_ble_eq_true rfl) (fun p e s m args below meth c cx hr => ?_)
  unfold f12_isOrder
  refine mw_sub (lv' := [(0, .ref (ad 12 0 0)), (1, .int p1)]) [0, 1] rfl ?_
  refine mw_iload_n cx (q := 1) 1 rfl rfl dX12_isOrder_0 rfl ?_
  refine mw_iconst cx (q := 2) (v := 0) dX12_isOrder_1 rfl rfl ?_
  refine mw_aload_n cx (q := 3) 0 rfl rfl dX12_isOrder_2 rfl ?_
  refine mw_get cx (q := 6) (v := .int ((M 12) 0 0 11)) gf_X12_352 rfl rfl vi_12_0 dX12_isOrder_3 rfl ?_
  refine mw_iconst cx (q := 7) (v := 1) dX12_isOrder_6 rfl rfl ?_
  refine mw_isub cx (q := 8) dX12_isOrder_7 rfl ?_
  refine mw_bnd (fun r1 er1 => ?_)
  refine mw_callS cx (q := 11) (d := 0) (As := [.int p1, .int 0, .int (((M 12) 0 0 11) - 1)]) (z := fzp M r1) (st := []) (st1 := [.int (b2i r1)]) (M' := M) (by rw [er1]; exact mc_X12_in l D ta ad M p1 0 (((M 12) 0 0 11) - 1)) cv_X12_167 ⟨Nat.le_of_ble_eq_true rfl, Nat.le_of_ble_eq_true rfl⟩ ⟨Nat.le_refl _, Nat.le_refl _⟩ (by simp [Value.category]) rfl rfl rfl dX12_isOrder_8 rfl ?_
  have qr10 : r1 = true → 0 ≤ p1.toInt ∧ p1.toInt ≤ (((M 12) 0 0 11) - 1).toInt := (fun hq => in_i (er1.symm.trans hq))
  exact mw_zret cx hr (b2i_nar _) rfl dX12_isOrder_11
theorem isOrder_t {m : Cm} {a : Int32} (hk : Ok12 m) (h : f12_isOrder m a = true) : vp_in a 60 := by
  unfold f12_isOrder at h; simp only [bnd] at h
  refine in_in h ?_
  have h0 := hk.o0; have h1 := hk.o1
  rw [i32subn (by rw [t32_1]; omega) (by rw [t32_1]; omega), t32_1]; omega
def f12_state (m : Cm) (p1 : Int32) : (Int32 × Cm) := bnd (f12_isOrder m p1) (fun (r1 : Bool) => jn (fun (v2 : Bool) => bnd (f12_goesWell m (b2i v2)) (fun (r5 : Bool × Cm) => if r5.1 = true then ((r5.2 17 0 p1), r5.2) else (0, r5.2))) (fun K3 => if r1 = true then K3 false else K3 true))
set_option maxHeartbeats 4000000 in
set_option maxRecDepth 100000 in
theorem mc_X12_state (l : Launch) (D : va_G) (ta : wTa) (ad : wAd) (M : Wm) (p1 : Int32) (hok : Ok12 (M 12)) : MC l D ta ad yX12_state cX12_state 2 (some .int) 2 [.ref (ad 12 0 0), .int p1] M (fic M 12 (f12_state (M 12) p1)) := by
  refine MC.of (fic M 12) (f12_state (M 12) p1) rfl (by decide) (Nat.le_of_ble_eq_true rfl) (fun p e s m args below meth c cx hr => ?_)
  unfold f12_state
  refine mw_sub (lv' := [(0, .ref (ad 12 0 0)), (1, .int p1)]) [0, 1] rfl ?_
  refine mw_eqM (uW_self M 12) ?_
  have ok0 : OkT (M 12) (M 12) := ⟨hok, rfl, rfl⟩
  refine mw_aload_n cx (q := 1) 0 rfl rfl dX12_state_0 rfl ?_
  refine mw_aload_n cx (q := 2) 0 rfl rfl dX12_state_1 rfl ?_
  refine mw_iload_n cx (q := 3) 1 rfl rfl dX12_state_2 rfl ?_
  refine mw_bnd (fun r1 er1 => ?_)
  refine mw_callV cx (q := 6) (d := 1) (As := [.int p1]) (z := fzp (uW M 12 (M 12)) r1) (st := [.ref (ad 12 0 0)]) (st1 := [.int (b2i r1), .ref (ad 12 0 0)]) (M' := (uW M 12 (M 12))) (by rw [er1]; exact mc_X12_isOrder l D ta ad (uW M 12 (M 12)) p1) cv_X12_371 rfl rfl rfl vi_12_0 ⟨Nat.le_of_ble_eq_true rfl, Nat.le_of_ble_eq_true rfl⟩ ⟨Nat.le_refl _, Nat.le_refl _⟩ (by simp [Value.category]) rfl rfl rfl dX12_state_3 rfl ?_
  have qr10 : r1 = true → vp_in p1 60 := (fun hq => isOrder_t ok0.1 (er1.symm.trans hq))
  refine mw_jnP (P := fun (v2 : Bool) => ((b2i v2) = 0 → vp_in p1 60)) (Mj := fun (v2 : Bool) => (uW M 12 (M 12))) (pj := 14) (lj := fun (v2 : Bool) => [(0, .ref (ad 12 0 0)), (1, .int p1)]) (sj := fun (v2 : Bool) => [.int (b2i v2), .ref (ad 12 0 0)]) (fun v2 jv2 => ?_) (fun K3 hK3 => ?_)
  · have jv2_0 := jv2
    refine mw_bnd (fun r5 er5 => ?_)
    refine mw_callV cx (q := 17) (d := 0) (As := [.int (b2i v2)]) (z := fzc (uW M 12 (M 12)) 12 r5) (st := []) (st1 := [.int (b2i r5.1)]) (M' := uW M 12 r5.2) (by rw [er5]; exact mc_X12_goesWell l D ta ad (uW M 12 (M 12)) (b2i v2)) cv_X12_181 rfl rfl rfl vi_12_0 ⟨Nat.le_of_ble_eq_true rfl, Nat.le_of_ble_eq_true rfl⟩ ⟨Nat.le_refl _, Nat.le_refl _⟩ (by simp [Value.category]) rfl rfl (by exact uW_uW _ _ _ _) dX12_state_14 rfl ?_
    have ok6 : OkT (M 12) r5.2 := (by rw [er5]; exact okT_f12_goesWell ok0 (b2i v2))
    have qr50 : r5.1 = true → (b2i v2) = 0 := (fun hq => goesWell_t ((congrArg Prod.fst er5).symm.trans hq))
    refine mw_ifb_eq cx (tgt := 29) (q := 20) dX12_state_17 (by decide) rfl (fun h7 => ?_) (fun h7 => ?_)
    · refine mw_iconst cx (q := 30) (v := 0) dX12_state_29 rfl rfl ?_
      exact mw_iret cx hr rfl dX12_state_30
    · refine mw_aload_n cx (q := 21) 0 rfl rfl dX12_state_20 rfl ?_
      refine mw_get cx (q := 24) (v := .ref (ad 12 17 0)) gf_X12_51 rfl rfl vi_12_0 dX12_state_21 rfl ?_
      refine mw_iload_n cx (q := 25) 1 rfl rfl dX12_state_24 rfl ?_
      refine mw_iald cx (q := 26) (w := (r5.2 17 0 p1)) rfl (fun _ => rfl) vi_12_17 (jv2_0 (qr50 h7)) dX12_state_25 rfl ?_
      refine mw_goto cx (tgt := 30) dX12_state_26 (by decide) ?_
      exact mw_iret cx hr rfl dX12_state_30
  · refine mw_ifb_eq cx (tgt := 13) (q := 9) dX12_state_6 (by decide) rfl (fun h4 => ?_) (fun h4 => ?_)
    · refine mw_iconst cx (q := 14) (v := 1) dX12_state_13 rfl rfl ?_
      exact hK3 true (by intro hz; first | exact absurd hz (by decide) | exact (by (try simp only [vp_in_iff, i32lt, i32le, i32eq, i32add, i32sub, i32mul, i32neg, t32_60] at qr10 h4 ⊢); omega))
    · refine mw_iconst cx (q := 10) (v := 0) dX12_state_9 rfl rfl ?_
      refine mw_goto cx (tgt := 14) dX12_state_10 (by decide) ?_
      exact hK3 false (by intro hz; first | exact absurd hz (by decide) | exact (qr10 h4))
def f12_why (m : Cm) (p1 : Int32) : (Int32 × Cm) := bnd (f12_isOrder m p1) (fun (r1 : Bool) => jn (fun (v2 : Bool) => bnd (f12_goesWell m (b2i v2)) (fun (r5 : Bool × Cm) => if r5.1 = true then if (r5.2 17 0 p1) = 3 then ((r5.2 18 0 p1), r5.2) else (0, r5.2) else (0, r5.2))) (fun K3 => if r1 = true then K3 false else K3 true))
set_option maxHeartbeats 4000000 in
set_option maxRecDepth 100000 in
theorem mc_X12_why (l : Launch) (D : va_G) (ta : wTa) (ad : wAd) (M : Wm) (p1 : Int32) (hok : Ok12 (M 12)) : MC l D ta ad yX12_why cX12_why 2 (some .int) 2 [.ref (ad 12 0 0), .int p1] M (fic M 12 (f12_why (M 12) p1)) := by
  refine MC.of (fic M 12) (f12_why (M 12) p1) rfl (by decide) (Nat.le_of_ble_eq_true rfl) (fun p e s m args below meth c cx hr => ?_)
  unfold f12_why
  refine mw_sub (lv' := [(0, .ref (ad 12 0 0)), (1, .int p1)]) [0, 1] rfl ?_
  refine mw_eqM (uW_self M 12) ?_
  have ok0 : OkT (M 12) (M 12) := ⟨hok, rfl, rfl⟩
  refine mw_aload_n cx (q := 1) 0 rfl rfl dX12_why_0 rfl ?_
  refine mw_aload_n cx (q := 2) 0 rfl rfl dX12_why_1 rfl ?_
  refine mw_iload_n cx (q := 3) 1 rfl rfl dX12_why_2 rfl ?_
  refine mw_bnd (fun r1 er1 => ?_)
  refine mw_callV cx (q := 6) (d := 1) (As := [.int p1]) (z := fzp (uW M 12 (M 12)) r1) (st := [.ref (ad 12 0 0)]) (st1 := [.int (b2i r1), .ref (ad 12 0 0)]) (M' := (uW M 12 (M 12))) (by rw [er1]; exact mc_X12_isOrder l D ta ad (uW M 12 (M 12)) p1) cv_X12_371 rfl rfl rfl vi_12_0 ⟨Nat.le_of_ble_eq_true rfl, Nat.le_of_ble_eq_true rfl⟩ ⟨Nat.le_refl _, Nat.le_refl _⟩ (by simp [Value.category]) rfl rfl rfl dX12_why_3 rfl ?_
  have qr10 : r1 = true → vp_in p1 60 := (fun hq => isOrder_t ok0.1 (er1.symm.trans hq))
  refine mw_jnP (P := fun (v2 : Bool) => ((b2i v2) = 0 → vp_in p1 60)) (Mj := fun (v2 : Bool) => (uW M 12 (M 12))) (pj := 14) (lj := fun (v2 : Bool) => [(0, .ref (ad 12 0 0)), (1, .int p1)]) (sj := fun (v2 : Bool) => [.int (b2i v2), .ref (ad 12 0 0)]) (fun v2 jv2 => ?_) (fun K3 hK3 => ?_)
  · have jv2_0 := jv2
    refine mw_bnd (fun r5 er5 => ?_)
    refine mw_callV cx (q := 17) (d := 0) (As := [.int (b2i v2)]) (z := fzc (uW M 12 (M 12)) 12 r5) (st := []) (st1 := [.int (b2i r5.1)]) (M' := uW M 12 r5.2) (by rw [er5]; exact mc_X12_goesWell l D ta ad (uW M 12 (M 12)) (b2i v2)) cv_X12_181 rfl rfl rfl vi_12_0 ⟨Nat.le_of_ble_eq_true rfl, Nat.le_of_ble_eq_true rfl⟩ ⟨Nat.le_refl _, Nat.le_refl _⟩ (by simp [Value.category]) rfl rfl (by exact uW_uW _ _ _ _) dX12_why_14 rfl ?_
    have ok6 : OkT (M 12) r5.2 := (by rw [er5]; exact okT_f12_goesWell ok0 (b2i v2))
    have qr50 : r5.1 = true → (b2i v2) = 0 := (fun hq => goesWell_t ((congrArg Prod.fst er5).symm.trans hq))
    refine mw_ifb_eq cx (tgt := 39) (q := 20) dX12_why_17 (by decide) rfl (fun h7 => ?_) (fun h7 => ?_)
    · refine mw_iconst cx (q := 40) (v := 0) dX12_why_39 rfl rfl ?_
      exact mw_iret cx hr rfl dX12_why_40
    · refine mw_aload_n cx (q := 21) 0 rfl rfl dX12_why_20 rfl ?_
      refine mw_get cx (q := 24) (v := .ref (ad 12 17 0)) gf_X12_51 rfl rfl vi_12_0 dX12_why_21 rfl ?_
      refine mw_iload_n cx (q := 25) 1 rfl rfl dX12_why_24 rfl ?_
      refine mw_iald cx (q := 26) (w := (r5.2 17 0 p1)) rfl (fun _ => rfl) vi_12_17 (jv2_0 (qr50 h7)) dX12_why_25 rfl ?_
      refine mw_iconst cx (q := 27) (v := 3) dX12_why_26 rfl rfl ?_
      refine mw_icmp_ne cx (tgt := 39) (q := 30) dX12_why_27 (by decide) rfl (fun h8 => ?_) (fun h8 => ?_)
      · refine mw_iconst cx (q := 40) (v := 0) dX12_why_39 rfl rfl ?_
        exact mw_iret cx hr rfl dX12_why_40
      · refine mw_aload_n cx (q := 31) 0 rfl rfl dX12_why_30 rfl ?_
        refine mw_get cx (q := 34) (v := .ref (ad 12 18 0)) gf_X12_54 rfl rfl vi_12_0 dX12_why_31 rfl ?_
        refine mw_iload_n cx (q := 35) 1 rfl rfl dX12_why_34 rfl ?_
        refine mw_iald cx (q := 36) (w := (r5.2 18 0 p1)) rfl (fun _ => rfl) vi_12_18 (jv2_0 (qr50 h7)) dX12_why_35 rfl ?_
        refine mw_goto cx (tgt := 40) dX12_why_36 (by decide) ?_
        exact mw_iret cx hr rfl dX12_why_40
  · refine mw_ifb_eq cx (tgt := 13) (q := 9) dX12_why_6 (by decide) rfl (fun h4 => ?_) (fun h4 => ?_)
    · refine mw_iconst cx (q := 14) (v := 1) dX12_why_13 rfl rfl ?_
      exact hK3 true (by intro hz; first | exact absurd hz (by decide) | exact (by (try simp only [vp_in_iff, i32lt, i32le, i32eq, i32add, i32sub, i32mul, i32neg, t32_60] at qr10 h4 ⊢); omega))
    · refine mw_iconst cx (q := 10) (v := 0) dX12_why_9 rfl rfl ?_
      refine mw_goto cx (tgt := 14) dX12_why_10 (by decide) ?_
      exact hK3 false (by intro hz; first | exact absurd hz (by decide) | exact (qr10 h4))
def f12_done (m : Cm) (p1 : Int32) : (Int32 × Cm) := bnd (f12_isOrder m p1) (fun (r1 : Bool) => jn (fun (v2 : Bool) => bnd (f12_goesWell m (b2i v2)) (fun (r5 : Bool × Cm) => if r5.1 = true then ((r5.2 19 0 p1), r5.2) else (0, r5.2))) (fun K3 => if r1 = true then K3 false else K3 true))
set_option maxHeartbeats 4000000 in
set_option maxRecDepth 100000 in
theorem mc_X12_done (l : Launch) (D : va_G) (ta : wTa) (ad : wAd) (M : Wm) (p1 : Int32) (hok : Ok12 (M 12)) : MC l D ta ad yX12_done cX12_done 2 (some .int) 2 [.ref (ad 12 0 0), .int p1] M (fic M 12 (f12_done (M 12) p1)) := by
  refine MC.of (fic M 12) (f12_done (M 12) p1) rfl (by decide) (Nat.le_of_ble_eq_true rfl) (fun p e s m args below meth c cx hr => ?_)
  unfold f12_done
  refine mw_sub (lv' := [(0, .ref (ad 12 0 0)), (1, .int p1)]) [0, 1] rfl ?_
  refine mw_eqM (uW_self M 12) ?_
  have ok0 : OkT (M 12) (M 12) := ⟨hok, rfl, rfl⟩
  refine mw_aload_n cx (q := 1) 0 rfl rfl dX12_done_0 rfl ?_
  refine mw_aload_n cx (q := 2) 0 rfl rfl dX12_done_1 rfl ?_
  refine mw_iload_n cx (q := 3) 1 rfl rfl dX12_done_2 rfl ?_
  refine mw_bnd (fun r1 er1 => ?_)
  refine mw_callV cx (q := 6) (d := 1) (As := [.int p1]) (z := fzp (uW M 12 (M 12)) r1) (st := [.ref (ad 12 0 0)]) (st1 := [.int (b2i r1), .ref (ad 12 0 0)]) (M' := (uW M 12 (M 12))) (by rw [er1]; exact mc_X12_isOrder l D ta ad (uW M 12 (M 12)) p1) cv_X12_371 rfl rfl rfl vi_12_0 ⟨Nat.le_of_ble_eq_true rfl, Nat.le_of_ble_eq_true rfl⟩ ⟨Nat.le_refl _, Nat.le_refl _⟩ (by simp [Value.category]) rfl rfl rfl dX12_done_3 rfl ?_
  have qr10 : r1 = true → vp_in p1 60 := (fun hq => isOrder_t ok0.1 (er1.symm.trans hq))
  refine mw_jnP (P := fun (v2 : Bool) => ((b2i v2) = 0 → vp_in p1 60)) (Mj := fun (v2 : Bool) => (uW M 12 (M 12))) (pj := 14) (lj := fun (v2 : Bool) => [(0, .ref (ad 12 0 0)), (1, .int p1)]) (sj := fun (v2 : Bool) => [.int (b2i v2), .ref (ad 12 0 0)]) (fun v2 jv2 => ?_) (fun K3 hK3 => ?_)
  · have jv2_0 := jv2
    refine mw_bnd (fun r5 er5 => ?_)
    refine mw_callV cx (q := 17) (d := 0) (As := [.int (b2i v2)]) (z := fzc (uW M 12 (M 12)) 12 r5) (st := []) (st1 := [.int (b2i r5.1)]) (M' := uW M 12 r5.2) (by rw [er5]; exact mc_X12_goesWell l D ta ad (uW M 12 (M 12)) (b2i v2)) cv_X12_181 rfl rfl rfl vi_12_0 ⟨Nat.le_of_ble_eq_true rfl, Nat.le_of_ble_eq_true rfl⟩ ⟨Nat.le_refl _, Nat.le_refl _⟩ (by simp [Value.category]) rfl rfl (by exact uW_uW _ _ _ _) dX12_done_14 rfl ?_
    have ok6 : OkT (M 12) r5.2 := (by rw [er5]; exact okT_f12_goesWell ok0 (b2i v2))
    have qr50 : r5.1 = true → (b2i v2) = 0 := (fun hq => goesWell_t ((congrArg Prod.fst er5).symm.trans hq))
    refine mw_ifb_eq cx (tgt := 29) (q := 20) dX12_done_17 (by decide) rfl (fun h7 => ?_) (fun h7 => ?_)
    · refine mw_iconst cx (q := 30) (v := 0) dX12_done_29 rfl rfl ?_
      exact mw_iret cx hr rfl dX12_done_30
    · refine mw_aload_n cx (q := 21) 0 rfl rfl dX12_done_20 rfl ?_
      refine mw_get cx (q := 24) (v := .ref (ad 12 19 0)) gf_X12_57 rfl rfl vi_12_0 dX12_done_21 rfl ?_
      refine mw_iload_n cx (q := 25) 1 rfl rfl dX12_done_24 rfl ?_
      refine mw_iald cx (q := 26) (w := (r5.2 19 0 p1)) rfl (fun _ => rfl) vi_12_19 (jv2_0 (qr50 h7)) dX12_done_25 rfl ?_
      refine mw_goto cx (tgt := 30) dX12_done_26 (by decide) ?_
      exact mw_iret cx hr rfl dX12_done_30
  · refine mw_ifb_eq cx (tgt := 13) (q := 9) dX12_done_6 (by decide) rfl (fun h4 => ?_) (fun h4 => ?_)
    · refine mw_iconst cx (q := 14) (v := 1) dX12_done_13 rfl rfl ?_
      exact hK3 true (by intro hz; first | exact absurd hz (by decide) | exact (by (try simp only [vp_in_iff, i32lt, i32le, i32eq, i32add, i32sub, i32mul, i32neg, t32_60] at qr10 h4 ⊢); omega))
    · refine mw_iconst cx (q := 10) (v := 0) dX12_done_9 rfl rfl ?_
      refine mw_goto cx (tgt := 14) dX12_done_10 (by decide) ?_
      exact hK3 false (by intro hz; first | exact absurd hz (by decide) | exact (qr10 h4))
def f12_value (m : Cm) (p1 : Int32) : (Int32 × Cm) := bnd (f12_isOrder m p1) (fun (r1 : Bool) => jn (fun (v2 : Bool) => bnd (f12_goesWell m (b2i v2)) (fun (r5 : Bool × Cm) => if r5.1 = true then ((r5.2 20 0 p1), r5.2) else (0, r5.2))) (fun K3 => if r1 = true then K3 false else K3 true))
set_option maxHeartbeats 4000000 in
set_option maxRecDepth 100000 in
theorem mc_X12_value (l : Launch) (D : va_G) (ta : wTa) (ad : wAd) (M : Wm) (p1 : Int32) (hok : Ok12 (M 12)) : MC l D ta ad yX12_value cX12_value 2 (some .int) 2 [.ref (ad 12 0 0), .int p1] M (fic M 12 (f12_value (M 12) p1)) := by
  refine MC.of (fic M 12) (f12_value (M 12) p1) rfl (by decide) (Nat.le_of_ble_eq_true rfl) (fun p e s m args below meth c cx hr => ?_)
  unfold f12_value
  refine mw_sub (lv' := [(0, .ref (ad 12 0 0)), (1, .int p1)]) [0, 1] rfl ?_
  refine mw_eqM (uW_self M 12) ?_
  have ok0 : OkT (M 12) (M 12) := ⟨hok, rfl, rfl⟩
  refine mw_aload_n cx (q := 1) 0 rfl rfl dX12_value_0 rfl ?_
  refine mw_aload_n cx (q := 2) 0 rfl rfl dX12_value_1 rfl ?_
  refine mw_iload_n cx (q := 3) 1 rfl rfl dX12_value_2 rfl ?_
  refine mw_bnd (fun r1 er1 => ?_)
  refine mw_callV cx (q := 6) (d := 1) (As := [.int p1]) (z := fzp (uW M 12 (M 12)) r1) (st := [.ref (ad 12 0 0)]) (st1 := [.int (b2i r1), .ref (ad 12 0 0)]) (M' := (uW M 12 (M 12))) (by rw [er1]; exact mc_X12_isOrder l D ta ad (uW M 12 (M 12)) p1) cv_X12_371 rfl rfl rfl vi_12_0 ⟨Nat.le_of_ble_eq_true rfl, Nat.le_of_ble_eq_true rfl⟩ ⟨Nat.le_refl _, Nat.le_refl _⟩ (by simp [Value.category]) rfl rfl rfl dX12_value_3 rfl ?_
  have qr10 : r1 = true → vp_in p1 60 := (fun hq => isOrder_t ok0.1 (er1.symm.trans hq))
  refine mw_jnP (P := fun (v2 : Bool) => ((b2i v2) = 0 → vp_in p1 60)) (Mj := fun (v2 : Bool) => (uW M 12 (M 12))) (pj := 14) (lj := fun (v2 : Bool) => [(0, .ref (ad 12 0 0)), (1, .int p1)]) (sj := fun (v2 : Bool) => [.int (b2i v2), .ref (ad 12 0 0)]) (fun v2 jv2 => ?_) (fun K3 hK3 => ?_)
  · have jv2_0 := jv2
    refine mw_bnd (fun r5 er5 => ?_)
    refine mw_callV cx (q := 17) (d := 0) (As := [.int (b2i v2)]) (z := fzc (uW M 12 (M 12)) 12 r5) (st := []) (st1 := [.int (b2i r5.1)]) (M' := uW M 12 r5.2) (by rw [er5]; exact mc_X12_goesWell l D ta ad (uW M 12 (M 12)) (b2i v2)) cv_X12_181 rfl rfl rfl vi_12_0 ⟨Nat.le_of_ble_eq_true rfl, Nat.le_of_ble_eq_true rfl⟩ ⟨Nat.le_refl _, Nat.le_refl _⟩ (by simp [Value.category]) rfl rfl (by exact uW_uW _ _ _ _) dX12_value_14 rfl ?_
    have ok6 : OkT (M 12) r5.2 := (by rw [er5]; exact okT_f12_goesWell ok0 (b2i v2))
    have qr50 : r5.1 = true → (b2i v2) = 0 := (fun hq => goesWell_t ((congrArg Prod.fst er5).symm.trans hq))
    refine mw_ifb_eq cx (tgt := 29) (q := 20) dX12_value_17 (by decide) rfl (fun h7 => ?_) (fun h7 => ?_)
    · refine mw_iconst cx (q := 30) (v := 0) dX12_value_29 rfl rfl ?_
      exact mw_iret cx hr rfl dX12_value_30
    · refine mw_aload_n cx (q := 21) 0 rfl rfl dX12_value_20 rfl ?_
      refine mw_get cx (q := 24) (v := .ref (ad 12 20 0)) gf_X12_60 rfl rfl vi_12_0 dX12_value_21 rfl ?_
      refine mw_iload_n cx (q := 25) 1 rfl rfl dX12_value_24 rfl ?_
      refine mw_iald cx (q := 26) (w := (r5.2 20 0 p1)) rfl (fun _ => rfl) vi_12_20 (jv2_0 (qr50 h7)) dX12_value_25 rfl ?_
      refine mw_goto cx (tgt := 30) dX12_value_26 (by decide) ?_
      exact mw_iret cx hr rfl dX12_value_30
  · refine mw_ifb_eq cx (tgt := 13) (q := 9) dX12_value_6 (by decide) rfl (fun h4 => ?_) (fun h4 => ?_)
    · refine mw_iconst cx (q := 14) (v := 1) dX12_value_13 rfl rfl ?_
      exact hK3 true (by intro hz; first | exact absurd hz (by decide) | exact (by (try simp only [vp_in_iff, i32lt, i32le, i32eq, i32add, i32sub, i32mul, i32neg, t32_60] at qr10 h4 ⊢); omega))
    · refine mw_iconst cx (q := 10) (v := 0) dX12_value_9 rfl rfl ?_
      refine mw_goto cx (tgt := 14) dX12_value_10 (by decide) ?_
      exact hK3 false (by intro hz; first | exact absurd hz (by decide) | exact (qr10 h4))
def f12_used (m : Cm) (p1 : Int32) : (Int32 × Cm) := bnd (f12_isOrder m p1) (fun (r1 : Bool) => jn (fun (v2 : Bool) => bnd (f12_goesWell m (b2i v2)) (fun (r5 : Bool × Cm) => if r5.1 = true then ((r5.2 21 0 p1), r5.2) else (0, r5.2))) (fun K3 => if r1 = true then K3 false else K3 true))
set_option maxHeartbeats 4000000 in
set_option maxRecDepth 100000 in
theorem mc_X12_used (l : Launch) (D : va_G) (ta : wTa) (ad : wAd) (M : Wm) (p1 : Int32) (hok : Ok12 (M 12)) : MC l D ta ad yX12_used cX12_used 2 (some .int) 2 [.ref (ad 12 0 0), .int p1] M (fic M 12 (f12_used (M 12) p1)) := by
  refine MC.of (fic M 12) (f12_used (M 12) p1) rfl (by decide) (Nat.le_of_ble_eq_true rfl) (fun p e s m args below meth c cx hr => ?_)
  unfold f12_used
  refine mw_sub (lv' := [(0, .ref (ad 12 0 0)), (1, .int p1)]) [0, 1] rfl ?_
  refine mw_eqM (uW_self M 12) ?_
  have ok0 : OkT (M 12) (M 12) := ⟨hok, rfl, rfl⟩
  refine mw_aload_n cx (q := 1) 0 rfl rfl dX12_used_0 rfl ?_
  refine mw_aload_n cx (q := 2) 0 rfl rfl dX12_used_1 rfl ?_
  refine mw_iload_n cx (q := 3) 1 rfl rfl dX12_used_2 rfl ?_
  refine mw_bnd (fun r1 er1 => ?_)
  refine mw_callV cx (q := 6) (d := 1) (As := [.int p1]) (z := fzp (uW M 12 (M 12)) r1) (st := [.ref (ad 12 0 0)]) (st1 := [.int (b2i r1), .ref (ad 12 0 0)]) (M' := (uW M 12 (M 12))) (by rw [er1]; exact mc_X12_isOrder l D ta ad (uW M 12 (M 12)) p1) cv_X12_371 rfl rfl rfl vi_12_0 ⟨Nat.le_of_ble_eq_true rfl, Nat.le_of_ble_eq_true rfl⟩ ⟨Nat.le_refl _, Nat.le_refl _⟩ (by simp [Value.category]) rfl rfl rfl dX12_used_3 rfl ?_
  have qr10 : r1 = true → vp_in p1 60 := (fun hq => isOrder_t ok0.1 (er1.symm.trans hq))
  refine mw_jnP (P := fun (v2 : Bool) => ((b2i v2) = 0 → vp_in p1 60)) (Mj := fun (v2 : Bool) => (uW M 12 (M 12))) (pj := 14) (lj := fun (v2 : Bool) => [(0, .ref (ad 12 0 0)), (1, .int p1)]) (sj := fun (v2 : Bool) => [.int (b2i v2), .ref (ad 12 0 0)]) (fun v2 jv2 => ?_) (fun K3 hK3 => ?_)
  · have jv2_0 := jv2
    refine mw_bnd (fun r5 er5 => ?_)
    refine mw_callV cx (q := 17) (d := 0) (As := [.int (b2i v2)]) (z := fzc (uW M 12 (M 12)) 12 r5) (st := []) (st1 := [.int (b2i r5.1)]) (M' := uW M 12 r5.2) (by rw [er5]; exact mc_X12_goesWell l D ta ad (uW M 12 (M 12)) (b2i v2)) cv_X12_181 rfl rfl rfl vi_12_0 ⟨Nat.le_of_ble_eq_true rfl, Nat.le_of_ble_eq_true rfl⟩ ⟨Nat.le_refl _, Nat.le_refl _⟩ (by simp [Value.category]) rfl rfl (by exact uW_uW _ _ _ _) dX12_used_14 rfl ?_
    have ok6 : OkT (M 12) r5.2 := (by rw [er5]; exact okT_f12_goesWell ok0 (b2i v2))
    have qr50 : r5.1 = true → (b2i v2) = 0 := (fun hq => goesWell_t ((congrArg Prod.fst er5).symm.trans hq))
    refine mw_ifb_eq cx (tgt := 29) (q := 20) dX12_used_17 (by decide) rfl (fun h7 => ?_) (fun h7 => ?_)
    · refine mw_iconst cx (q := 30) (v := 0) dX12_used_29 rfl rfl ?_
      exact mw_iret cx hr rfl dX12_used_30
    · refine mw_aload_n cx (q := 21) 0 rfl rfl dX12_used_20 rfl ?_
      refine mw_get cx (q := 24) (v := .ref (ad 12 21 0)) gf_X12_63 rfl rfl vi_12_0 dX12_used_21 rfl ?_
      refine mw_iload_n cx (q := 25) 1 rfl rfl dX12_used_24 rfl ?_
      refine mw_iald cx (q := 26) (w := (r5.2 21 0 p1)) rfl (fun _ => rfl) vi_12_21 (jv2_0 (qr50 h7)) dX12_used_25 rfl ?_
      refine mw_goto cx (tgt := 30) dX12_used_26 (by decide) ?_
      exact mw_iret cx hr rfl dX12_used_30
  · refine mw_ifb_eq cx (tgt := 13) (q := 9) dX12_used_6 (by decide) rfl (fun h4 => ?_) (fun h4 => ?_)
    · refine mw_iconst cx (q := 14) (v := 1) dX12_used_13 rfl rfl ?_
      exact hK3 true (by intro hz; first | exact absurd hz (by decide) | exact (by (try simp only [vp_in_iff, i32lt, i32le, i32eq, i32add, i32sub, i32mul, i32neg, t32_60] at qr10 h4 ⊢); omega))
    · refine mw_iconst cx (q := 10) (v := 0) dX12_used_9 rfl rfl ?_
      refine mw_goto cx (tgt := 14) dX12_used_10 (by decide) ?_
      exact hK3 false (by intro hz; first | exact absurd hz (by decide) | exact (qr10 h4))
def f12_hourOf (m : Cm) (p1 : Int32) : (Int32 × Cm) := bnd (f12_isOrder m p1) (fun (r1 : Bool) => jn (fun (v2 : Bool) => bnd (f12_goesWell m (b2i v2)) (fun (r5 : Bool × Cm) => if r5.1 = true then ((r5.2 15 0 p1), r5.2) else (0, r5.2))) (fun K3 => if r1 = true then K3 false else K3 true))
set_option maxHeartbeats 4000000 in
set_option maxRecDepth 100000 in
theorem mc_X12_hourOf (l : Launch) (D : va_G) (ta : wTa) (ad : wAd) (M : Wm) (p1 : Int32) (hok : Ok12 (M 12)) : MC l D ta ad yX12_hourOf cX12_hourOf 2 (some .int) 2 [.ref (ad 12 0 0), .int p1] M (fic M 12 (f12_hourOf (M 12) p1)) := by
  refine MC.of (fic M 12) (f12_hourOf (M 12) p1) rfl (by decide) (Nat.le_of_ble_eq_true rfl) (fun p e s m args below meth c cx hr => ?_)
  unfold f12_hourOf
  refine mw_sub (lv' := [(0, .ref (ad 12 0 0)), (1, .int p1)]) [0, 1] rfl ?_
  refine mw_eqM (uW_self M 12) ?_
  have ok0 : OkT (M 12) (M 12) := ⟨hok, rfl, rfl⟩
  refine mw_aload_n cx (q := 1) 0 rfl rfl dX12_hourOf_0 rfl ?_
  refine mw_aload_n cx (q := 2) 0 rfl rfl dX12_hourOf_1 rfl ?_
  refine mw_iload_n cx (q := 3) 1 rfl rfl dX12_hourOf_2 rfl ?_
  refine mw_bnd (fun r1 er1 => ?_)
  refine mw_callV cx (q := 6) (d := 1) (As := [.int p1]) (z := fzp (uW M 12 (M 12)) r1) (st := [.ref (ad 12 0 0)]) (st1 := [.int (b2i r1), .ref (ad 12 0 0)]) (M' := (uW M 12 (M 12))) (by rw [er1]; exact mc_X12_isOrder l D ta ad (uW M 12 (M 12)) p1) cv_X12_371 rfl rfl rfl vi_12_0 ⟨Nat.le_of_ble_eq_true rfl, Nat.le_of_ble_eq_true rfl⟩ ⟨Nat.le_refl _, Nat.le_refl _⟩ (by simp [Value.category]) rfl rfl rfl dX12_hourOf_3 rfl ?_
  have qr10 : r1 = true → vp_in p1 60 := (fun hq => isOrder_t ok0.1 (er1.symm.trans hq))
  refine mw_jnP (P := fun (v2 : Bool) => ((b2i v2) = 0 → vp_in p1 60)) (Mj := fun (v2 : Bool) => (uW M 12 (M 12))) (pj := 14) (lj := fun (v2 : Bool) => [(0, .ref (ad 12 0 0)), (1, .int p1)]) (sj := fun (v2 : Bool) => [.int (b2i v2), .ref (ad 12 0 0)]) (fun v2 jv2 => ?_) (fun K3 hK3 => ?_)
  · have jv2_0 := jv2
    refine mw_bnd (fun r5 er5 => ?_)
    refine mw_callV cx (q := 17) (d := 0) (As := [.int (b2i v2)]) (z := fzc (uW M 12 (M 12)) 12 r5) (st := []) (st1 := [.int (b2i r5.1)]) (M' := uW M 12 r5.2) (by rw [er5]; exact mc_X12_goesWell l D ta ad (uW M 12 (M 12)) (b2i v2)) cv_X12_181 rfl rfl rfl vi_12_0 ⟨Nat.le_of_ble_eq_true rfl, Nat.le_of_ble_eq_true rfl⟩ ⟨Nat.le_refl _, Nat.le_refl _⟩ (by simp [Value.category]) rfl rfl (by exact uW_uW _ _ _ _) dX12_hourOf_14 rfl ?_
    have ok6 : OkT (M 12) r5.2 := (by rw [er5]; exact okT_f12_goesWell ok0 (b2i v2))
    have qr50 : r5.1 = true → (b2i v2) = 0 := (fun hq => goesWell_t ((congrArg Prod.fst er5).symm.trans hq))
    refine mw_ifb_eq cx (tgt := 29) (q := 20) dX12_hourOf_17 (by decide) rfl (fun h7 => ?_) (fun h7 => ?_)
    · refine mw_iconst cx (q := 30) (v := 0) dX12_hourOf_29 rfl rfl ?_
      exact mw_iret cx hr rfl dX12_hourOf_30
    · refine mw_aload_n cx (q := 21) 0 rfl rfl dX12_hourOf_20 rfl ?_
      refine mw_get cx (q := 24) (v := .ref (ad 12 15 0)) gf_X12_45 rfl rfl vi_12_0 dX12_hourOf_21 rfl ?_
      refine mw_iload_n cx (q := 25) 1 rfl rfl dX12_hourOf_24 rfl ?_
      refine mw_iald cx (q := 26) (w := (r5.2 15 0 p1)) rfl (fun _ => rfl) vi_12_15 (jv2_0 (qr50 h7)) dX12_hourOf_25 rfl ?_
      refine mw_goto cx (tgt := 30) dX12_hourOf_26 (by decide) ?_
      exact mw_iret cx hr rfl dX12_hourOf_30
  · refine mw_ifb_eq cx (tgt := 13) (q := 9) dX12_hourOf_6 (by decide) rfl (fun h4 => ?_) (fun h4 => ?_)
    · refine mw_iconst cx (q := 14) (v := 1) dX12_hourOf_13 rfl rfl ?_
      exact hK3 true (by intro hz; first | exact absurd hz (by decide) | exact (by (try simp only [vp_in_iff, i32lt, i32le, i32eq, i32add, i32sub, i32mul, i32neg, t32_60] at qr10 h4 ⊢); omega))
    · refine mw_iconst cx (q := 10) (v := 0) dX12_hourOf_9 rfl rfl ?_
      refine mw_goto cx (tgt := 14) dX12_hourOf_10 (by decide) ?_
      exact hK3 false (by intro hz; first | exact absurd hz (by decide) | exact (qr10 h4))
def f12_hour (m : Cm) : (Int32 × Cm) := bnd (u3 m 0 0 0 0) (fun (m1 : Cm) => ((m 0 0 10), m1))
set_option maxHeartbeats 4000000 in
set_option maxRecDepth 100000 in
theorem mc_X12_hour (l : Launch) (D : va_G) (ta : wTa) (ad : wAd) (M : Wm) : MC l D ta ad yX12_hour cX12_hour 1 (some .int) 0 [.ref (ad 12 0 0)] M (fic M 12 (f12_hour (M 12))) := by
  refine MC.of (fic M 12) (f12_hour (M 12)) rfl (by decide) (Nat.le_of_ble_eq_true rfl) (fun p e s m args below meth c cx hr => ?_)
  unfold f12_hour
  refine mw_sub (lv' := [(0, .ref (ad 12 0 0))]) [0] rfl ?_
  refine mw_eqM (uW_self M 12) ?_
  refine mw_aload_n cx (q := 1) 0 rfl rfl dX12_hour_0 rfl ?_
  refine mw_iconst cx (q := 2) (v := 0) dX12_hour_1 rfl rfl ?_
  refine mw_putC cx (q := 5) 0 gf_X12_164 pf_X12_0 (int_fit _) rfl (Nat.le_of_ble_eq_true rfl) rfl vi_12_0 (by decide) dX12_hour_2 rfl (fun m1 em1 => ?_)
  refine mw_aload_n cx (q := 6) 0 rfl rfl dX12_hour_5 rfl ?_
  refine mw_get cx (q := 9) (v := .int ((M 12) 0 0 10)) gf_X12_349 rfl (by rw [em1]; rfl) vi_12_0 dX12_hour_6 rfl ?_
  exact mw_iret cx hr rfl dX12_hour_9
def f12_orders (m : Cm) : (Int32 × Cm) := bnd (u3 m 0 0 0 0) (fun (m1 : Cm) => ((m 0 0 11), m1))
set_option maxHeartbeats 4000000 in
set_option maxRecDepth 100000 in
theorem mc_X12_orders (l : Launch) (D : va_G) (ta : wTa) (ad : wAd) (M : Wm) : MC l D ta ad yX12_orders cX12_orders 1 (some .int) 0 [.ref (ad 12 0 0)] M (fic M 12 (f12_orders (M 12))) := by
  refine MC.of (fic M 12) (f12_orders (M 12)) rfl (by decide) (Nat.le_of_ble_eq_true rfl) (fun p e s m args below meth c cx hr => ?_)
  unfold f12_orders
  refine mw_sub (lv' := [(0, .ref (ad 12 0 0))]) [0] rfl ?_
  refine mw_eqM (uW_self M 12) ?_
  refine mw_aload_n cx (q := 1) 0 rfl rfl dX12_orders_0 rfl ?_
  refine mw_iconst cx (q := 2) (v := 0) dX12_orders_1 rfl rfl ?_
  refine mw_putC cx (q := 5) 0 gf_X12_164 pf_X12_0 (int_fit _) rfl (Nat.le_of_ble_eq_true rfl) rfl vi_12_0 (by decide) dX12_orders_2 rfl (fun m1 em1 => ?_)
  refine mw_aload_n cx (q := 6) 0 rfl rfl dX12_orders_5 rfl ?_
  refine mw_get cx (q := 9) (v := .int ((M 12) 0 0 11)) gf_X12_352 rfl (by rw [em1]; rfl) vi_12_0 dX12_orders_6 rfl ?_
  exact mw_iret cx hr rfl dX12_orders_9
def f12_moves (m : Cm) : (Int32 × Cm) := bnd (u3 m 0 0 0 0) (fun (m1 : Cm) => ((m 0 0 21), m1))
set_option maxHeartbeats 4000000 in
set_option maxRecDepth 100000 in
theorem mc_X12_moves (l : Launch) (D : va_G) (ta : wTa) (ad : wAd) (M : Wm) : MC l D ta ad yX12_moves cX12_moves 1 (some .int) 0 [.ref (ad 12 0 0)] M (fic M 12 (f12_moves (M 12))) := by
  refine MC.of (fic M 12) (f12_moves (M 12)) rfl (by decide) (Nat.le_of_ble_eq_true rfl) (fun p e s m args below meth c cx hr => ?_)
  unfold f12_moves
  refine mw_sub (lv' := [(0, .ref (ad 12 0 0))]) [0] rfl ?_
  refine mw_eqM (uW_self M 12) ?_
  refine mw_aload_n cx (q := 1) 0 rfl rfl dX12_moves_0 rfl ?_
  refine mw_iconst cx (q := 2) (v := 0) dX12_moves_1 rfl rfl ?_
  refine mw_putC cx (q := 5) 0 gf_X12_164 pf_X12_0 (int_fit _) rfl (Nat.le_of_ble_eq_true rfl) rfl vi_12_0 (by decide) dX12_moves_2 rfl (fun m1 em1 => ?_)
  refine mw_aload_n cx (q := 6) 0 rfl rfl dX12_moves_5 rfl ?_
  refine mw_get cx (q := 9) (v := .int ((M 12) 0 0 21)) gf_X12_346 rfl (by rw [em1]; rfl) vi_12_0 dX12_moves_6 rfl ?_
  exact mw_iret cx hr rfl dX12_moves_9
def f12_supply (m : Cm) (p1 : Int32) (p2 : Int32) : (Int32 × Cm) := bnd (f12_isGood p1) (fun (r1 : Bool) => jn (fun (v2 : Bool) => bnd (f12_goesWell m (b2i v2)) (fun (r7 : Bool × Cm) => if r7.1 = true then bnd (u3 r7.2 4 0 (32 + p1) ((r7.2 4 0 (32 + p1)) + p2)) (fun (m10 : Cm) => ((m10 4 0 (32 + p1)), m10)) else (0, r7.2))) (fun K3 => if r1 = true then bnd (f12_in p2 1 1000) (fun (r5 : Bool) => if r5 = true then K3 false else K3 true) else K3 true))
set_option maxHeartbeats 4000000 in
set_option maxRecDepth 100000 in
theorem mc_X12_supply (l : Launch) (D : va_G) (ta : wTa) (ad : wAd) (M : Wm) (p1 : Int32) (p2 : Int32) (hok : Ok12 (M 12)) : MC l D ta ad yX12_supply cX12_supply 3 (some .int) 2 [.ref (ad 12 0 0), .int p1, .int p2] M (fic M 12 (f12_supply (M 12) p1 p2)) := by
  refine MC.of (fic M 12) (f12_supply (M 12) p1 p2) rfl (by decide) (Nat.le_of_ble_eq_true rfl) (fun p e s m args below meth c cx hr => ?_)
  unfold f12_supply
  refine mw_sub (lv' := [(0, .ref (ad 12 0 0)), (1, .int p1), (2, .int p2)]) [0, 1, 2] rfl ?_
  refine mw_eqM (uW_self M 12) ?_
  have ok0 : OkT (M 12) (M 12) := ⟨hok, rfl, rfl⟩
  refine mw_aload_n cx (q := 1) 0 rfl rfl dX12_supply_0 rfl ?_
  refine mw_iload_n cx (q := 2) 1 rfl rfl dX12_supply_1 rfl ?_
  refine mw_bnd (fun r1 er1 => ?_)
  refine mw_callS cx (q := 5) (d := 1) (As := [.int p1]) (z := fzp (uW M 12 (M 12)) r1) (st := [.ref (ad 12 0 0)]) (st1 := [.int (b2i r1), .ref (ad 12 0 0)]) (M' := (uW M 12 (M 12))) (by rw [er1]; exact mc_X12_isGood l D ta ad (uW M 12 (M 12)) p1) cv_X12_374 ⟨Nat.le_of_ble_eq_true rfl, Nat.le_of_ble_eq_true rfl⟩ ⟨Nat.le_refl _, Nat.le_refl _⟩ (by simp [Value.category]) rfl rfl rfl dX12_supply_2 rfl ?_
  have qr10 : r1 = true → vp_in p1 8 := (fun hq => isGood_t (er1.symm.trans hq))
  refine mw_jnP (P := fun (v2 : Bool) => ((b2i v2) = 0 → vp_in p1 8)) (Mj := fun (v2 : Bool) => (uW M 12 (M 12))) (pj := 24) (lj := fun (v2 : Bool) => [(0, .ref (ad 12 0 0)), (1, .int p1), (2, .int p2)]) (sj := fun (v2 : Bool) => [.int (b2i v2), .ref (ad 12 0 0)]) (fun v2 jv2 => ?_) (fun K3 hK3 => ?_)
  · have jv2_0 := jv2
    refine mw_bnd (fun r7 er7 => ?_)
    refine mw_callV cx (q := 27) (d := 0) (As := [.int (b2i v2)]) (z := fzc (uW M 12 (M 12)) 12 r7) (st := []) (st1 := [.int (b2i r7.1)]) (M' := uW M 12 r7.2) (by rw [er7]; exact mc_X12_goesWell l D ta ad (uW M 12 (M 12)) (b2i v2)) cv_X12_181 rfl rfl rfl vi_12_0 ⟨Nat.le_of_ble_eq_true rfl, Nat.le_of_ble_eq_true rfl⟩ ⟨Nat.le_refl _, Nat.le_refl _⟩ (by simp [Value.category]) rfl rfl (by exact uW_uW _ _ _ _) dX12_supply_24 rfl ?_
    have ok8 : OkT (M 12) r7.2 := (by rw [er7]; exact okT_f12_goesWell ok0 (b2i v2))
    have qr70 : r7.1 = true → (b2i v2) = 0 := (fun hq => goesWell_t ((congrArg Prod.fst er7).symm.trans hq))
    refine mw_ifb_ne cx (tgt := 32) (q := 30) dX12_supply_27 (by decide) rfl (fun h9 => ?_) (fun h9 => ?_)
    · refine mw_aload_n cx (q := 33) 0 rfl rfl dX12_supply_32 rfl ?_
      refine mw_get cx (q := 36) (v := .ref (ad 12 4 0)) gf_X12_16 rfl rfl vi_12_0 dX12_supply_33 rfl ?_
      refine mw_bipush cx (q := 38) (v := 32) dX12_supply_36 rfl rfl ?_
      refine mw_iload_n cx (q := 39) 1 rfl rfl dX12_supply_38 rfl ?_
      refine mw_iadd cx (q := 40) dX12_supply_39 rfl ?_
      refine mw_dup2 cx (q := 41) dX12_supply_40 rfl rfl rfl ?_
      refine mw_iald cx (q := 42) (w := (r7.2 4 0 (32 + p1))) rfl (fun _ => rfl) vi_12_4 (idx32 (jv2_0 (qr70 h9))) dX12_supply_41 rfl ?_
      refine mw_iload_n cx (q := 43) 2 rfl rfl dX12_supply_42 rfl ?_
      refine mw_iadd cx (q := 44) dX12_supply_43 rfl ?_
      refine mw_iastC cx (q := 45) (fun _ => rfl) (by decide) vi_12_4 (idx32 (jv2_0 (qr70 h9))) (by decide) dX12_supply_44 rfl (fun m10 em10 => ?_)
      have ok11 : OkT (M 12) m10 := (by rw [em10]; exact okT_putA ok8 (by decide))
      refine mw_aload_n cx (q := 46) 0 rfl rfl dX12_supply_45 rfl ?_
      refine mw_get cx (q := 49) (v := .ref (ad 12 4 0)) gf_X12_16 rfl rfl vi_12_0 dX12_supply_46 rfl ?_
      refine mw_bipush cx (q := 51) (v := 32) dX12_supply_49 rfl rfl ?_
      refine mw_iload_n cx (q := 52) 1 rfl rfl dX12_supply_51 rfl ?_
      refine mw_iadd cx (q := 53) dX12_supply_52 rfl ?_
      refine mw_iald cx (q := 54) (w := (m10 4 0 (32 + p1))) rfl (fun _ => rfl) vi_12_4 (idx32 (jv2_0 (qr70 h9))) dX12_supply_53 rfl ?_
      exact mw_iret cx hr rfl dX12_supply_54
    · refine mw_iconst cx (q := 31) (v := 0) dX12_supply_30 rfl rfl ?_
      exact mw_iret cx hr rfl dX12_supply_31
  · refine mw_ifb_eq cx (tgt := 23) (q := 8) dX12_supply_5 (by decide) rfl (fun h4 => ?_) (fun h4 => ?_)
    · refine mw_iconst cx (q := 24) (v := 1) dX12_supply_23 rfl rfl ?_
      exact hK3 true (by intro hz; first | exact absurd hz (by decide) | exact (by (try simp only [vp_in_iff, i32lt, i32le, i32eq, i32add, i32sub, i32mul, i32neg, t32_8] at qr10 h4 ⊢); omega))
    · refine mw_iload_n cx (q := 9) 2 rfl rfl dX12_supply_8 rfl ?_
      refine mw_iconst cx (q := 10) (v := 1) dX12_supply_9 rfl rfl ?_
      refine mw_sipush cx (q := 13) (v := 1000) dX12_supply_10 rfl rfl ?_
      refine mw_bnd (fun r5 er5 => ?_)
      refine mw_callS cx (q := 16) (d := 0) (As := [.int p2, .int 1, .int 1000]) (z := fzp (uW M 12 (M 12)) r5) (st := [.ref (ad 12 0 0)]) (st1 := [.int (b2i r5), .ref (ad 12 0 0)]) (M' := (uW M 12 (M 12))) (by rw [er5]; exact mc_X12_in l D ta ad (uW M 12 (M 12)) p2 1 1000) cv_X12_167 ⟨Nat.le_of_ble_eq_true rfl, Nat.le_of_ble_eq_true rfl⟩ ⟨Nat.le_refl _, Nat.le_refl _⟩ (by simp [Value.category]) rfl rfl rfl dX12_supply_13 rfl ?_
      have qr50 : r5 = true → 1 ≤ p2.toInt ∧ p2.toInt ≤ 1000 := (fun hq => in_i (er5.symm.trans hq))
      refine mw_ifb_eq cx (tgt := 23) (q := 19) dX12_supply_16 (by decide) rfl (fun h6 => ?_) (fun h6 => ?_)
      · refine mw_iconst cx (q := 24) (v := 1) dX12_supply_23 rfl rfl ?_
        exact hK3 true (by intro hz; first | exact absurd hz (by decide) | exact (qr10 h4))
      · refine mw_iconst cx (q := 20) (v := 0) dX12_supply_19 rfl rfl ?_
        refine mw_goto cx (tgt := 24) dX12_supply_20 (by decide) ?_
        exact hK3 false (by intro hz; first | exact absurd hz (by decide) | exact (qr10 h4))
def f12_giveRations (m : Cm) (p1 : Int32) (p2 : Int32) : (Int32 × Cm) := bnd (f12_isCompany p1) (fun (r1 : Bool) => jn (fun (v2 : Bool) => bnd (f12_goesWell m (b2i v2)) (fun (r7 : Bool × Cm) => if r7.1 = true then bnd (u3 r7.2 5 0 p1 ((r7.2 5 0 p1) + p2)) (fun (m10 : Cm) => ((m10 5 0 p1), m10)) else (0, r7.2))) (fun K3 => if r1 = true then bnd (f12_in p2 1 1000) (fun (r5 : Bool) => if r5 = true then K3 false else K3 true) else K3 true))
set_option maxHeartbeats 4000000 in
set_option maxRecDepth 100000 in
theorem mc_X12_giveRations (l : Launch) (D : va_G) (ta : wTa) (ad : wAd) (M : Wm) (p1 : Int32) (p2 : Int32) (hok : Ok12 (M 12)) : MC l D ta ad yX12_giveRations cX12_giveRations 3 (some .int) 2 [.ref (ad 12 0 0), .int p1, .int p2] M (fic M 12 (f12_giveRations (M 12) p1 p2)) := by
  refine MC.of (fic M 12) (f12_giveRations (M 12) p1 p2) rfl (by decide) (Nat.le_of_ble_eq_true rfl) (fun p e s m args below meth c cx hr => ?_)
  unfold f12_giveRations
  refine mw_sub (lv' := [(0, .ref (ad 12 0 0)), (1, .int p1), (2, .int p2)]) [0, 1, 2] rfl ?_
  refine mw_eqM (uW_self M 12) ?_
  have ok0 : OkT (M 12) (M 12) := ⟨hok, rfl, rfl⟩
  refine mw_aload_n cx (q := 1) 0 rfl rfl dX12_giveRations_0 rfl ?_
  refine mw_iload_n cx (q := 2) 1 rfl rfl dX12_giveRations_1 rfl ?_
  refine mw_bnd (fun r1 er1 => ?_)
  refine mw_callS cx (q := 5) (d := 1) (As := [.int p1]) (z := fzp (uW M 12 (M 12)) r1) (st := [.ref (ad 12 0 0)]) (st1 := [.int (b2i r1), .ref (ad 12 0 0)]) (M' := (uW M 12 (M 12))) (by rw [er1]; exact mc_X12_isCompany l D ta ad (uW M 12 (M 12)) p1) cv_X12_339 ⟨Nat.le_of_ble_eq_true rfl, Nat.le_of_ble_eq_true rfl⟩ ⟨Nat.le_refl _, Nat.le_refl _⟩ (by simp [Value.category]) rfl rfl rfl dX12_giveRations_2 rfl ?_
  have qr10 : r1 = true → vp_in p1 4 := (fun hq => isCompany_t (er1.symm.trans hq))
  refine mw_jnP (P := fun (v2 : Bool) => ((b2i v2) = 0 → vp_in p1 4)) (Mj := fun (v2 : Bool) => (uW M 12 (M 12))) (pj := 24) (lj := fun (v2 : Bool) => [(0, .ref (ad 12 0 0)), (1, .int p1), (2, .int p2)]) (sj := fun (v2 : Bool) => [.int (b2i v2), .ref (ad 12 0 0)]) (fun v2 jv2 => ?_) (fun K3 hK3 => ?_)
  · have jv2_0 := jv2
    refine mw_bnd (fun r7 er7 => ?_)
    refine mw_callV cx (q := 27) (d := 0) (As := [.int (b2i v2)]) (z := fzc (uW M 12 (M 12)) 12 r7) (st := []) (st1 := [.int (b2i r7.1)]) (M' := uW M 12 r7.2) (by rw [er7]; exact mc_X12_goesWell l D ta ad (uW M 12 (M 12)) (b2i v2)) cv_X12_181 rfl rfl rfl vi_12_0 ⟨Nat.le_of_ble_eq_true rfl, Nat.le_of_ble_eq_true rfl⟩ ⟨Nat.le_refl _, Nat.le_refl _⟩ (by simp [Value.category]) rfl rfl (by exact uW_uW _ _ _ _) dX12_giveRations_24 rfl ?_
    have ok8 : OkT (M 12) r7.2 := (by rw [er7]; exact okT_f12_goesWell ok0 (b2i v2))
    have qr70 : r7.1 = true → (b2i v2) = 0 := (fun hq => goesWell_t ((congrArg Prod.fst er7).symm.trans hq))
    refine mw_ifb_ne cx (tgt := 32) (q := 30) dX12_giveRations_27 (by decide) rfl (fun h9 => ?_) (fun h9 => ?_)
    · refine mw_aload_n cx (q := 33) 0 rfl rfl dX12_giveRations_32 rfl ?_
      refine mw_get cx (q := 36) (v := .ref (ad 12 5 0)) gf_X12_19 rfl rfl vi_12_0 dX12_giveRations_33 rfl ?_
      refine mw_iload_n cx (q := 37) 1 rfl rfl dX12_giveRations_36 rfl ?_
      refine mw_dup2 cx (q := 38) dX12_giveRations_37 rfl rfl rfl ?_
      refine mw_iald cx (q := 39) (w := (r7.2 5 0 p1)) rfl (fun _ => rfl) vi_12_5 (jv2_0 (qr70 h9)) dX12_giveRations_38 rfl ?_
      refine mw_iload_n cx (q := 40) 2 rfl rfl dX12_giveRations_39 rfl ?_
      refine mw_iadd cx (q := 41) dX12_giveRations_40 rfl ?_
      refine mw_iastC cx (q := 42) (fun _ => rfl) (by decide) vi_12_5 (jv2_0 (qr70 h9)) (by decide) dX12_giveRations_41 rfl (fun m10 em10 => ?_)
      have ok11 : OkT (M 12) m10 := (by rw [em10]; exact okT_putA ok8 (by decide))
      refine mw_aload_n cx (q := 43) 0 rfl rfl dX12_giveRations_42 rfl ?_
      refine mw_get cx (q := 46) (v := .ref (ad 12 5 0)) gf_X12_19 rfl rfl vi_12_0 dX12_giveRations_43 rfl ?_
      refine mw_iload_n cx (q := 47) 1 rfl rfl dX12_giveRations_46 rfl ?_
      refine mw_iald cx (q := 48) (w := (m10 5 0 p1)) rfl (fun _ => rfl) vi_12_5 (jv2_0 (qr70 h9)) dX12_giveRations_47 rfl ?_
      exact mw_iret cx hr rfl dX12_giveRations_48
    · refine mw_iconst cx (q := 31) (v := 0) dX12_giveRations_30 rfl rfl ?_
      exact mw_iret cx hr rfl dX12_giveRations_31
  · refine mw_ifb_eq cx (tgt := 23) (q := 8) dX12_giveRations_5 (by decide) rfl (fun h4 => ?_) (fun h4 => ?_)
    · refine mw_iconst cx (q := 24) (v := 1) dX12_giveRations_23 rfl rfl ?_
      exact hK3 true (by intro hz; first | exact absurd hz (by decide) | exact (by (try simp only [vp_in_iff, i32lt, i32le, i32eq, i32add, i32sub, i32mul, i32neg, t32_4] at qr10 h4 ⊢); omega))
    · refine mw_iload_n cx (q := 9) 2 rfl rfl dX12_giveRations_8 rfl ?_
      refine mw_iconst cx (q := 10) (v := 1) dX12_giveRations_9 rfl rfl ?_
      refine mw_sipush cx (q := 13) (v := 1000) dX12_giveRations_10 rfl rfl ?_
      refine mw_bnd (fun r5 er5 => ?_)
      refine mw_callS cx (q := 16) (d := 0) (As := [.int p2, .int 1, .int 1000]) (z := fzp (uW M 12 (M 12)) r5) (st := [.ref (ad 12 0 0)]) (st1 := [.int (b2i r5), .ref (ad 12 0 0)]) (M' := (uW M 12 (M 12))) (by rw [er5]; exact mc_X12_in l D ta ad (uW M 12 (M 12)) p2 1 1000) cv_X12_167 ⟨Nat.le_of_ble_eq_true rfl, Nat.le_of_ble_eq_true rfl⟩ ⟨Nat.le_refl _, Nat.le_refl _⟩ (by simp [Value.category]) rfl rfl rfl dX12_giveRations_13 rfl ?_
      have qr50 : r5 = true → 1 ≤ p2.toInt ∧ p2.toInt ≤ 1000 := (fun hq => in_i (er5.symm.trans hq))
      refine mw_ifb_eq cx (tgt := 23) (q := 19) dX12_giveRations_16 (by decide) rfl (fun h6 => ?_) (fun h6 => ?_)
      · refine mw_iconst cx (q := 24) (v := 1) dX12_giveRations_23 rfl rfl ?_
        exact hK3 true (by intro hz; first | exact absurd hz (by decide) | exact (qr10 h4))
      · refine mw_iconst cx (q := 20) (v := 0) dX12_giveRations_19 rfl rfl ?_
        refine mw_goto cx (tgt := 24) dX12_giveRations_20 (by decide) ?_
        exact hK3 false (by intro hz; first | exact absurd hz (by decide) | exact (qr10 h4))
def f12_setTariff (m : Cm) (p1 : Int32) : (Int32 × Cm) := bnd (f12_in p1 0 100) (fun (r1 : Bool) => jn (fun (v2 : Bool) => bnd (f12_goesWell m (b2i v2)) (fun (r5 : Bool × Cm) => if r5.1 = true then bnd ((r5.2 0 0 9)) (fun (v7 : Int32) => bnd (u3 r5.2 0 0 9 p1) (fun (m8 : Cm) => (v7, m8))) else (0, r5.2))) (fun K3 => if r1 = true then K3 false else K3 true))
set_option maxHeartbeats 4000000 in
set_option maxRecDepth 100000 in
theorem mc_X12_setTariff (l : Launch) (D : va_G) (ta : wTa) (ad : wAd) (M : Wm) (p1 : Int32) : MC l D ta ad yX12_setTariff cX12_setTariff 3 (some .int) 1 [.ref (ad 12 0 0), .int p1] M (fic M 12 (f12_setTariff (M 12) p1)) := by
  refine MC.of (fic M 12) (f12_setTariff (M 12) p1) rfl (by decide) (Nat.le_of_ble_eq_true rfl) (fun p e s m args below meth c cx hr => ?_)
  unfold f12_setTariff
  refine mw_sub (lv' := [(0, .ref (ad 12 0 0)), (1, .int p1)]) [0, 1] rfl ?_
  refine mw_eqM (uW_self M 12) ?_
  refine mw_aload_n cx (q := 1) 0 rfl rfl dX12_setTariff_0 rfl ?_
  refine mw_iload_n cx (q := 2) 1 rfl rfl dX12_setTariff_1 rfl ?_
  refine mw_iconst cx (q := 3) (v := 0) dX12_setTariff_2 rfl rfl ?_
  refine mw_bipush cx (q := 5) (v := 100) dX12_setTariff_3 rfl rfl ?_
  refine mw_bnd (fun r1 er1 => ?_)
  refine mw_callS cx (q := 8) (d := 0) (As := [.int p1, .int 0, .int 100]) (z := fzp (uW M 12 (M 12)) r1) (st := [.ref (ad 12 0 0)]) (st1 := [.int (b2i r1), .ref (ad 12 0 0)]) (M' := (uW M 12 (M 12))) (by rw [er1]; exact mc_X12_in l D ta ad (uW M 12 (M 12)) p1 0 100) cv_X12_167 ⟨Nat.le_of_ble_eq_true rfl, Nat.le_of_ble_eq_true rfl⟩ ⟨Nat.le_refl _, Nat.le_refl _⟩ (by simp [Value.category]) rfl rfl rfl dX12_setTariff_5 rfl ?_
  have qr10 : r1 = true → 0 ≤ p1.toInt ∧ p1.toInt ≤ 100 := (fun hq => in_i (er1.symm.trans hq))
  refine mw_jn (Mj := fun (v2 : Bool) => (uW M 12 (M 12))) (pj := 16) (lj := fun (v2 : Bool) => [(0, .ref (ad 12 0 0)), (1, .int p1)]) (sj := fun (v2 : Bool) => [.int (b2i v2), .ref (ad 12 0 0)]) (fun v2 => ?_) (fun K3 hK3 => ?_)
  · refine mw_bnd (fun r5 er5 => ?_)
    refine mw_callV cx (q := 19) (d := 0) (As := [.int (b2i v2)]) (z := fzc (uW M 12 (M 12)) 12 r5) (st := []) (st1 := [.int (b2i r5.1)]) (M' := uW M 12 r5.2) (by rw [er5]; exact mc_X12_goesWell l D ta ad (uW M 12 (M 12)) (b2i v2)) cv_X12_181 rfl rfl rfl vi_12_0 ⟨Nat.le_of_ble_eq_true rfl, Nat.le_of_ble_eq_true rfl⟩ ⟨Nat.le_refl _, Nat.le_refl _⟩ (by simp [Value.category]) rfl rfl (by exact uW_uW _ _ _ _) dX12_setTariff_16 rfl ?_
    have qr50 : r5.1 = true → (b2i v2) = 0 := (fun hq => goesWell_t ((congrArg Prod.fst er5).symm.trans hq))
    refine mw_ifb_ne cx (tgt := 24) (q := 22) dX12_setTariff_19 (by decide) rfl (fun h6 => ?_) (fun h6 => ?_)
    · refine mw_aload_n cx (q := 25) 0 rfl rfl dX12_setTariff_24 rfl ?_
      refine mw_get cx (q := 28) (v := .int (r5.2 0 0 9)) gf_X12_35 rfl rfl vi_12_0 dX12_setTariff_25 rfl ?_
      refine mw_bndT (fun v7 ev7 => ?_)
      refine mw_istore_n cx (q := 29) (lv' := [(2, .int v7), (0, .ref (ad 12 0 0)), (1, .int p1)]) rfl rfl (by decide) dX12_setTariff_28 rfl ?_
      refine mw_aload_n cx (q := 30) 1 rfl rfl dX12_setTariff_29 rfl ?_
      refine mw_iload_n cx (q := 31) 2 rfl rfl dX12_setTariff_30 rfl ?_
      refine mw_putC cx (q := 34) 9 gf_X12_35 pf_X12_9 (int_fit _) rfl (Nat.le_of_ble_eq_true rfl) rfl vi_12_0 (by decide) dX12_setTariff_31 rfl (fun m8 em8 => ?_)
      refine mw_iload_n cx (q := 35) 0 rfl rfl dX12_setTariff_34 rfl ?_
      exact mw_iret cx hr rfl dX12_setTariff_35
    · refine mw_iconst cx (q := 23) (v := 0) dX12_setTariff_22 rfl rfl ?_
      exact mw_iret cx hr rfl dX12_setTariff_23
  · refine mw_ifb_eq cx (tgt := 15) (q := 11) dX12_setTariff_8 (by decide) rfl (fun h4 => ?_) (fun h4 => ?_)
    · refine mw_iconst cx (q := 16) (v := 1) dX12_setTariff_15 rfl rfl ?_
      exact hK3 true
    · refine mw_iconst cx (q := 12) (v := 0) dX12_setTariff_11 rfl rfl ?_
      refine mw_goto cx (tgt := 16) dX12_setTariff_12 (by decide) ?_
      exact hK3 false
def f12_fuel (m : Cm) (p1 : Int32) : (Int32 × Cm) := bnd (f12_isCompany p1) (fun (r1 : Bool) => jn (fun (v2 : Bool) => bnd (f12_goesWell m (b2i v2)) (fun (r5 : Bool × Cm) => if r5.1 = true then ((r5.2 6 0 p1), r5.2) else (0, r5.2))) (fun K3 => if r1 = true then K3 false else K3 true))
set_option maxHeartbeats 4000000 in
set_option maxRecDepth 100000 in
theorem mc_X12_fuel (l : Launch) (D : va_G) (ta : wTa) (ad : wAd) (M : Wm) (p1 : Int32) (hok : Ok12 (M 12)) : MC l D ta ad yX12_fuel cX12_fuel 2 (some .int) 2 [.ref (ad 12 0 0), .int p1] M (fic M 12 (f12_fuel (M 12) p1)) := by
  refine MC.of (fic M 12) (f12_fuel (M 12) p1) rfl (by decide) (Nat.le_of_ble_eq_true rfl) (fun p e s m args below meth c cx hr => ?_)
  unfold f12_fuel
  refine mw_sub (lv' := [(0, .ref (ad 12 0 0)), (1, .int p1)]) [0, 1] rfl ?_
  refine mw_eqM (uW_self M 12) ?_
  have ok0 : OkT (M 12) (M 12) := ⟨hok, rfl, rfl⟩
  refine mw_aload_n cx (q := 1) 0 rfl rfl dX12_fuel_0 rfl ?_
  refine mw_iload_n cx (q := 2) 1 rfl rfl dX12_fuel_1 rfl ?_
  refine mw_bnd (fun r1 er1 => ?_)
  refine mw_callS cx (q := 5) (d := 1) (As := [.int p1]) (z := fzp (uW M 12 (M 12)) r1) (st := [.ref (ad 12 0 0)]) (st1 := [.int (b2i r1), .ref (ad 12 0 0)]) (M' := (uW M 12 (M 12))) (by rw [er1]; exact mc_X12_isCompany l D ta ad (uW M 12 (M 12)) p1) cv_X12_339 ⟨Nat.le_of_ble_eq_true rfl, Nat.le_of_ble_eq_true rfl⟩ ⟨Nat.le_refl _, Nat.le_refl _⟩ (by simp [Value.category]) rfl rfl rfl dX12_fuel_2 rfl ?_
  have qr10 : r1 = true → vp_in p1 4 := (fun hq => isCompany_t (er1.symm.trans hq))
  refine mw_jnP (P := fun (v2 : Bool) => ((b2i v2) = 0 → vp_in p1 4)) (Mj := fun (v2 : Bool) => (uW M 12 (M 12))) (pj := 13) (lj := fun (v2 : Bool) => [(0, .ref (ad 12 0 0)), (1, .int p1)]) (sj := fun (v2 : Bool) => [.int (b2i v2), .ref (ad 12 0 0)]) (fun v2 jv2 => ?_) (fun K3 hK3 => ?_)
  · have jv2_0 := jv2
    refine mw_bnd (fun r5 er5 => ?_)
    refine mw_callV cx (q := 16) (d := 0) (As := [.int (b2i v2)]) (z := fzc (uW M 12 (M 12)) 12 r5) (st := []) (st1 := [.int (b2i r5.1)]) (M' := uW M 12 r5.2) (by rw [er5]; exact mc_X12_goesWell l D ta ad (uW M 12 (M 12)) (b2i v2)) cv_X12_181 rfl rfl rfl vi_12_0 ⟨Nat.le_of_ble_eq_true rfl, Nat.le_of_ble_eq_true rfl⟩ ⟨Nat.le_refl _, Nat.le_refl _⟩ (by simp [Value.category]) rfl rfl (by exact uW_uW _ _ _ _) dX12_fuel_13 rfl ?_
    have ok6 : OkT (M 12) r5.2 := (by rw [er5]; exact okT_f12_goesWell ok0 (b2i v2))
    have qr50 : r5.1 = true → (b2i v2) = 0 := (fun hq => goesWell_t ((congrArg Prod.fst er5).symm.trans hq))
    refine mw_ifb_eq cx (tgt := 28) (q := 19) dX12_fuel_16 (by decide) rfl (fun h7 => ?_) (fun h7 => ?_)
    · refine mw_iconst cx (q := 29) (v := 0) dX12_fuel_28 rfl rfl ?_
      exact mw_iret cx hr rfl dX12_fuel_29
    · refine mw_aload_n cx (q := 20) 0 rfl rfl dX12_fuel_19 rfl ?_
      refine mw_get cx (q := 23) (v := .ref (ad 12 6 0)) gf_X12_22 rfl rfl vi_12_0 dX12_fuel_20 rfl ?_
      refine mw_iload_n cx (q := 24) 1 rfl rfl dX12_fuel_23 rfl ?_
      refine mw_iald cx (q := 25) (w := (r5.2 6 0 p1)) rfl (fun _ => rfl) vi_12_6 (jv2_0 (qr50 h7)) dX12_fuel_24 rfl ?_
      refine mw_goto cx (tgt := 29) dX12_fuel_25 (by decide) ?_
      exact mw_iret cx hr rfl dX12_fuel_29
  · refine mw_ifb_eq cx (tgt := 12) (q := 8) dX12_fuel_5 (by decide) rfl (fun h4 => ?_) (fun h4 => ?_)
    · refine mw_iconst cx (q := 13) (v := 1) dX12_fuel_12 rfl rfl ?_
      exact hK3 true (by intro hz; first | exact absurd hz (by decide) | exact (by (try simp only [vp_in_iff, i32lt, i32le, i32eq, i32add, i32sub, i32mul, i32neg, t32_4] at qr10 h4 ⊢); omega))
    · refine mw_iconst cx (q := 9) (v := 0) dX12_fuel_8 rfl rfl ?_
      refine mw_goto cx (tgt := 13) dX12_fuel_9 (by decide) ?_
      exact hK3 false (by intro hz; first | exact absurd hz (by decide) | exact (qr10 h4))
def f12_rations (m : Cm) (p1 : Int32) : (Int32 × Cm) := bnd (f12_isCompany p1) (fun (r1 : Bool) => jn (fun (v2 : Bool) => bnd (f12_goesWell m (b2i v2)) (fun (r5 : Bool × Cm) => if r5.1 = true then ((r5.2 5 0 p1), r5.2) else (0, r5.2))) (fun K3 => if r1 = true then K3 false else K3 true))
set_option maxHeartbeats 4000000 in
set_option maxRecDepth 100000 in
theorem mc_X12_rations (l : Launch) (D : va_G) (ta : wTa) (ad : wAd) (M : Wm) (p1 : Int32) (hok : Ok12 (M 12)) : MC l D ta ad yX12_rations cX12_rations 2 (some .int) 2 [.ref (ad 12 0 0), .int p1] M (fic M 12 (f12_rations (M 12) p1)) := by
  refine MC.of (fic M 12) (f12_rations (M 12) p1) rfl (by decide) (Nat.le_of_ble_eq_true rfl) (fun p e s m args below meth c cx hr => ?_)
  unfold f12_rations
  refine mw_sub (lv' := [(0, .ref (ad 12 0 0)), (1, .int p1)]) [0, 1] rfl ?_
  refine mw_eqM (uW_self M 12) ?_
  have ok0 : OkT (M 12) (M 12) := ⟨hok, rfl, rfl⟩
  refine mw_aload_n cx (q := 1) 0 rfl rfl dX12_rations_0 rfl ?_
  refine mw_iload_n cx (q := 2) 1 rfl rfl dX12_rations_1 rfl ?_
  refine mw_bnd (fun r1 er1 => ?_)
  refine mw_callS cx (q := 5) (d := 1) (As := [.int p1]) (z := fzp (uW M 12 (M 12)) r1) (st := [.ref (ad 12 0 0)]) (st1 := [.int (b2i r1), .ref (ad 12 0 0)]) (M' := (uW M 12 (M 12))) (by rw [er1]; exact mc_X12_isCompany l D ta ad (uW M 12 (M 12)) p1) cv_X12_339 ⟨Nat.le_of_ble_eq_true rfl, Nat.le_of_ble_eq_true rfl⟩ ⟨Nat.le_refl _, Nat.le_refl _⟩ (by simp [Value.category]) rfl rfl rfl dX12_rations_2 rfl ?_
  have qr10 : r1 = true → vp_in p1 4 := (fun hq => isCompany_t (er1.symm.trans hq))
  refine mw_jnP (P := fun (v2 : Bool) => ((b2i v2) = 0 → vp_in p1 4)) (Mj := fun (v2 : Bool) => (uW M 12 (M 12))) (pj := 13) (lj := fun (v2 : Bool) => [(0, .ref (ad 12 0 0)), (1, .int p1)]) (sj := fun (v2 : Bool) => [.int (b2i v2), .ref (ad 12 0 0)]) (fun v2 jv2 => ?_) (fun K3 hK3 => ?_)
  · have jv2_0 := jv2
    refine mw_bnd (fun r5 er5 => ?_)
    refine mw_callV cx (q := 16) (d := 0) (As := [.int (b2i v2)]) (z := fzc (uW M 12 (M 12)) 12 r5) (st := []) (st1 := [.int (b2i r5.1)]) (M' := uW M 12 r5.2) (by rw [er5]; exact mc_X12_goesWell l D ta ad (uW M 12 (M 12)) (b2i v2)) cv_X12_181 rfl rfl rfl vi_12_0 ⟨Nat.le_of_ble_eq_true rfl, Nat.le_of_ble_eq_true rfl⟩ ⟨Nat.le_refl _, Nat.le_refl _⟩ (by simp [Value.category]) rfl rfl (by exact uW_uW _ _ _ _) dX12_rations_13 rfl ?_
    have ok6 : OkT (M 12) r5.2 := (by rw [er5]; exact okT_f12_goesWell ok0 (b2i v2))
    have qr50 : r5.1 = true → (b2i v2) = 0 := (fun hq => goesWell_t ((congrArg Prod.fst er5).symm.trans hq))
    refine mw_ifb_eq cx (tgt := 28) (q := 19) dX12_rations_16 (by decide) rfl (fun h7 => ?_) (fun h7 => ?_)
    · refine mw_iconst cx (q := 29) (v := 0) dX12_rations_28 rfl rfl ?_
      exact mw_iret cx hr rfl dX12_rations_29
    · refine mw_aload_n cx (q := 20) 0 rfl rfl dX12_rations_19 rfl ?_
      refine mw_get cx (q := 23) (v := .ref (ad 12 5 0)) gf_X12_19 rfl rfl vi_12_0 dX12_rations_20 rfl ?_
      refine mw_iload_n cx (q := 24) 1 rfl rfl dX12_rations_23 rfl ?_
      refine mw_iald cx (q := 25) (w := (r5.2 5 0 p1)) rfl (fun _ => rfl) vi_12_5 (jv2_0 (qr50 h7)) dX12_rations_24 rfl ?_
      refine mw_goto cx (tgt := 29) dX12_rations_25 (by decide) ?_
      exact mw_iret cx hr rfl dX12_rations_29
  · refine mw_ifb_eq cx (tgt := 12) (q := 8) dX12_rations_5 (by decide) rfl (fun h4 => ?_) (fun h4 => ?_)
    · refine mw_iconst cx (q := 13) (v := 1) dX12_rations_12 rfl rfl ?_
      exact hK3 true (by intro hz; first | exact absurd hz (by decide) | exact (by (try simp only [vp_in_iff, i32lt, i32le, i32eq, i32add, i32sub, i32mul, i32neg, t32_4] at qr10 h4 ⊢); omega))
    · refine mw_iconst cx (q := 9) (v := 0) dX12_rations_8 rfl rfl ?_
      refine mw_goto cx (tgt := 13) dX12_rations_9 (by decide) ?_
      exact hK3 false (by intro hz; first | exact absurd hz (by decide) | exact (qr10 h4))
def f12_debt (m : Cm) (p1 : Int32) (p2 : Int32) : (Int32 × Cm) := bnd (f12_isCompany p1) (fun (r1 : Bool) => jn (fun (v2 : Bool) => bnd (f12_goesWell m (b2i v2)) (fun (r7 : Bool × Cm) => if r7.1 = true then ((r7.2 7 0 ((4 * p1) + p2)), r7.2) else (0, r7.2))) (fun K3 => if r1 = true then bnd (f12_isCompany p2) (fun (r5 : Bool) => if r5 = true then K3 false else K3 true) else K3 true))
set_option maxHeartbeats 4000000 in
set_option maxRecDepth 100000 in
theorem mc_X12_debt (l : Launch) (D : va_G) (ta : wTa) (ad : wAd) (M : Wm) (p1 : Int32) (p2 : Int32) (hok : Ok12 (M 12)) : MC l D ta ad yX12_debt cX12_debt 3 (some .int) 2 [.ref (ad 12 0 0), .int p1, .int p2] M (fic M 12 (f12_debt (M 12) p1 p2)) := by
  refine MC.of (fic M 12) (f12_debt (M 12) p1 p2) rfl (by decide) (Nat.le_of_ble_eq_true rfl) (fun p e s m args below meth c cx hr => ?_)
  unfold f12_debt
  refine mw_sub (lv' := [(0, .ref (ad 12 0 0)), (1, .int p1), (2, .int p2)]) [0, 1, 2] rfl ?_
  refine mw_eqM (uW_self M 12) ?_
  have ok0 : OkT (M 12) (M 12) := ⟨hok, rfl, rfl⟩
  refine mw_aload_n cx (q := 1) 0 rfl rfl dX12_debt_0 rfl ?_
  refine mw_iload_n cx (q := 2) 1 rfl rfl dX12_debt_1 rfl ?_
  refine mw_bnd (fun r1 er1 => ?_)
  refine mw_callS cx (q := 5) (d := 1) (As := [.int p1]) (z := fzp (uW M 12 (M 12)) r1) (st := [.ref (ad 12 0 0)]) (st1 := [.int (b2i r1), .ref (ad 12 0 0)]) (M' := (uW M 12 (M 12))) (by rw [er1]; exact mc_X12_isCompany l D ta ad (uW M 12 (M 12)) p1) cv_X12_339 ⟨Nat.le_of_ble_eq_true rfl, Nat.le_of_ble_eq_true rfl⟩ ⟨Nat.le_refl _, Nat.le_refl _⟩ (by simp [Value.category]) rfl rfl rfl dX12_debt_2 rfl ?_
  have qr10 : r1 = true → vp_in p1 4 := (fun hq => isCompany_t (er1.symm.trans hq))
  refine mw_jnP (P := fun (v2 : Bool) => ((b2i v2) = 0 → vp_in p1 4 ∧ vp_in p2 4)) (Mj := fun (v2 : Bool) => (uW M 12 (M 12))) (pj := 20) (lj := fun (v2 : Bool) => [(0, .ref (ad 12 0 0)), (1, .int p1), (2, .int p2)]) (sj := fun (v2 : Bool) => [.int (b2i v2), .ref (ad 12 0 0)]) (fun v2 jv2 => ?_) (fun K3 hK3 => ?_)
  · have jv2_0 := jv2
    refine mw_bnd (fun r7 er7 => ?_)
    refine mw_callV cx (q := 23) (d := 0) (As := [.int (b2i v2)]) (z := fzc (uW M 12 (M 12)) 12 r7) (st := []) (st1 := [.int (b2i r7.1)]) (M' := uW M 12 r7.2) (by rw [er7]; exact mc_X12_goesWell l D ta ad (uW M 12 (M 12)) (b2i v2)) cv_X12_181 rfl rfl rfl vi_12_0 ⟨Nat.le_of_ble_eq_true rfl, Nat.le_of_ble_eq_true rfl⟩ ⟨Nat.le_refl _, Nat.le_refl _⟩ (by simp [Value.category]) rfl rfl (by exact uW_uW _ _ _ _) dX12_debt_20 rfl ?_
    have ok8 : OkT (M 12) r7.2 := (by rw [er7]; exact okT_f12_goesWell ok0 (b2i v2))
    have qr70 : r7.1 = true → (b2i v2) = 0 := (fun hq => goesWell_t ((congrArg Prod.fst er7).symm.trans hq))
    refine mw_ifb_eq cx (tgt := 39) (q := 26) dX12_debt_23 (by decide) rfl (fun h9 => ?_) (fun h9 => ?_)
    · refine mw_iconst cx (q := 40) (v := 0) dX12_debt_39 rfl rfl ?_
      exact mw_iret cx hr rfl dX12_debt_40
    · refine mw_aload_n cx (q := 27) 0 rfl rfl dX12_debt_26 rfl ?_
      refine mw_get cx (q := 30) (v := .ref (ad 12 7 0)) gf_X12_25 rfl rfl vi_12_0 dX12_debt_27 rfl ?_
      refine mw_iconst cx (q := 31) (v := 4) dX12_debt_30 rfl rfl ?_
      refine mw_iload_n cx (q := 32) 1 rfl rfl dX12_debt_31 rfl ?_
      refine mw_imul cx (q := 33) dX12_debt_32 rfl ?_
      refine mw_iload_n cx (q := 34) 2 rfl rfl dX12_debt_33 rfl ?_
      refine mw_iadd cx (q := 35) dX12_debt_34 rfl ?_
      refine mw_iald cx (q := 36) (w := (r7.2 7 0 ((4 * p1) + p2))) rfl (fun _ => rfl) vi_12_7 (idx4_16 (jv2_0 (qr70 h9)).1 (jv2_0 (qr70 h9)).2) dX12_debt_35 rfl ?_
      refine mw_goto cx (tgt := 40) dX12_debt_36 (by decide) ?_
      exact mw_iret cx hr rfl dX12_debt_40
  · refine mw_ifb_eq cx (tgt := 19) (q := 8) dX12_debt_5 (by decide) rfl (fun h4 => ?_) (fun h4 => ?_)
    · refine mw_iconst cx (q := 20) (v := 1) dX12_debt_19 rfl rfl ?_
      exact hK3 true (by intro hz; first | exact absurd hz (by decide) | exact ⟨(by (try simp only [vp_in_iff, i32lt, i32le, i32eq, i32add, i32sub, i32mul, i32neg, t32_4] at qr10 h4 ⊢); omega), (by (try simp only [vp_in_iff, i32lt, i32le, i32eq, i32add, i32sub, i32mul, i32neg, t32_4]); omega)⟩)
    · refine mw_iload_n cx (q := 9) 2 rfl rfl dX12_debt_8 rfl ?_
      refine mw_bnd (fun r5 er5 => ?_)
      refine mw_callS cx (q := 12) (d := 1) (As := [.int p2]) (z := fzp (uW M 12 (M 12)) r5) (st := [.ref (ad 12 0 0)]) (st1 := [.int (b2i r5), .ref (ad 12 0 0)]) (M' := (uW M 12 (M 12))) (by rw [er5]; exact mc_X12_isCompany l D ta ad (uW M 12 (M 12)) p2) cv_X12_339 ⟨Nat.le_of_ble_eq_true rfl, Nat.le_of_ble_eq_true rfl⟩ ⟨Nat.le_refl _, Nat.le_refl _⟩ (by simp [Value.category]) rfl rfl rfl dX12_debt_9 rfl ?_
      have qr50 : r5 = true → vp_in p2 4 := (fun hq => isCompany_t (er5.symm.trans hq))
      refine mw_ifb_eq cx (tgt := 19) (q := 15) dX12_debt_12 (by decide) rfl (fun h6 => ?_) (fun h6 => ?_)
      · refine mw_iconst cx (q := 20) (v := 1) dX12_debt_19 rfl rfl ?_
        exact hK3 true (by intro hz; first | exact absurd hz (by decide) | exact ⟨(qr10 h4), (by (try simp only [vp_in_iff, i32lt, i32le, i32eq, i32add, i32sub, i32mul, i32neg, t32_4] at qr50 h6 qr10 h4 ⊢); omega)⟩)
      · refine mw_iconst cx (q := 16) (v := 0) dX12_debt_15 rfl rfl ?_
        refine mw_goto cx (tgt := 20) dX12_debt_16 (by decide) ?_
        exact hK3 false (by intro hz; first | exact absurd hz (by decide) | exact ⟨(qr10 h4), (qr50 h6)⟩)
def f12_setBuying (m : Cm) (p1 : Int32) (p2 : Bool) : (Bool × Cm) := bnd (f12_isCompany p1) (fun (r1 : Bool) => jn (fun (v2 : Bool) => bnd (f12_goesWell m (b2i v2)) (fun (r5 : Bool × Cm) => if r5.1 = true then bnd ((r5.2 9 0 p1)) (fun (v8 : Int32) => bnd (u3 r5.2 9 0 p1 (b2i p2)) (fun (m9 : Cm) => (i2b v8, m9))) else (false, r5.2))) (fun K3 => if r1 = true then K3 false else K3 true))
set_option maxHeartbeats 4000000 in
set_option maxRecDepth 100000 in
theorem mc_X12_setBuying (l : Launch) (D : va_G) (ta : wTa) (ad : wAd) (M : Wm) (p1 : Int32) (p2 : Bool) (hok : Ok12 (M 12)) (hbo : vp_in p1 4 → (M 12) 9 0 p1 = 0 ∨ (M 12) 9 0 p1 = 1) : MC l D ta ad yX12_setBuying cX12_setBuying 4 (some .boolean) 2 [.ref (ad 12 0 0), .int p1, .int (b2i p2)] M (fzc M 12 (f12_setBuying (M 12) p1 p2)) := by
  refine MC.of (fzc M 12) (f12_setBuying (M 12) p1 p2) rfl (by decide) (Nat.le_of_ble_eq_true rfl) (fun p e s m args below meth c cx hr => ?_)
  unfold f12_setBuying
  refine mw_sub (lv' := [(0, .ref (ad 12 0 0)), (1, .int p1), (2, .int (b2i p2))]) [0, 1, 2] rfl ?_
  refine mw_eqM (uW_self M 12) ?_
  have ok0 : OkT (M 12) (M 12) := ⟨hok, rfl, rfl⟩
  refine mw_aload_n cx (q := 1) 0 rfl rfl dX12_setBuying_0 rfl ?_
  refine mw_iload_n cx (q := 2) 1 rfl rfl dX12_setBuying_1 rfl ?_
  refine mw_bnd (fun r1 er1 => ?_)
  refine mw_callS cx (q := 5) (d := 1) (As := [.int p1]) (z := fzp (uW M 12 (M 12)) r1) (st := [.ref (ad 12 0 0)]) (st1 := [.int (b2i r1), .ref (ad 12 0 0)]) (M' := (uW M 12 (M 12))) (by rw [er1]; exact mc_X12_isCompany l D ta ad (uW M 12 (M 12)) p1) cv_X12_339 ⟨Nat.le_of_ble_eq_true rfl, Nat.le_of_ble_eq_true rfl⟩ ⟨Nat.le_refl _, Nat.le_refl _⟩ (by simp [Value.category]) rfl rfl rfl dX12_setBuying_2 rfl ?_
  have qr10 : r1 = true → vp_in p1 4 := (fun hq => isCompany_t (er1.symm.trans hq))
  refine mw_jnP (P := fun (v2 : Bool) => ((b2i v2) = 0 → vp_in p1 4)) (Mj := fun (v2 : Bool) => (uW M 12 (M 12))) (pj := 13) (lj := fun (v2 : Bool) => [(0, .ref (ad 12 0 0)), (1, .int p1), (2, .int (b2i p2))]) (sj := fun (v2 : Bool) => [.int (b2i v2), .ref (ad 12 0 0)]) (fun v2 jv2 => ?_) (fun K3 hK3 => ?_)
  · have jv2_0 := jv2
    refine mw_bnd (fun r5 er5 => ?_)
    refine mw_callV cx (q := 16) (d := 0) (As := [.int (b2i v2)]) (z := fzc (uW M 12 (M 12)) 12 r5) (st := []) (st1 := [.int (b2i r5.1)]) (M' := uW M 12 r5.2) (by rw [er5]; exact mc_X12_goesWell l D ta ad (uW M 12 (M 12)) (b2i v2)) cv_X12_181 rfl rfl rfl vi_12_0 ⟨Nat.le_of_ble_eq_true rfl, Nat.le_of_ble_eq_true rfl⟩ ⟨Nat.le_refl _, Nat.le_refl _⟩ (by simp [Value.category]) rfl rfl (by exact uW_uW _ _ _ _) dX12_setBuying_13 rfl ?_
    have ok6 : OkT (M 12) r5.2 := (by rw [er5]; exact okT_f12_goesWell ok0 (b2i v2))
    have qr50 : r5.1 = true → (b2i v2) = 0 := (fun hq => goesWell_t ((congrArg Prod.fst er5).symm.trans hq))
    have hb9 : vp_in p1 4 → r5.2 9 0 p1 = 0 ∨ r5.2 9 0 p1 = 1 := (by rw [er5, goesWell_m]; exact hbo)
    refine mw_ifb_ne cx (tgt := 21) (q := 19) dX12_setBuying_16 (by decide) rfl (fun h7 => ?_) (fun h7 => ?_)
    · refine mw_aload_n cx (q := 22) 0 rfl rfl dX12_setBuying_21 rfl ?_
      refine mw_get cx (q := 25) (v := .ref (ad 12 9 0)) gf_X12_31 rfl rfl vi_12_0 dX12_setBuying_22 rfl ?_
      refine mw_iload_n cx (q := 26) 1 rfl rfl dX12_setBuying_25 rfl ?_
      refine mw_zald cx (q := 27) (w := (r5.2 9 0 p1)) rfl (fun _ => rfl) vi_12_9 (jv2_0 (qr50 h7)) dX12_setBuying_26 rfl ?_
      refine mw_bndT (fun v8 ev8 => ?_)
      refine mw_istore_n cx (q := 28) (lv' := [(3, .int v8), (0, .ref (ad 12 0 0)), (1, .int p1), (2, .int (b2i p2))]) rfl rfl (by decide) dX12_setBuying_27 rfl ?_
      refine mw_aload_n cx (q := 29) 1 rfl rfl dX12_setBuying_28 rfl ?_
      refine mw_get cx (q := 32) (v := .ref (ad 12 9 0)) gf_X12_31 rfl rfl vi_12_0 dX12_setBuying_29 rfl ?_
      refine mw_iload_n cx (q := 33) 2 rfl rfl dX12_setBuying_32 rfl ?_
      refine mw_iload_n cx (q := 34) 3 rfl rfl dX12_setBuying_33 rfl ?_
      refine mw_zastC cx (q := 35) (fun _ => rfl) (by decide) vi_12_9 (jv2_0 (qr50 h7)) (by decide) (b2i_nar _) dX12_setBuying_34 rfl (fun m9 em9 => ?_)
      have ok10 : OkT (M 12) m9 := (by rw [em9]; exact okT_putA ok6 (by decide))
      refine mw_iload_n cx (q := 36) 0 rfl rfl dX12_setBuying_35 rfl ?_
      exact mw_zretI cx hr (by rw [ev8]; exact hb9 (jv2_0 (qr50 h7))) rfl dX12_setBuying_36
    · refine mw_iconst cx (q := 20) (v := 0) dX12_setBuying_19 rfl rfl ?_
      exact mw_zret cx hr rfl rfl dX12_setBuying_20
  · refine mw_ifb_eq cx (tgt := 12) (q := 8) dX12_setBuying_5 (by decide) rfl (fun h4 => ?_) (fun h4 => ?_)
    · refine mw_iconst cx (q := 13) (v := 1) dX12_setBuying_12 rfl rfl ?_
      exact hK3 true (by intro hz; first | exact absurd hz (by decide) | exact (by (try simp only [vp_in_iff, i32lt, i32le, i32eq, i32add, i32sub, i32mul, i32neg, t32_0, t32_1, t32_4, t32_9] at hbo qr10 h4 ⊢); omega))
    · refine mw_iconst cx (q := 9) (v := 0) dX12_setBuying_8 rfl rfl ?_
      refine mw_goto cx (tgt := 13) dX12_setBuying_9 (by decide) ?_
      exact hK3 false (by intro hz; first | exact absurd hz (by decide) | exact (qr10 h4))
def f12_setCredit (m : Cm) (p1 : Int32) (p2 : Int32) (p3 : Int32) : (Int32 × Cm) := bnd (f12_isCompany p1) (fun (r1 : Bool) => jn (fun (v2 : Bool) => jn (fun (v10 : Bool) => bnd (f12_goesWell m (b2i v10)) (fun (r13 : Bool × Cm) => if r13.1 = true then bnd ((r13.2 8 0 ((4 * p1) + p2))) (fun (v16 : Int32) => bnd (u3 r13.2 8 0 ((4 * p1) + p2) p3) (fun (m17 : Cm) => (v16, m17))) else (0, r13.2))) (fun K11 => if v2 = true then K11 false else K11 true)) (fun K3 => if r1 = true then bnd (f12_isCompany p2) (fun (r5 : Bool) => if r5 = true then if p1 = p2 then K3 false else bnd (f12_in p3 0 1000) (fun (r8 : Bool) => if r8 = true then K3 true else K3 false) else K3 false) else K3 false))
set_option maxHeartbeats 4000000 in
set_option maxRecDepth 100000 in
theorem mc_X12_setCredit (l : Launch) (D : va_G) (ta : wTa) (ad : wAd) (M : Wm) (p1 : Int32) (p2 : Int32) (p3 : Int32) (hok : Ok12 (M 12)) : MC l D ta ad yX12_setCredit cX12_setCredit 6 (some .int) 2 [.ref (ad 12 0 0), .int p1, .int p2, .int p3] M (fic M 12 (f12_setCredit (M 12) p1 p2 p3)) := by
  refine MC.of (fic M 12) (f12_setCredit (M 12) p1 p2 p3) rfl (by decide) (Nat.le_of_ble_eq_true rfl) (fun p e s m args below meth c cx hr => ?_)
  unfold f12_setCredit
  refine mw_sub (lv' := [(0, .ref (ad 12 0 0)), (1, .int p1), (2, .int p2), (3, .int p3)]) [0, 1, 2, 3] rfl ?_
  refine mw_eqM (uW_self M 12) ?_
  have ok0 : OkT (M 12) (M 12) := ⟨hok, rfl, rfl⟩
  refine mw_iload_n cx (q := 1) 1 rfl rfl dX12_setCredit_0 rfl ?_
  refine mw_bnd (fun r1 er1 => ?_)
  refine mw_callS cx (q := 4) (d := 1) (As := [.int p1]) (z := fzp (uW M 12 (M 12)) r1) (st := []) (st1 := [.int (b2i r1)]) (M' := (uW M 12 (M 12))) (by rw [er1]; exact mc_X12_isCompany l D ta ad (uW M 12 (M 12)) p1) cv_X12_339 ⟨Nat.le_of_ble_eq_true rfl, Nat.le_of_ble_eq_true rfl⟩ ⟨Nat.le_refl _, Nat.le_refl _⟩ (by simp [Value.category]) rfl rfl rfl dX12_setCredit_1 rfl ?_
  have qr10 : r1 = true → vp_in p1 4 := (fun hq => isCompany_t (er1.symm.trans hq))
  refine mw_jnP (P := fun (v2 : Bool) => (v2 = true → vp_in p1 4 ∧ vp_in p2 4)) (Mj := fun (v2 : Bool) => (uW M 12 (M 12))) (pj := 35) (lj := fun (v2 : Bool) => [(0, .ref (ad 12 0 0)), (1, .int p1), (2, .int p2), (3, .int p3)]) (sj := fun (v2 : Bool) => [.int (b2i v2)]) (fun v2 jv2 => ?_) (fun K3 hK3 => ?_)
  · have jv2_0 := jv2
    refine mw_istore cx (q := 37) (lv' := [(4, .int (b2i v2)), (0, .ref (ad 12 0 0)), (1, .int p1), (2, .int p2), (3, .int p3)]) rfl (by decide) dX12_setCredit_35 rfl ?_
    refine mw_aload_n cx (q := 38) 1 rfl rfl dX12_setCredit_37 rfl ?_
    refine mw_iload cx (q := 40) 0 rfl dX12_setCredit_38 rfl ?_
    refine mw_jnP (P := fun (v10 : Bool) => ((b2i v10) = 0 → vp_in p1 4 ∧ vp_in p2 4)) (Mj := fun (v10 : Bool) => (uW M 12 (M 12))) (pj := 48) (lj := fun (v10 : Bool) => [(0, .ref (ad 12 0 0)), (1, .int p1), (2, .int p2), (3, .int p3)]) (sj := fun (v10 : Bool) => [.int (b2i v10), .ref (ad 12 0 0)]) (fun v10 jv10 => ?_) (fun K11 hK11 => ?_)
    · have jv10_0 := jv10
      refine mw_bnd (fun r13 er13 => ?_)
      refine mw_callV cx (q := 51) (d := 0) (As := [.int (b2i v10)]) (z := fzc (uW M 12 (M 12)) 12 r13) (st := []) (st1 := [.int (b2i r13.1)]) (M' := uW M 12 r13.2) (by rw [er13]; exact mc_X12_goesWell l D ta ad (uW M 12 (M 12)) (b2i v10)) cv_X12_181 rfl rfl rfl vi_12_0 ⟨Nat.le_of_ble_eq_true rfl, Nat.le_of_ble_eq_true rfl⟩ ⟨Nat.le_refl _, Nat.le_refl _⟩ (by simp [Value.category]) rfl rfl (by exact uW_uW _ _ _ _) dX12_setCredit_48 rfl ?_
      have ok14 : OkT (M 12) r13.2 := (by rw [er13]; exact okT_f12_goesWell ok0 (b2i v10))
      have qr130 : r13.1 = true → (b2i v10) = 0 := (fun hq => goesWell_t ((congrArg Prod.fst er13).symm.trans hq))
      refine mw_ifb_ne cx (tgt := 56) (q := 54) dX12_setCredit_51 (by decide) rfl (fun h15 => ?_) (fun h15 => ?_)
      · refine mw_aload_n cx (q := 57) 0 rfl rfl dX12_setCredit_56 rfl ?_
        refine mw_get cx (q := 60) (v := .ref (ad 12 8 0)) gf_X12_28 rfl rfl vi_12_0 dX12_setCredit_57 rfl ?_
        refine mw_iconst cx (q := 61) (v := 4) dX12_setCredit_60 rfl rfl ?_
        refine mw_iload_n cx (q := 62) 1 rfl rfl dX12_setCredit_61 rfl ?_
        refine mw_imul cx (q := 63) dX12_setCredit_62 rfl ?_
        refine mw_iload_n cx (q := 64) 2 rfl rfl dX12_setCredit_63 rfl ?_
        refine mw_iadd cx (q := 65) dX12_setCredit_64 rfl ?_
        refine mw_iald cx (q := 66) (w := (r13.2 8 0 ((4 * p1) + p2))) rfl (fun _ => rfl) vi_12_8 (idx4_16 (jv10_0 (qr130 h15)).1 (jv10_0 (qr130 h15)).2) dX12_setCredit_65 rfl ?_
        refine mw_bndT (fun v16 ev16 => ?_)
        refine mw_istore cx (q := 68) (lv' := [(5, .int v16), (0, .ref (ad 12 0 0)), (1, .int p1), (2, .int p2), (3, .int p3)]) rfl (by decide) dX12_setCredit_66 rfl ?_
        refine mw_aload_n cx (q := 69) 1 rfl rfl dX12_setCredit_68 rfl ?_
        refine mw_get cx (q := 72) (v := .ref (ad 12 8 0)) gf_X12_28 rfl rfl vi_12_0 dX12_setCredit_69 rfl ?_
        refine mw_iconst cx (q := 73) (v := 4) dX12_setCredit_72 rfl rfl ?_
        refine mw_iload_n cx (q := 74) 2 rfl rfl dX12_setCredit_73 rfl ?_
        refine mw_imul cx (q := 75) dX12_setCredit_74 rfl ?_
        refine mw_iload_n cx (q := 76) 3 rfl rfl dX12_setCredit_75 rfl ?_
        refine mw_iadd cx (q := 77) dX12_setCredit_76 rfl ?_
        refine mw_iload_n cx (q := 78) 4 rfl rfl dX12_setCredit_77 rfl ?_
        refine mw_iastC cx (q := 79) (fun _ => rfl) (by decide) vi_12_8 (idx4_16 (jv10_0 (qr130 h15)).1 (jv10_0 (qr130 h15)).2) (by decide) dX12_setCredit_78 rfl (fun m17 em17 => ?_)
        have ok18 : OkT (M 12) m17 := (by rw [em17]; exact okT_putA ok14 (by decide))
        refine mw_iload cx (q := 81) 0 rfl dX12_setCredit_79 rfl ?_
        exact mw_iret cx hr rfl dX12_setCredit_81
      · refine mw_iconst cx (q := 55) (v := 0) dX12_setCredit_54 rfl rfl ?_
        exact mw_iret cx hr rfl dX12_setCredit_55
    · refine mw_ifb_eq cx (tgt := 47) (q := 43) dX12_setCredit_40 (by decide) rfl (fun h12 => ?_) (fun h12 => ?_)
      · refine mw_iconst cx (q := 48) (v := 1) dX12_setCredit_47 rfl rfl ?_
        refine mw_sub [1, 2, 3, 4] rfl ?_
        exact hK11 true (by intro hz; first | exact absurd hz (by decide) | exact ⟨(by (try simp only [vp_in_iff, i32lt, i32le, i32eq, i32add, i32sub, i32mul, i32neg, t32_4] at qr10 jv2_0 h12 ⊢); omega), (by (try simp only [vp_in_iff, i32lt, i32le, i32eq, i32add, i32sub, i32mul, i32neg, t32_4] at jv2_0 h12 qr10 ⊢); omega)⟩)
      · refine mw_iconst cx (q := 44) (v := 0) dX12_setCredit_43 rfl rfl ?_
        refine mw_goto cx (tgt := 48) dX12_setCredit_44 (by decide) ?_
        refine mw_sub [1, 2, 3, 4] rfl ?_
        exact hK11 false (by intro hz; first | exact absurd hz (by decide) | exact ⟨(jv2_0 h12).1, (jv2_0 h12).2⟩)
  · refine mw_ifb_eq cx (tgt := 34) (q := 7) dX12_setCredit_4 (by decide) rfl (fun h4 => ?_) (fun h4 => ?_)
    · refine mw_iconst cx (q := 35) (v := 0) dX12_setCredit_34 rfl rfl ?_
      exact hK3 false (by intro hz; first | exact absurd hz (by decide) | exact ⟨(by (try simp only [vp_in_iff, i32lt, i32le, i32eq, i32add, i32sub, i32mul, i32neg, t32_4] at qr10 h4 hz ⊢); omega), (by (try simp only [vp_in_iff, i32lt, i32le, i32eq, i32add, i32sub, i32mul, i32neg, t32_4]); omega)⟩)
    · refine mw_iload_n cx (q := 8) 2 rfl rfl dX12_setCredit_7 rfl ?_
      refine mw_bnd (fun r5 er5 => ?_)
      refine mw_callS cx (q := 11) (d := 1) (As := [.int p2]) (z := fzp (uW M 12 (M 12)) r5) (st := []) (st1 := [.int (b2i r5)]) (M' := (uW M 12 (M 12))) (by rw [er5]; exact mc_X12_isCompany l D ta ad (uW M 12 (M 12)) p2) cv_X12_339 ⟨Nat.le_of_ble_eq_true rfl, Nat.le_of_ble_eq_true rfl⟩ ⟨Nat.le_refl _, Nat.le_refl _⟩ (by simp [Value.category]) rfl rfl rfl dX12_setCredit_8 rfl ?_
      have qr50 : r5 = true → vp_in p2 4 := (fun hq => isCompany_t (er5.symm.trans hq))
      refine mw_ifb_eq cx (tgt := 34) (q := 14) dX12_setCredit_11 (by decide) rfl (fun h6 => ?_) (fun h6 => ?_)
      · refine mw_iconst cx (q := 35) (v := 0) dX12_setCredit_34 rfl rfl ?_
        exact hK3 false (by intro hz; first | exact absurd hz (by decide) | exact ⟨(qr10 h4), (by (try simp only [vp_in_iff, i32lt, i32le, i32eq, i32add, i32sub, i32mul, i32neg, t32_4] at qr50 h6 hz qr10 h4 ⊢); omega)⟩)
      · refine mw_iload_n cx (q := 15) 1 rfl rfl dX12_setCredit_14 rfl ?_
        refine mw_iload_n cx (q := 16) 2 rfl rfl dX12_setCredit_15 rfl ?_
        refine mw_icmp_eq cx (tgt := 34) (q := 19) dX12_setCredit_16 (by decide) rfl (fun h7 => ?_) (fun h7 => ?_)
        · refine mw_iconst cx (q := 35) (v := 0) dX12_setCredit_34 rfl rfl ?_
          exact hK3 false (by intro hz; first | exact absurd hz (by decide) | exact ⟨(qr10 h4), (qr50 h6)⟩)
        · refine mw_iload_n cx (q := 20) 3 rfl rfl dX12_setCredit_19 rfl ?_
          refine mw_iconst cx (q := 21) (v := 0) dX12_setCredit_20 rfl rfl ?_
          refine mw_sipush cx (q := 24) (v := 1000) dX12_setCredit_21 rfl rfl ?_
          refine mw_bnd (fun r8 er8 => ?_)
          refine mw_callS cx (q := 27) (d := 0) (As := [.int p3, .int 0, .int 1000]) (z := fzp (uW M 12 (M 12)) r8) (st := []) (st1 := [.int (b2i r8)]) (M' := (uW M 12 (M 12))) (by rw [er8]; exact mc_X12_in l D ta ad (uW M 12 (M 12)) p3 0 1000) cv_X12_167 ⟨Nat.le_of_ble_eq_true rfl, Nat.le_of_ble_eq_true rfl⟩ ⟨Nat.le_refl _, Nat.le_refl _⟩ (by simp [Value.category]) rfl rfl rfl dX12_setCredit_24 rfl ?_
          have qr80 : r8 = true → 0 ≤ p3.toInt ∧ p3.toInt ≤ 1000 := (fun hq => in_i (er8.symm.trans hq))
          refine mw_ifb_eq cx (tgt := 34) (q := 30) dX12_setCredit_27 (by decide) rfl (fun h9 => ?_) (fun h9 => ?_)
          · refine mw_iconst cx (q := 35) (v := 0) dX12_setCredit_34 rfl rfl ?_
            exact hK3 false (by intro hz; first | exact absurd hz (by decide) | exact ⟨(qr10 h4), (qr50 h6)⟩)
          · refine mw_iconst cx (q := 31) (v := 1) dX12_setCredit_30 rfl rfl ?_
            refine mw_goto cx (tgt := 35) dX12_setCredit_31 (by decide) ?_
            exact hK3 true (by intro hz; first | exact absurd hz (by decide) | exact ⟨(qr10 h4), (qr50 h6)⟩)
def f12_stockByMoves (m : Cm) (p1 : Int32) (p2 : Int32) : (Int32 × Cm) := bnd (f12_in p1 (-1) 3) (fun (r1 : Bool) => jn (fun (v2 : Bool) => jn (fun (v7 : Bool) => bnd (f12_goesWell m (b2i v7)) (fun (r10 : Bool × Cm) => if r10.1 = true then jn (fun (v13 : Int32) => ((r10.2 4 0 ((8 * v13) + p2)), r10.2)) (fun K14 => if p1 = (-1) then K14 4 else K14 p1) else (0, r10.2))) (fun K8 => if v2 = true then K8 false else K8 true)) (fun K3 => if r1 = true then bnd (f12_isGood p2) (fun (r5 : Bool) => if r5 = true then K3 true else K3 false) else K3 false))
set_option maxHeartbeats 4000000 in
set_option maxRecDepth 100000 in
theorem mc_X12_stockByMoves (l : Launch) (D : va_G) (ta : wTa) (ad : wAd) (M : Wm) (p1 : Int32) (p2 : Int32) (hok : Ok12 (M 12)) : MC l D ta ad yX12_stockByMoves cX12_stockByMoves 4 (some .int) 2 [.ref (ad 12 0 0), .int p1, .int p2] M (fic M 12 (f12_stockByMoves (M 12) p1 p2)) := by
  refine MC.of (fic M 12) (f12_stockByMoves (M 12) p1 p2) rfl (by decide) (Nat.le_of_ble_eq_true rfl) (fun p e s m args below meth c cx hr => ?_)
  unfold f12_stockByMoves
  refine mw_sub (lv' := [(0, .ref (ad 12 0 0)), (1, .int p1), (2, .int p2)]) [0, 1, 2] rfl ?_
  refine mw_eqM (uW_self M 12) ?_
  have ok0 : OkT (M 12) (M 12) := ⟨hok, rfl, rfl⟩
  refine mw_iload_n cx (q := 1) 1 rfl rfl dX12_stockByMoves_0 rfl ?_
  refine mw_iconst cx (q := 2) (v := (-1)) dX12_stockByMoves_1 rfl rfl ?_
  refine mw_iconst cx (q := 3) (v := 3) dX12_stockByMoves_2 rfl rfl ?_
  refine mw_bnd (fun r1 er1 => ?_)
  refine mw_callS cx (q := 6) (d := 0) (As := [.int p1, .int (-1), .int 3]) (z := fzp (uW M 12 (M 12)) r1) (st := []) (st1 := [.int (b2i r1)]) (M' := (uW M 12 (M 12))) (by rw [er1]; exact mc_X12_in l D ta ad (uW M 12 (M 12)) p1 (-1) 3) cv_X12_167 ⟨Nat.le_of_ble_eq_true rfl, Nat.le_of_ble_eq_true rfl⟩ ⟨Nat.le_refl _, Nat.le_refl _⟩ (by simp [Value.category]) rfl rfl rfl dX12_stockByMoves_3 rfl ?_
  have qr10 : r1 = true → -1 ≤ p1.toInt ∧ p1.toInt ≤ 3 := (fun hq => in_i (er1.symm.trans hq))
  refine mw_jnP (P := fun (v2 : Bool) => (v2 = true → -1 ≤ p1.toInt ∧ p1.toInt ≤ 3 ∧ vp_in p2 8)) (Mj := fun (v2 : Bool) => (uW M 12 (M 12))) (pj := 21) (lj := fun (v2 : Bool) => [(0, .ref (ad 12 0 0)), (1, .int p1), (2, .int p2)]) (sj := fun (v2 : Bool) => [.int (b2i v2)]) (fun v2 jv2 => ?_) (fun K3 hK3 => ?_)
  · have jv2_0 := jv2
    refine mw_istore_n cx (q := 22) (lv' := [(3, .int (b2i v2)), (0, .ref (ad 12 0 0)), (1, .int p1), (2, .int p2)]) rfl rfl (by decide) dX12_stockByMoves_21 rfl ?_
    refine mw_aload_n cx (q := 23) 1 rfl rfl dX12_stockByMoves_22 rfl ?_
    refine mw_iload_n cx (q := 24) 0 rfl rfl dX12_stockByMoves_23 rfl ?_
    refine mw_jnP (P := fun (v7 : Bool) => ((b2i v7) = 0 → -1 ≤ p1.toInt ∧ p1.toInt ≤ 3 ∧ vp_in p2 8)) (Mj := fun (v7 : Bool) => (uW M 12 (M 12))) (pj := 32) (lj := fun (v7 : Bool) => [(0, .ref (ad 12 0 0)), (1, .int p1), (2, .int p2)]) (sj := fun (v7 : Bool) => [.int (b2i v7), .ref (ad 12 0 0)]) (fun v7 jv7 => ?_) (fun K8 hK8 => ?_)
    · have jv7_0 := jv7
      refine mw_bnd (fun r10 er10 => ?_)
      refine mw_callV cx (q := 35) (d := 0) (As := [.int (b2i v7)]) (z := fzc (uW M 12 (M 12)) 12 r10) (st := []) (st1 := [.int (b2i r10.1)]) (M' := uW M 12 r10.2) (by rw [er10]; exact mc_X12_goesWell l D ta ad (uW M 12 (M 12)) (b2i v7)) cv_X12_181 rfl rfl rfl vi_12_0 ⟨Nat.le_of_ble_eq_true rfl, Nat.le_of_ble_eq_true rfl⟩ ⟨Nat.le_refl _, Nat.le_refl _⟩ (by simp [Value.category]) rfl rfl (by exact uW_uW _ _ _ _) dX12_stockByMoves_32 rfl ?_
      have ok11 : OkT (M 12) r10.2 := (by rw [er10]; exact okT_f12_goesWell ok0 (b2i v7))
      have qr100 : r10.1 = true → (b2i v7) = 0 := (fun hq => goesWell_t ((congrArg Prod.fst er10).symm.trans hq))
      refine mw_ifb_eq cx (tgt := 61) (q := 38) dX12_stockByMoves_35 (by decide) rfl (fun h12 => ?_) (fun h12 => ?_)
      · refine mw_iconst cx (q := 62) (v := 0) dX12_stockByMoves_61 rfl rfl ?_
        exact mw_iret cx hr rfl dX12_stockByMoves_62
      · refine mw_aload_n cx (q := 39) 0 rfl rfl dX12_stockByMoves_38 rfl ?_
        refine mw_get cx (q := 42) (v := .ref (ad 12 4 0)) gf_X12_16 rfl rfl vi_12_0 dX12_stockByMoves_39 rfl ?_
        refine mw_bipush cx (q := 44) (v := 8) dX12_stockByMoves_42 rfl rfl ?_
        refine mw_iload_n cx (q := 45) 1 rfl rfl dX12_stockByMoves_44 rfl ?_
        refine mw_iconst cx (q := 46) (v := (-1)) dX12_stockByMoves_45 rfl rfl ?_
        refine mw_jnP (P := fun (v13 : Int32) => (vp_in v13 5)) (Mj := fun (v13 : Int32) => (uW M 12 r10.2)) (pj := 54) (lj := fun (v13 : Int32) => [(2, .int p2)]) (sj := fun (v13 : Int32) => [.int v13, .int 8, .ref (ad 12 4 0)]) (fun v13 jv13 => ?_) (fun K14 hK14 => ?_)
        · have jv13_0 := jv13
          refine mw_imul cx (q := 55) dX12_stockByMoves_54 rfl ?_
          refine mw_iload_n cx (q := 56) 0 rfl rfl dX12_stockByMoves_55 rfl ?_
          refine mw_iadd cx (q := 57) dX12_stockByMoves_56 rfl ?_
          refine mw_iald cx (q := 58) (w := (r10.2 4 0 ((8 * v13) + p2))) rfl (fun _ => rfl) vi_12_4 (idx8_40 jv13_0 (jv7_0 (qr100 h12)).2.2) dX12_stockByMoves_57 rfl ?_
          refine mw_goto cx (tgt := 62) dX12_stockByMoves_58 (by decide) ?_
          exact mw_iret cx hr rfl dX12_stockByMoves_62
        · refine mw_icmp_ne cx (tgt := 53) (q := 49) dX12_stockByMoves_46 (by decide) rfl (fun h15 => ?_) (fun h15 => ?_)
          · refine mw_iload_n cx (q := 54) 1 rfl rfl dX12_stockByMoves_53 rfl ?_
            refine mw_sub [2] rfl ?_
            exact hK14 p1 (by first | exact vin_lit (by decide) | (have h1 := (jv7_0 (qr100 h12)).1; have h2 := (jv7_0 (qr100 h12)).2.1; have h3 := h15; rw [vp_in_iff]; simp only [i32eq, i32neg, t32_1] at h3; omega))
          · refine mw_iconst cx (q := 50) (v := 4) dX12_stockByMoves_49 rfl rfl ?_
            refine mw_goto cx (tgt := 54) dX12_stockByMoves_50 (by decide) ?_
            refine mw_sub [2] rfl ?_
            exact hK14 4 (by first | exact vin_lit (by decide) | (have h1 := (jv7_0 (qr100 h12)).1; have h2 := (jv7_0 (qr100 h12)).2.1; have h3 := no_hyp; rw [vp_in_iff]; simp only [i32eq, i32neg, t32_1] at h3; omega))
    · refine mw_ifb_eq cx (tgt := 31) (q := 27) dX12_stockByMoves_24 (by decide) rfl (fun h9 => ?_) (fun h9 => ?_)
      · refine mw_iconst cx (q := 32) (v := 1) dX12_stockByMoves_31 rfl rfl ?_
        refine mw_sub [1, 2, 3] rfl ?_
        exact hK8 true (by intro hz; first | exact absurd hz (by decide) | exact ⟨(by (try simp only [vp_in_iff, i32lt, i32le, i32eq, i32add, i32sub, i32mul, i32neg, t32_1, t32_3, t32_8] at qr10 jv2_0 h9 ⊢); omega), (by (try simp only [vp_in_iff, i32lt, i32le, i32eq, i32add, i32sub, i32mul, i32neg, t32_1, t32_3, t32_8] at qr10 jv2_0 h9 ⊢); omega), (by (try simp only [vp_in_iff, i32lt, i32le, i32eq, i32add, i32sub, i32mul, i32neg, t32_1, t32_3, t32_8] at jv2_0 h9 qr10 ⊢); omega)⟩)
      · refine mw_iconst cx (q := 28) (v := 0) dX12_stockByMoves_27 rfl rfl ?_
        refine mw_goto cx (tgt := 32) dX12_stockByMoves_28 (by decide) ?_
        refine mw_sub [1, 2, 3] rfl ?_
        exact hK8 false (by intro hz; first | exact absurd hz (by decide) | exact ⟨(jv2_0 h9).1, (jv2_0 h9).2.1, (jv2_0 h9).2.2⟩)
  · refine mw_ifb_eq cx (tgt := 20) (q := 9) dX12_stockByMoves_6 (by decide) rfl (fun h4 => ?_) (fun h4 => ?_)
    · refine mw_iconst cx (q := 21) (v := 0) dX12_stockByMoves_20 rfl rfl ?_
      exact hK3 false (by intro hz; first | exact absurd hz (by decide) | exact ⟨(by (try simp only [vp_in_iff, i32lt, i32le, i32eq, i32add, i32sub, i32mul, i32neg, t32_1, t32_3] at qr10 h4 hz ⊢); omega), (by (try simp only [vp_in_iff, i32lt, i32le, i32eq, i32add, i32sub, i32mul, i32neg, t32_1, t32_3] at qr10 h4 hz ⊢); omega), (by (try simp only [vp_in_iff, i32lt, i32le, i32eq, i32add, i32sub, i32mul, i32neg, t32_8]); omega)⟩)
    · refine mw_iload_n cx (q := 10) 2 rfl rfl dX12_stockByMoves_9 rfl ?_
      refine mw_bnd (fun r5 er5 => ?_)
      refine mw_callS cx (q := 13) (d := 1) (As := [.int p2]) (z := fzp (uW M 12 (M 12)) r5) (st := []) (st1 := [.int (b2i r5)]) (M' := (uW M 12 (M 12))) (by rw [er5]; exact mc_X12_isGood l D ta ad (uW M 12 (M 12)) p2) cv_X12_374 ⟨Nat.le_of_ble_eq_true rfl, Nat.le_of_ble_eq_true rfl⟩ ⟨Nat.le_refl _, Nat.le_refl _⟩ (by simp [Value.category]) rfl rfl rfl dX12_stockByMoves_10 rfl ?_
      have qr50 : r5 = true → vp_in p2 8 := (fun hq => isGood_t (er5.symm.trans hq))
      refine mw_ifb_eq cx (tgt := 20) (q := 16) dX12_stockByMoves_13 (by decide) rfl (fun h6 => ?_) (fun h6 => ?_)
      · refine mw_iconst cx (q := 21) (v := 0) dX12_stockByMoves_20 rfl rfl ?_
        exact hK3 false (by intro hz; first | exact absurd hz (by decide) | exact ⟨(qr10 h4).1, (qr10 h4).2, (by (try simp only [vp_in_iff, i32lt, i32le, i32eq, i32add, i32sub, i32mul, i32neg, t32_1, t32_3, t32_8] at qr50 h6 hz qr10 h4 ⊢); omega)⟩)
      · refine mw_iconst cx (q := 17) (v := 1) dX12_stockByMoves_16 rfl rfl ?_
        refine mw_goto cx (tgt := 21) dX12_stockByMoves_17 (by decide) ?_
        exact hK3 true (by intro hz; first | exact absurd hz (by decide) | exact ⟨(qr10 h4).1, (qr10 h4).2, (qr50 h6)⟩)
def f12_stock (m : Cm) (p1 : Int32) (p2 : Int32) : (Int32 × Cm) := bnd (f12_stockByMoves m p1 p2) (fun (r1 : Int32 × Cm) => (r1.1, r1.2))
set_option maxHeartbeats 4000000 in
set_option maxRecDepth 100000 in
theorem mc_X12_stock (l : Launch) (D : va_G) (ta : wTa) (ad : wAd) (M : Wm) (p1 : Int32) (p2 : Int32) (hok : Ok12 (M 12)) : MC l D ta ad yX12_stock cX12_stock 3 (some .int) 3 [.ref (ad 12 0 0), .int p1, .int p2] M (fic M 12 (f12_stock (M 12) p1 p2)) := by
  refine MC.of (fic M 12) (f12_stock (M 12) p1 p2) rfl (by decide) (Nat.le_of_ble_eq_true rfl) (fun p e s m args below meth c cx hr => ?_)
  unfold f12_stock
  refine mw_sub (lv' := [(0, .ref (ad 12 0 0)), (1, .int p1), (2, .int p2)]) [0, 1, 2] rfl ?_
  refine mw_eqM (uW_self M 12) ?_
  refine mw_aload_n cx (q := 1) 0 rfl rfl dX12_stock_0 rfl ?_
  refine mw_iload_n cx (q := 2) 1 rfl rfl dX12_stock_1 rfl ?_
  refine mw_iload_n cx (q := 3) 2 rfl rfl dX12_stock_2 rfl ?_
  refine mw_bnd (fun r1 er1 => ?_)
  refine mw_callV cx (q := 6) (d := 2) (As := [.int p1, .int p2]) (z := fic (uW M 12 (M 12)) 12 r1) (st := []) (st1 := [.int r1.1]) (M' := uW M 12 r1.2) (by rw [er1]; exact mc_X12_stockByMoves l D ta ad (uW M 12 (M 12)) p1 p2 hok) cv_X12_377 rfl rfl rfl vi_12_0 ⟨Nat.le_of_ble_eq_true rfl, Nat.le_of_ble_eq_true rfl⟩ ⟨Nat.le_refl _, Nat.le_refl _⟩ (by simp [Value.category]) rfl rfl (by exact uW_uW _ _ _ _) dX12_stock_3 rfl ?_
  exact mw_iret cx hr rfl dX12_stock_6
def f12_payBack (m : Cm) (p1 : Int32) (p2 : Int32) (p3 : Int32) : (Int32 × Cm) := bnd (f12_isCompany p1) (fun (r1 : Bool) => jn (fun (v2 : Bool) => jn (fun (v8 : Int32) => jn (fun (v11 : Int32) => bnd (f12_goesWell m v11) (fun (r16 : Bool × Cm) => if r16.1 = true then bnd (u3 r16.2 7 0 v8 ((r16.2 7 0 v8) - p3)) (fun (m19 : Cm) => bnd (u3 m19 6 0 p1 ((r16.2 6 0 p1) - p3)) (fun (m21 : Cm) => bnd (u3 m21 6 0 p2 ((m21 6 0 p2) + p3)) (fun (m23 : Cm) => ((m19 7 0 v8), m23)))) else (0, r16.2))) (fun K12 => if v2 = true then if (m 7 0 v8) < p3 then K12 2 else if p3 ≤ (m 6 0 p1) then K12 0 else K12 2 else K12 1)) (fun K9 => if v2 = true then K9 ((4 * p1) + p2) else K9 0)) (fun K3 => if r1 = true then bnd (f12_isCompany p2) (fun (r5 : Bool) => if r5 = true then if p3 < 1 then K3 false else K3 true else K3 false) else K3 false))
set_option maxHeartbeats 4000000 in
set_option maxRecDepth 100000 in
theorem mc_X12_payBack (l : Launch) (D : va_G) (ta : wTa) (ad : wAd) (M : Wm) (p1 : Int32) (p2 : Int32) (p3 : Int32) (hok : Ok12 (M 12)) : MC l D ta ad yX12_payBack cX12_payBack 6 (some .int) 2 [.ref (ad 12 0 0), .int p1, .int p2, .int p3] M (fic M 12 (f12_payBack (M 12) p1 p2 p3)) := by
  refine MC.of (fic M 12) (f12_payBack (M 12) p1 p2 p3) rfl (by decide) (Nat.le_of_ble_eq_true rfl) (fun p e s m args below meth c cx hr => ?_)
  unfold f12_payBack
  refine mw_sub (lv' := [(0, .ref (ad 12 0 0)), (1, .int p1), (2, .int p2), (3, .int p3)]) [0, 1, 2, 3] rfl ?_
  refine mw_eqM (uW_self M 12) ?_
  have ok0 : OkT (M 12) (M 12) := ⟨hok, rfl, rfl⟩
  refine mw_iload_n cx (q := 1) 1 rfl rfl dX12_payBack_0 rfl ?_
  refine mw_bnd (fun r1 er1 => ?_)
  refine mw_callS cx (q := 4) (d := 1) (As := [.int p1]) (z := fzp (uW M 12 (M 12)) r1) (st := []) (st1 := [.int (b2i r1)]) (M' := (uW M 12 (M 12))) (by rw [er1]; exact mc_X12_isCompany l D ta ad (uW M 12 (M 12)) p1) cv_X12_339 ⟨Nat.le_of_ble_eq_true rfl, Nat.le_of_ble_eq_true rfl⟩ ⟨Nat.le_refl _, Nat.le_refl _⟩ (by simp [Value.category]) rfl rfl rfl dX12_payBack_1 rfl ?_
  have qr10 : r1 = true → vp_in p1 4 := (fun hq => isCompany_t (er1.symm.trans hq))
  refine mw_jnP (P := fun (v2 : Bool) => (v2 = true → vp_in p1 4 ∧ vp_in p2 4)) (Mj := fun (v2 : Bool) => (uW M 12 (M 12))) (pj := 24) (lj := fun (v2 : Bool) => [(0, .ref (ad 12 0 0)), (1, .int p1), (2, .int p2), (3, .int p3)]) (sj := fun (v2 : Bool) => [.int (b2i v2)]) (fun v2 jv2 => ?_) (fun K3 hK3 => ?_)
  · have jv2_0 := jv2
    refine mw_istore cx (q := 26) (lv' := [(4, .int (b2i v2)), (0, .ref (ad 12 0 0)), (1, .int p1), (2, .int p2), (3, .int p3)]) rfl (by decide) dX12_payBack_24 rfl ?_
    refine mw_iload cx (q := 28) 0 rfl dX12_payBack_26 rfl ?_
    refine mw_jnP (P := fun (v8 : Int32) => (vp_in v8 16)) (Mj := fun (v8 : Int32) => (uW M 12 (M 12))) (pj := 40) (lj := fun (v8 : Int32) => [(0, .ref (ad 12 0 0)), (1, .int p1), (2, .int p2), (3, .int p3), (4, .int (b2i v2))]) (sj := fun (v8 : Int32) => [.int v8]) (fun v8 jv8 => ?_) (fun K9 hK9 => ?_)
    · have jv8_0 := jv8
      refine mw_istore cx (q := 42) (lv' := [(5, .int v8), (0, .ref (ad 12 0 0)), (1, .int p1), (2, .int p2), (3, .int p3), (4, .int (b2i v2))]) rfl (by decide) dX12_payBack_40 rfl ?_
      refine mw_aload_n cx (q := 43) 1 rfl rfl dX12_payBack_42 rfl ?_
      refine mw_iload cx (q := 45) 5 rfl dX12_payBack_43 rfl ?_
      refine mw_jnP (P := fun (v11 : Int32) => (v11 = 0 → vp_in p1 4 ∧ vp_in p2 4)) (Mj := fun (v11 : Int32) => (uW M 12 (M 12))) (pj := 78) (lj := fun (v11 : Int32) => [(0, .ref (ad 12 0 0)), (1, .int p1), (2, .int p2), (3, .int p3), (5, .int v8)]) (sj := fun (v11 : Int32) => [.int v11, .ref (ad 12 0 0)]) (fun v11 jv11 => ?_) (fun K12 hK12 => ?_)
      · have jv11_0 := jv11
        refine mw_bnd (fun r16 er16 => ?_)
        refine mw_callV cx (q := 81) (d := 0) (As := [.int v11]) (z := fzc (uW M 12 (M 12)) 12 r16) (st := []) (st1 := [.int (b2i r16.1)]) (M' := uW M 12 r16.2) (by rw [er16]; exact mc_X12_goesWell l D ta ad (uW M 12 (M 12)) v11) cv_X12_181 rfl rfl rfl vi_12_0 ⟨Nat.le_of_ble_eq_true rfl, Nat.le_of_ble_eq_true rfl⟩ ⟨Nat.le_refl _, Nat.le_refl _⟩ (by simp [Value.category]) rfl rfl (by exact uW_uW _ _ _ _) dX12_payBack_78 rfl ?_
        have ok17 : OkT (M 12) r16.2 := (by rw [er16]; exact okT_f12_goesWell ok0 v11)
        have qr160 : r16.1 = true → v11 = 0 := (fun hq => goesWell_t ((congrArg Prod.fst er16).symm.trans hq))
        refine mw_ifb_ne cx (tgt := 86) (q := 84) dX12_payBack_81 (by decide) rfl (fun h18 => ?_) (fun h18 => ?_)
        · refine mw_aload_n cx (q := 87) 0 rfl rfl dX12_payBack_86 rfl ?_
          refine mw_get cx (q := 90) (v := .ref (ad 12 7 0)) gf_X12_25 rfl rfl vi_12_0 dX12_payBack_87 rfl ?_
          refine mw_iload cx (q := 92) 4 rfl dX12_payBack_90 rfl ?_
          refine mw_dup2 cx (q := 93) dX12_payBack_92 rfl rfl rfl ?_
          refine mw_iald cx (q := 94) (w := (r16.2 7 0 v8)) rfl (fun _ => rfl) vi_12_7 jv8_0 dX12_payBack_93 rfl ?_
          refine mw_iload_n cx (q := 95) 3 rfl rfl dX12_payBack_94 rfl ?_
          refine mw_isub cx (q := 96) dX12_payBack_95 rfl ?_
          refine mw_iastC cx (q := 97) (fun _ => rfl) (by decide) vi_12_7 jv8_0 (by decide) dX12_payBack_96 rfl (fun m19 em19 => ?_)
          have ok20 : OkT (M 12) m19 := (by rw [em19]; exact okT_putA ok17 (by decide))
          refine mw_aload_n cx (q := 98) 0 rfl rfl dX12_payBack_97 rfl ?_
          refine mw_get cx (q := 101) (v := .ref (ad 12 6 0)) gf_X12_22 rfl rfl vi_12_0 dX12_payBack_98 rfl ?_
          refine mw_iload_n cx (q := 102) 1 rfl rfl dX12_payBack_101 rfl ?_
          refine mw_dup2 cx (q := 103) dX12_payBack_102 rfl rfl rfl ?_
          refine mw_iald cx (q := 104) (w := (r16.2 6 0 p1)) (by rw [em19]; rfl) (fun _ => rfl) vi_12_6 (jv11_0 (qr160 h18)).1 dX12_payBack_103 rfl ?_
          refine mw_iload_n cx (q := 105) 3 rfl rfl dX12_payBack_104 rfl ?_
          refine mw_isub cx (q := 106) dX12_payBack_105 rfl ?_
          refine mw_iastC cx (q := 107) (fun _ => rfl) (by decide) vi_12_6 (jv11_0 (qr160 h18)).1 (by decide) dX12_payBack_106 rfl (fun m21 em21 => ?_)
          have ok22 : OkT (M 12) m21 := (by rw [em21]; exact okT_putA ok20 (by decide))
          refine mw_aload_n cx (q := 108) 0 rfl rfl dX12_payBack_107 rfl ?_
          refine mw_get cx (q := 111) (v := .ref (ad 12 6 0)) gf_X12_22 rfl rfl vi_12_0 dX12_payBack_108 rfl ?_
          refine mw_iload_n cx (q := 112) 2 rfl rfl dX12_payBack_111 rfl ?_
          refine mw_dup2 cx (q := 113) dX12_payBack_112 rfl rfl rfl ?_
          refine mw_iald cx (q := 114) (w := (m21 6 0 p2)) rfl (fun _ => rfl) vi_12_6 (jv11_0 (qr160 h18)).2 dX12_payBack_113 rfl ?_
          refine mw_iload_n cx (q := 115) 3 rfl rfl dX12_payBack_114 rfl ?_
          refine mw_iadd cx (q := 116) dX12_payBack_115 rfl ?_
          refine mw_iastC cx (q := 117) (fun _ => rfl) (by decide) vi_12_6 (jv11_0 (qr160 h18)).2 (by decide) dX12_payBack_116 rfl (fun m23 em23 => ?_)
          have ok24 : OkT (M 12) m23 := (by rw [em23]; exact okT_putA ok22 (by decide))
          refine mw_aload_n cx (q := 118) 0 rfl rfl dX12_payBack_117 rfl ?_
          refine mw_get cx (q := 121) (v := .ref (ad 12 7 0)) gf_X12_25 rfl rfl vi_12_0 dX12_payBack_118 rfl ?_
          refine mw_iload cx (q := 123) 4 rfl dX12_payBack_121 rfl ?_
          refine mw_iald cx (q := 124) (w := (m19 7 0 v8)) (by rw [em23, em21]; rfl) (fun _ => rfl) vi_12_7 jv8_0 dX12_payBack_123 rfl ?_
          exact mw_iret cx hr rfl dX12_payBack_124
        · refine mw_iconst cx (q := 85) (v := 0) dX12_payBack_84 rfl rfl ?_
          exact mw_iret cx hr rfl dX12_payBack_85
      · refine mw_ifb_ne cx (tgt := 52) (q := 48) dX12_payBack_45 (by decide) rfl (fun h13 => ?_) (fun h13 => ?_)
        · refine mw_aload_n cx (q := 53) 1 rfl rfl dX12_payBack_52 rfl ?_
          refine mw_get cx (q := 56) (v := .ref (ad 12 7 0)) gf_X12_25 rfl rfl vi_12_0 dX12_payBack_53 rfl ?_
          refine mw_iload cx (q := 58) 0 rfl dX12_payBack_56 rfl ?_
          refine mw_iald cx (q := 59) (w := ((M 12) 7 0 v8)) rfl (fun _ => rfl) vi_12_7 jv8_0 dX12_payBack_58 rfl ?_
          refine mw_iload_n cx (q := 60) 4 rfl rfl dX12_payBack_59 rfl ?_
          refine mw_icmp_lt cx (tgt := 73) (q := 63) dX12_payBack_60 (by decide) rfl (fun h14 => ?_) (fun h14 => ?_)
          · refine mw_iconst cx (q := 74) (v := 2) dX12_payBack_73 rfl rfl ?_
            refine mw_goto cx (tgt := 78) dX12_payBack_74 (by decide) ?_
            refine mw_sub [1, 2, 3, 4, 0] rfl ?_
            exact hK12 2 (by intro hz; first | exact absurd hz (by decide) | exact ⟨(jv2_0 h13).1, (jv2_0 h13).2⟩)
          · refine mw_aload_n cx (q := 64) 1 rfl rfl dX12_payBack_63 rfl ?_
            refine mw_get cx (q := 67) (v := .ref (ad 12 6 0)) gf_X12_22 rfl rfl vi_12_0 dX12_payBack_64 rfl ?_
            refine mw_iload_n cx (q := 68) 2 rfl rfl dX12_payBack_67 rfl ?_
            refine mw_iald cx (q := 69) (w := ((M 12) 6 0 p1)) rfl (fun _ => rfl) vi_12_6 (jv2_0 h13).1 dX12_payBack_68 rfl ?_
            refine mw_iload_n cx (q := 70) 4 rfl rfl dX12_payBack_69 rfl ?_
            refine mw_icmp_ge cx (tgt := 77) (q := 73) dX12_payBack_70 (by decide) rfl (fun h15 => ?_) (fun h15 => ?_)
            · refine mw_iconst cx (q := 78) (v := 0) dX12_payBack_77 rfl rfl ?_
              refine mw_sub [1, 2, 3, 4, 0] rfl ?_
              exact hK12 0 (by intro hz; first | exact absurd hz (by decide) | exact ⟨(jv2_0 h13).1, (jv2_0 h13).2⟩)
            · refine mw_iconst cx (q := 74) (v := 2) dX12_payBack_73 rfl rfl ?_
              refine mw_goto cx (tgt := 78) dX12_payBack_74 (by decide) ?_
              refine mw_sub [1, 2, 3, 4, 0] rfl ?_
              exact hK12 2 (by intro hz; first | exact absurd hz (by decide) | exact ⟨(jv2_0 h13).1, (jv2_0 h13).2⟩)
        · refine mw_iconst cx (q := 49) (v := 1) dX12_payBack_48 rfl rfl ?_
          refine mw_goto cx (tgt := 78) dX12_payBack_49 (by decide) ?_
          refine mw_sub [1, 2, 3, 4, 0] rfl ?_
          exact hK12 1 (by intro hz; first | exact absurd hz (by decide) | exact ⟨(by (try simp only [vp_in_iff, i32lt, i32le, i32eq, i32add, i32sub, i32mul, i32neg, t32_4] at qr10 jv2_0 h13 ⊢); omega), (by (try simp only [vp_in_iff, i32lt, i32le, i32eq, i32add, i32sub, i32mul, i32neg, t32_4] at jv2_0 h13 qr10 ⊢); omega)⟩)
    · refine mw_ifb_eq cx (tgt := 39) (q := 31) dX12_payBack_28 (by decide) rfl (fun h10 => ?_) (fun h10 => ?_)
      · refine mw_iconst cx (q := 40) (v := 0) dX12_payBack_39 rfl rfl ?_
        refine mw_sub [1, 2, 3, 4, 0] rfl ?_
        exact hK9 0 (vin_lit (by decide))
      · refine mw_iconst cx (q := 32) (v := 4) dX12_payBack_31 rfl rfl ?_
        refine mw_iload_n cx (q := 33) 2 rfl rfl dX12_payBack_32 rfl ?_
        refine mw_imul cx (q := 34) dX12_payBack_33 rfl ?_
        refine mw_iload_n cx (q := 35) 3 rfl rfl dX12_payBack_34 rfl ?_
        refine mw_iadd cx (q := 36) dX12_payBack_35 rfl ?_
        refine mw_goto cx (tgt := 40) dX12_payBack_36 (by decide) ?_
        refine mw_sub [1, 2, 3, 4, 0] rfl ?_
        exact hK9 ((4 * p1) + p2) (idx4_16 (jv2_0 h10).1 (jv2_0 h10).2)
  · refine mw_ifb_eq cx (tgt := 23) (q := 7) dX12_payBack_4 (by decide) rfl (fun h4 => ?_) (fun h4 => ?_)
    · refine mw_iconst cx (q := 24) (v := 0) dX12_payBack_23 rfl rfl ?_
      exact hK3 false (by intro hz; first | exact absurd hz (by decide) | exact ⟨(by (try simp only [vp_in_iff, i32lt, i32le, i32eq, i32add, i32sub, i32mul, i32neg, t32_4] at qr10 h4 hz ⊢); omega), (by (try simp only [vp_in_iff, i32lt, i32le, i32eq, i32add, i32sub, i32mul, i32neg, t32_4]); omega)⟩)
    · refine mw_iload_n cx (q := 8) 2 rfl rfl dX12_payBack_7 rfl ?_
      refine mw_bnd (fun r5 er5 => ?_)
      refine mw_callS cx (q := 11) (d := 1) (As := [.int p2]) (z := fzp (uW M 12 (M 12)) r5) (st := []) (st1 := [.int (b2i r5)]) (M' := (uW M 12 (M 12))) (by rw [er5]; exact mc_X12_isCompany l D ta ad (uW M 12 (M 12)) p2) cv_X12_339 ⟨Nat.le_of_ble_eq_true rfl, Nat.le_of_ble_eq_true rfl⟩ ⟨Nat.le_refl _, Nat.le_refl _⟩ (by simp [Value.category]) rfl rfl rfl dX12_payBack_8 rfl ?_
      have qr50 : r5 = true → vp_in p2 4 := (fun hq => isCompany_t (er5.symm.trans hq))
      refine mw_ifb_eq cx (tgt := 23) (q := 14) dX12_payBack_11 (by decide) rfl (fun h6 => ?_) (fun h6 => ?_)
      · refine mw_iconst cx (q := 24) (v := 0) dX12_payBack_23 rfl rfl ?_
        exact hK3 false (by intro hz; first | exact absurd hz (by decide) | exact ⟨(qr10 h4), (by (try simp only [vp_in_iff, i32lt, i32le, i32eq, i32add, i32sub, i32mul, i32neg, t32_4] at qr50 h6 hz qr10 h4 ⊢); omega)⟩)
      · refine mw_iload_n cx (q := 15) 3 rfl rfl dX12_payBack_14 rfl ?_
        refine mw_iconst cx (q := 16) (v := 1) dX12_payBack_15 rfl rfl ?_
        refine mw_icmp_lt cx (tgt := 23) (q := 19) dX12_payBack_16 (by decide) rfl (fun h7 => ?_) (fun h7 => ?_)
        · refine mw_iconst cx (q := 24) (v := 0) dX12_payBack_23 rfl rfl ?_
          exact hK3 false (by intro hz; first | exact absurd hz (by decide) | exact ⟨(qr10 h4), (qr50 h6)⟩)
        · refine mw_iconst cx (q := 20) (v := 1) dX12_payBack_19 rfl rfl ?_
          refine mw_goto cx (tgt := 24) dX12_payBack_20 (by decide) ?_
          exact hK3 true (by intro hz; first | exact absurd hz (by decide) | exact ⟨(qr10 h4), (qr50 h6)⟩)
def f12_buyFuel_lp35 (p1 : Int32) (v1 : Int32) : Nat → (Int32 × Int32 × Cm) → (Int32 × Cm)
  | 0, x5 => (0, x5.2.2)
  | n6 + 1, x5 => if 4 ≤ x5.1 then (v1, x5.2.2) else bnd ((x5.2.2 7 0 ((4 * p1) + x5.1))) (fun (v8 : Int32) => jn (fun (v9 : Int32) => bnd (u3 x5.2.2 7 0 ((4 * p1) + x5.1) ((x5.2.2 7 0 ((4 * p1) + x5.1)) - v9)) (fun (m12 : Cm) => bnd (u3 m12 6 0 x5.1 ((x5.2.2 6 0 x5.1) + v9)) (fun (m13 : Cm) => bnd (u3 m13 6 0 p1 ((m13 6 0 p1) - v9)) (fun (m14 : Cm) => bnd ((x5.2.1 - v9)) (fun (v15 : Int32) => bnd (x5.1 + 1) (fun (v16 : Int32) => f12_buyFuel_lp35 p1 v1 n6 (v16, v15, m14))))))) (fun K10 => if x5.2.1 ≤ v8 then K10 x5.2.1 else K10 v8))
theorem f12_buyFuel_lp35_s (p1 : Int32) (v1 : Int32) (n6 : Nat) (x5 : Int32 × Int32 × Cm) : f12_buyFuel_lp35 p1 v1 (n6 + 1) x5 = if 4 ≤ x5.1 then (v1, x5.2.2) else bnd ((x5.2.2 7 0 ((4 * p1) + x5.1))) (fun (v8 : Int32) => jn (fun (v9 : Int32) => bnd (u3 x5.2.2 7 0 ((4 * p1) + x5.1) ((x5.2.2 7 0 ((4 * p1) + x5.1)) - v9)) (fun (m12 : Cm) => bnd (u3 m12 6 0 x5.1 ((x5.2.2 6 0 x5.1) + v9)) (fun (m13 : Cm) => bnd (u3 m13 6 0 p1 ((m13 6 0 p1) - v9)) (fun (m14 : Cm) => bnd ((x5.2.1 - v9)) (fun (v15 : Int32) => bnd (x5.1 + 1) (fun (v16 : Int32) => f12_buyFuel_lp35 p1 v1 n6 (v16, v15, m14))))))) (fun K10 => if x5.2.1 ≤ v8 then K10 x5.2.1 else K10 v8)) := rfl
def f12_buyFuel (m : Cm) (p1 : Int32) (p2 : Int32) : (Int32 × Cm) := bnd ((p2 * (m 0 0 9))) (fun (v1 : Int32) => bnd ((v1 / 2)) (fun (v2 : Int32) => bnd (u3 m 5 0 p1 ((m 5 0 p1) - p2)) (fun (m3 : Cm) => bnd (u3 m3 6 0 p1 ((m 6 0 p1) + v1)) (fun (m4 : Cm) => f12_buyFuel_lp35 p1 v1 5 (0, v2, m4)))))
set_option maxHeartbeats 4000000 in
set_option maxRecDepth 100000 in
theorem mc_X12_buyFuel (l : Launch) (D : va_G) (ta : wTa) (ad : wAd) (M : Wm) (p1 : Int32) (p2 : Int32) (hp1 : vp_in p1 4) : MC l D ta ad yX12_buyFuel cX12_buyFuel 8 (some .int) 0 [.ref (ad 12 0 0), .int p1, .int p2] M (fic M 12 (f12_buyFuel (M 12) p1 p2)) := by
  refine MC.of (fic M 12) (f12_buyFuel (M 12) p1 p2) rfl (by decide) (Nat.le_of_ble_eq_true rfl) (fun p e s m args below meth c cx hr => ?_)
  unfold f12_buyFuel
  refine mw_sub (lv' := [(0, .ref (ad 12 0 0)), (1, .int p1), (2, .int p2)]) [0, 1, 2] rfl ?_
  refine mw_eqM (uW_self M 12) ?_
  refine mw_iload_n cx (q := 1) 2 rfl rfl dX12_buyFuel_0 rfl ?_
  refine mw_aload_n cx (q := 2) 0 rfl rfl dX12_buyFuel_1 rfl ?_
  refine mw_get cx (q := 5) (v := .int ((M 12) 0 0 9)) gf_X12_35 rfl rfl vi_12_0 dX12_buyFuel_2 rfl ?_
  refine mw_imul cx (q := 6) dX12_buyFuel_5 rfl ?_
  refine mw_bndT (fun v1 ev1 => ?_)
  refine mw_istore_n cx (q := 7) (lv' := [(3, .int v1), (0, .ref (ad 12 0 0)), (1, .int p1), (2, .int p2)]) rfl rfl (by decide) dX12_buyFuel_6 rfl ?_
  refine mw_iload_n cx (q := 8) 0 rfl rfl dX12_buyFuel_7 rfl ?_
  refine mw_iconst cx (q := 9) (v := 2) dX12_buyFuel_8 rfl rfl ?_
  refine mw_idiv cx (q := 10) dX12_buyFuel_9 rfl (by decide) ?_
  refine mw_bndT (fun v2 ev2 => ?_)
  refine mw_istore cx (q := 12) (lv' := [(4, .int v2), (3, .int v1), (0, .ref (ad 12 0 0)), (1, .int p1), (2, .int p2)]) rfl (by decide) dX12_buyFuel_10 rfl ?_
  refine mw_aload_n cx (q := 13) 2 rfl rfl dX12_buyFuel_12 rfl ?_
  refine mw_get cx (q := 16) (v := .ref (ad 12 5 0)) gf_X12_19 rfl rfl vi_12_0 dX12_buyFuel_13 rfl ?_
  refine mw_iload_n cx (q := 17) 3 rfl rfl dX12_buyFuel_16 rfl ?_
  refine mw_dup2 cx (q := 18) dX12_buyFuel_17 rfl rfl rfl ?_
  refine mw_iald cx (q := 19) (w := ((M 12) 5 0 p1)) rfl (fun _ => rfl) vi_12_5 hp1 dX12_buyFuel_18 rfl ?_
  refine mw_iload_n cx (q := 20) 4 rfl rfl dX12_buyFuel_19 rfl ?_
  refine mw_isub cx (q := 21) dX12_buyFuel_20 rfl ?_
  refine mw_iastC cx (q := 22) (fun _ => rfl) (by decide) vi_12_5 hp1 (by decide) dX12_buyFuel_21 rfl (fun m3 em3 => ?_)
  refine mw_aload_n cx (q := 23) 2 rfl rfl dX12_buyFuel_22 rfl ?_
  refine mw_get cx (q := 26) (v := .ref (ad 12 6 0)) gf_X12_22 rfl rfl vi_12_0 dX12_buyFuel_23 rfl ?_
  refine mw_iload_n cx (q := 27) 3 rfl rfl dX12_buyFuel_26 rfl ?_
  refine mw_dup2 cx (q := 28) dX12_buyFuel_27 rfl rfl rfl ?_
  refine mw_iald cx (q := 29) (w := ((M 12) 6 0 p1)) (by rw [em3]; rfl) (fun _ => rfl) vi_12_6 hp1 dX12_buyFuel_28 rfl ?_
  refine mw_iload_n cx (q := 30) 1 rfl rfl dX12_buyFuel_29 rfl ?_
  refine mw_iadd cx (q := 31) dX12_buyFuel_30 rfl ?_
  refine mw_iastC cx (q := 32) (fun _ => rfl) (by decide) vi_12_6 hp1 (by decide) dX12_buyFuel_31 rfl (fun m4 em4 => ?_)
  refine mw_iconst cx (q := 33) (v := 0) dX12_buyFuel_32 rfl rfl ?_
  refine mw_istore cx (q := 35) (lv' := [(5, .int 0), (4, .int v2), (3, .int v1), (0, .ref (ad 12 0 0)), (1, .int p1), (2, .int p2)]) rfl (by decide) dX12_buyFuel_33 rfl ?_
  refine mw_sub [0, 1, 2, 3, 4] rfl ?_
  refine mw_loop (F := f12_buyFuel_lp35 p1 v1) (I := fun (x5 : Int32 × Int32 × Cm) => 0 ≤ (x5.1).toInt) (μ := fun (x5 : Int32 × Int32 × Cm) => (4 - (x5.1).toInt).toNat) (Mx := fun (x5 : Int32 × Int32 × Cm) => (uW M 12 x5.2.2)) (px := 35) (lx := fun (x5 : Int32 × Int32 × Cm) => [(5, .int x5.1), (4, .int x5.2.1), (3, .int v1), (0, .ref (ad 12 0 0)), (1, .int p1)]) (fun n6 x5 ivx5 ih => ?_) 5 (0, v2, m4) (by (try simp only [vp_in_iff, i32lt, i32le, i32eq, i32add, i32sub, i32mul, i32neg, t32_0]); omega) (by (try simp only [vp_in_iff, i32lt, i32le, i32eq, i32add, i32sub, i32mul, i32neg, t32_0, t32_4, t32_5]); omega)
  have ivx5_0 := ivx5
  refine mw_eqS (f12_buyFuel_lp35_s p1 v1 n6 x5) ?_
  refine mw_iload cx (q := 37) 0 rfl dX12_buyFuel_35 rfl ?_
  refine mw_iconst cx (q := 38) (v := 4) dX12_buyFuel_37 rfl rfl ?_
  refine mw_icmp_ge cx (tgt := 122) (q := 41) dX12_buyFuel_38 (by decide) rfl (fun h7 => ?_) (fun h7 => ?_)
  · refine mw_iload_n cx (q := 123) 2 rfl rfl dX12_buyFuel_122 rfl ?_
    exact mw_iret cx hr rfl dX12_buyFuel_123
  · refine mw_aload_n cx (q := 42) 3 rfl rfl dX12_buyFuel_41 rfl ?_
    refine mw_get cx (q := 45) (v := .ref (ad 12 7 0)) gf_X12_25 rfl rfl vi_12_0 dX12_buyFuel_42 rfl ?_
    refine mw_iconst cx (q := 46) (v := 4) dX12_buyFuel_45 rfl rfl ?_
    refine mw_iload_n cx (q := 47) 4 rfl rfl dX12_buyFuel_46 rfl ?_
    refine mw_imul cx (q := 48) dX12_buyFuel_47 rfl ?_
    refine mw_iload cx (q := 50) 0 rfl dX12_buyFuel_48 rfl ?_
    refine mw_iadd cx (q := 51) dX12_buyFuel_50 rfl ?_
    refine mw_iald cx (q := 52) (w := (x5.2.2 7 0 ((4 * p1) + x5.1))) rfl (fun _ => rfl) vi_12_7 (idx4_16 hp1 (by (try simp only [vp_in_iff, i32lt, i32le, i32eq, i32add, i32sub, i32mul, i32neg, t32_0, t32_4] at ivx5_0 h7 ⊢); omega)) dX12_buyFuel_51 rfl ?_
    refine mw_bndT (fun v8 ev8 => ?_)
    refine mw_istore cx (q := 54) (lv' := [(6, .int v8), (5, .int x5.1), (4, .int x5.2.1), (3, .int v1), (0, .ref (ad 12 0 0)), (1, .int p1)]) rfl (by decide) dX12_buyFuel_52 rfl ?_
    refine mw_iload cx (q := 56) 0 rfl dX12_buyFuel_54 rfl ?_
    refine mw_iload cx (q := 58) 2 rfl dX12_buyFuel_56 rfl ?_
    refine mw_jn (Mj := fun (v9 : Int32) => (uW M 12 x5.2.2)) (pj := 68) (lj := fun (v9 : Int32) => [(0, .ref (ad 12 0 0)), (1, .int p1), (3, .int v1), (4, .int x5.2.1), (5, .int x5.1)]) (sj := fun (v9 : Int32) => [.int v9]) (fun v9 => ?_) (fun K10 hK10 => ?_)
    · refine mw_istore cx (q := 70) (lv' := [(7, .int v9), (0, .ref (ad 12 0 0)), (1, .int p1), (3, .int v1), (4, .int x5.2.1), (5, .int x5.1)]) rfl (by decide) dX12_buyFuel_68 rfl ?_
      refine mw_aload_n cx (q := 71) 1 rfl rfl dX12_buyFuel_70 rfl ?_
      refine mw_get cx (q := 74) (v := .ref (ad 12 7 0)) gf_X12_25 rfl rfl vi_12_0 dX12_buyFuel_71 rfl ?_
      refine mw_iconst cx (q := 75) (v := 4) dX12_buyFuel_74 rfl rfl ?_
      refine mw_iload_n cx (q := 76) 2 rfl rfl dX12_buyFuel_75 rfl ?_
      refine mw_imul cx (q := 77) dX12_buyFuel_76 rfl ?_
      refine mw_iload cx (q := 79) 5 rfl dX12_buyFuel_77 rfl ?_
      refine mw_iadd cx (q := 80) dX12_buyFuel_79 rfl ?_
      refine mw_dup2 cx (q := 81) dX12_buyFuel_80 rfl rfl rfl ?_
      refine mw_iald cx (q := 82) (w := (x5.2.2 7 0 ((4 * p1) + x5.1))) rfl (fun _ => rfl) vi_12_7 (idx4_16 hp1 (by (try simp only [vp_in_iff, i32lt, i32le, i32eq, i32add, i32sub, i32mul, i32neg, t32_0, t32_4, t32_7] at ivx5_0 h7 ev8 hp1 ⊢); omega)) dX12_buyFuel_81 rfl ?_
      refine mw_iload cx (q := 84) 0 rfl dX12_buyFuel_82 rfl ?_
      refine mw_isub cx (q := 85) dX12_buyFuel_84 rfl ?_
      refine mw_iastC cx (q := 86) (fun _ => rfl) (by decide) vi_12_7 (idx4_16 hp1 (by (try simp only [vp_in_iff, i32lt, i32le, i32eq, i32add, i32sub, i32mul, i32neg, t32_0, t32_4, t32_7] at ivx5_0 h7 ev8 hp1 ⊢); omega)) (by decide) dX12_buyFuel_85 rfl (fun m12 em12 => ?_)
      refine mw_aload_n cx (q := 87) 1 rfl rfl dX12_buyFuel_86 rfl ?_
      refine mw_get cx (q := 90) (v := .ref (ad 12 6 0)) gf_X12_22 rfl rfl vi_12_0 dX12_buyFuel_87 rfl ?_
      refine mw_iload cx (q := 92) 5 rfl dX12_buyFuel_90 rfl ?_
      refine mw_dup2 cx (q := 93) dX12_buyFuel_92 rfl rfl rfl ?_
      refine mw_iald cx (q := 94) (w := (x5.2.2 6 0 x5.1)) (by rw [em12]; rfl) (fun _ => rfl) vi_12_6 (by (try simp only [vp_in_iff, i32lt, i32le, i32eq, i32add, i32sub, i32mul, i32neg, t32_0, t32_4, t32_7] at ivx5_0 h7 ev8 hp1 ⊢); omega) dX12_buyFuel_93 rfl ?_
      refine mw_iload cx (q := 96) 0 rfl dX12_buyFuel_94 rfl ?_
      refine mw_iadd cx (q := 97) dX12_buyFuel_96 rfl ?_
      refine mw_iastC cx (q := 98) (fun _ => rfl) (by decide) vi_12_6 (by (try simp only [vp_in_iff, i32lt, i32le, i32eq, i32add, i32sub, i32mul, i32neg, t32_0, t32_4, t32_7] at ivx5_0 h7 ev8 hp1 ⊢); omega) (by decide) dX12_buyFuel_97 rfl (fun m13 em13 => ?_)
      refine mw_aload_n cx (q := 99) 1 rfl rfl dX12_buyFuel_98 rfl ?_
      refine mw_get cx (q := 102) (v := .ref (ad 12 6 0)) gf_X12_22 rfl rfl vi_12_0 dX12_buyFuel_99 rfl ?_
      refine mw_iload_n cx (q := 103) 2 rfl rfl dX12_buyFuel_102 rfl ?_
      refine mw_dup2 cx (q := 104) dX12_buyFuel_103 rfl rfl rfl ?_
      refine mw_iald cx (q := 105) (w := (m13 6 0 p1)) rfl (fun _ => rfl) vi_12_6 hp1 dX12_buyFuel_104 rfl ?_
      refine mw_iload cx (q := 107) 0 rfl dX12_buyFuel_105 rfl ?_
      refine mw_isub cx (q := 108) dX12_buyFuel_107 rfl ?_
      refine mw_iastC cx (q := 109) (fun _ => rfl) (by decide) vi_12_6 hp1 (by decide) dX12_buyFuel_108 rfl (fun m14 em14 => ?_)
      refine mw_iload cx (q := 111) 4 rfl dX12_buyFuel_109 rfl ?_
      refine mw_iload cx (q := 113) 0 rfl dX12_buyFuel_111 rfl ?_
      refine mw_isub cx (q := 114) dX12_buyFuel_113 rfl ?_
      refine mw_bndT (fun v15 ev15 => ?_)
      refine mw_istore cx (q := 116) (lv' := [(4, .int v15), (7, .int v9), (0, .ref (ad 12 0 0)), (1, .int p1), (3, .int v1), (5, .int x5.1)]) rfl (by decide) dX12_buyFuel_114 rfl ?_
      refine mw_bnd (fun v16 ev16 => ?_)
      refine mw_iinc cx (q := 119) (v := v16) (lv' := [(5, .int v16), (4, .int v15), (7, .int v9), (0, .ref (ad 12 0 0)), (1, .int p1), (3, .int v1)]) 5 rfl (by rw [ev16]; rfl) rfl (by decide) dX12_buyFuel_116 rfl ?_
      refine mw_goto cx (tgt := 35) dX12_buyFuel_119 (by decide) ?_
      refine mw_sub [0, 1, 5, 3, 4] rfl ?_
      exact ih (v16, v15, m14) (by (try simp only [vp_in_iff, i32lt, i32le, i32eq, i32add, i32sub, i32mul, i32neg, t32_0, t32_1, t32_4, t32_7] at ev16 ivx5_0 h7 ev8 hp1 ⊢); omega) (by (try simp only [vp_in_iff, i32lt, i32le, i32eq, i32add, i32sub, i32mul, i32neg, t32_0, t32_1, t32_4, t32_7] at ivx5_0 h7 ev8 ev16 hp1 ⊢); omega)
    · refine mw_icmp_ge cx (tgt := 66) (q := 61) dX12_buyFuel_58 (by decide) rfl (fun h11 => ?_) (fun h11 => ?_)
      · refine mw_iload cx (q := 68) 2 rfl dX12_buyFuel_66 rfl ?_
        refine mw_sub [4, 5, 3, 2, 1] rfl ?_
        exact hK10 x5.2.1
      · refine mw_iload cx (q := 63) 0 rfl dX12_buyFuel_61 rfl ?_
        refine mw_goto cx (tgt := 68) dX12_buyFuel_63 (by decide) ?_
        refine mw_sub [4, 5, 3, 2, 1] rfl ?_
        exact hK10 v8
theorem okT_f12_buyFuel_lp {m0 : Cm} (a v : Int32) : ∀ (k : Nat) (x : Int32 × Int32 × Cm), OkT m0 x.2.2 → OkR m0 (f12_buyFuel_lp35 a v k x) := by
  intro k
  induction k with
  | zero => intro x hx; exact hx
  | succ k ih =>
    intro x hx
    rw [f12_buyFuel_lp35_s]
    by_cases c : 4 ≤ x.1
    · rw [if_pos c]; exact hx
    · rw [if_neg c]
      refine bnd_I (P := OkR m0) (fun v8 _ => jn_I (P := OkR m0) (fun K hK => ?_) (fun v9 => bnd_I (P := OkR m0) (fun m1 e1 => bnd_I (P := OkR m0) (fun m2 e2 => bnd_I (P := OkR m0) (fun m3 e3 => bnd_I (P := OkR m0) (fun v15 _ => bnd_I (P := OkR m0) (fun v16 _ => ?_)))))))
      · split <;> exact hK _
      · refine ih _ ?_
        show OkT m0 m3
        rw [e3, e2, e1]
        exact okT_putA (okT_putA (okT_putA hx (by decide)) (by decide)) (by decide)
theorem okT_f12_buyFuel {m0 m : Cm} (h : OkT m0 m) (a b : Int32) : OkR m0 (f12_buyFuel m a b) := by
  unfold f12_buyFuel
  refine bnd_I (P := OkR m0) (fun v1 _ => bnd_I (P := OkR m0) (fun v2 _ => bnd_I (P := OkR m0) (fun m3 e3 => bnd_I (P := OkR m0) (fun m4 e4 => ?_))))
  refine okT_f12_buyFuel_lp _ _ _ _ ?_
  show OkT m0 m4
  rw [e4, e3]; exact okT_putA (okT_putA h (by decide)) (by decide)
def f12_lenderOf_lp2 (m : Cm) (p1 : Int32) : Nat → Int32 → Int32
  | 0, x1 => 0
  | n2 + 1, x1 => if 4 ≤ x1 then (-1) else jn (fun (v4 : Bool) => if v4 = true then if (m 8 0 ((4 * x1) + p1)) ≤ (m 7 0 ((4 * p1) + x1)) then bnd (x1 + 1) (fun (v11 : Int32) => f12_lenderOf_lp2 m p1 n2 v11) else x1 else bnd (x1 + 1) (fun (v9 : Int32) => f12_lenderOf_lp2 m p1 n2 v9)) (fun K5 => if x1 = p1 then K5 false else if (m 6 0 x1) ≤ 0 then K5 false else K5 true)
theorem f12_lenderOf_lp2_s (m : Cm) (p1 : Int32) (n2 : Nat) (x1 : Int32) : f12_lenderOf_lp2 m p1 (n2 + 1) x1 = if 4 ≤ x1 then (-1) else jn (fun (v4 : Bool) => if v4 = true then if (m 8 0 ((4 * x1) + p1)) ≤ (m 7 0 ((4 * p1) + x1)) then bnd (x1 + 1) (fun (v11 : Int32) => f12_lenderOf_lp2 m p1 n2 v11) else x1 else bnd (x1 + 1) (fun (v9 : Int32) => f12_lenderOf_lp2 m p1 n2 v9)) (fun K5 => if x1 = p1 then K5 false else if (m 6 0 x1) ≤ 0 then K5 false else K5 true) := rfl
def f12_lenderOf (m : Cm) (p1 : Int32) : Int32 := f12_lenderOf_lp2 m p1 5 0
set_option maxHeartbeats 4000000 in
set_option maxRecDepth 100000 in
theorem mc_X12_lenderOf (l : Launch) (D : va_G) (ta : wTa) (ad : wAd) (M : Wm) (p1 : Int32) (hp1 : vp_in p1 4) : MC l D ta ad yX12_lenderOf cX12_lenderOf 4 (some .int) 0 [.ref (ad 12 0 0), .int p1] M (fip M (f12_lenderOf (M 12) p1)) := by
  refine MC.of (fip M) (f12_lenderOf (M 12) p1) rfl (by decide) (Nat.le_of_ble_eq_true rfl) (fun p e s m args below meth c cx hr => ?_)
  unfold f12_lenderOf
  refine mw_sub (lv' := [(0, .ref (ad 12 0 0)), (1, .int p1)]) [0, 1] rfl ?_
  refine mw_iconst cx (q := 1) (v := 0) dX12_lenderOf_0 rfl rfl ?_
  refine mw_istore_n cx (q := 2) (lv' := [(2, .int 0), (0, .ref (ad 12 0 0)), (1, .int p1)]) rfl rfl (by decide) dX12_lenderOf_1 rfl ?_
  refine mw_loop (F := f12_lenderOf_lp2 (M 12) p1) (I := fun (x1 : Int32) => 0 ≤ (x1).toInt) (μ := fun (x1 : Int32) => (4 - (x1).toInt).toNat) (Mx := fun (x1 : Int32) => M) (px := 2) (lx := fun (x1 : Int32) => [(2, .int x1), (0, .ref (ad 12 0 0)), (1, .int p1)]) (fun n2 x1 ivx1 ih => ?_) 5 0 (by (try simp only [vp_in_iff, i32lt, i32le, i32eq, i32add, i32sub, i32mul, i32neg, t32_0]); omega) (by (try simp only [vp_in_iff, i32lt, i32le, i32eq, i32add, i32sub, i32mul, i32neg, t32_0, t32_4, t32_5]); omega)
  have ivx1_0 := ivx1
  refine mw_eqS (f12_lenderOf_lp2_s (M 12) p1 n2 x1) ?_
  refine mw_iload_n cx (q := 3) 0 rfl rfl dX12_lenderOf_2 rfl ?_
  refine mw_iconst cx (q := 4) (v := 4) dX12_lenderOf_3 rfl rfl ?_
  refine mw_icmp_ge cx (tgt := 62) (q := 7) dX12_lenderOf_4 (by decide) rfl (fun h3 => ?_) (fun h3 => ?_)
  · refine mw_iconst cx (q := 63) (v := (-1)) dX12_lenderOf_62 rfl rfl ?_
    exact mw_iret cx hr rfl dX12_lenderOf_63
  · refine mw_iload_n cx (q := 8) 0 rfl rfl dX12_lenderOf_7 rfl ?_
    refine mw_iload_n cx (q := 9) 2 rfl rfl dX12_lenderOf_8 rfl ?_
    refine mw_jn (Mj := fun (v4 : Bool) => M) (pj := 26) (lj := fun (v4 : Bool) => [(0, .ref (ad 12 0 0)), (1, .int p1), (2, .int x1)]) (sj := fun (v4 : Bool) => [.int (b2i v4)]) (fun v4 => ?_) (fun K5 hK5 => ?_)
    · refine mw_istore_n cx (q := 27) (lv' := [(3, .int (b2i v4)), (0, .ref (ad 12 0 0)), (1, .int p1), (2, .int x1)]) rfl rfl (by decide) dX12_lenderOf_26 rfl ?_
      refine mw_iload_n cx (q := 28) 0 rfl rfl dX12_lenderOf_27 rfl ?_
      refine mw_ifb_eq cx (tgt := 56) (q := 31) dX12_lenderOf_28 (by decide) rfl (fun h8 => ?_) (fun h8 => ?_)
      · refine mw_bnd (fun v9 ev9 => ?_)
        refine mw_iinc cx (q := 59) (v := v9) (lv' := [(2, .int v9), (3, .int (b2i v4)), (0, .ref (ad 12 0 0)), (1, .int p1)]) 3 rfl (by rw [ev9]; rfl) rfl (by decide) dX12_lenderOf_56 rfl ?_
        refine mw_goto cx (tgt := 2) dX12_lenderOf_59 (by decide) ?_
        refine mw_sub [0, 2, 3] rfl ?_
        exact ih v9 (by (try simp only [vp_in_iff, i32lt, i32le, i32eq, i32add, i32sub, i32mul, i32neg, t32_0, t32_1, t32_4] at ev9 ivx1_0 h3 ⊢); omega) (by (try simp only [vp_in_iff, i32lt, i32le, i32eq, i32add, i32sub, i32mul, i32neg, t32_0, t32_1, t32_4] at ivx1_0 h3 ev9 ⊢); omega)
      · refine mw_aload_n cx (q := 32) 1 rfl rfl dX12_lenderOf_31 rfl ?_
        refine mw_get cx (q := 35) (v := .ref (ad 12 8 0)) gf_X12_28 rfl rfl vi_12_0 dX12_lenderOf_32 rfl ?_
        refine mw_iconst cx (q := 36) (v := 4) dX12_lenderOf_35 rfl rfl ?_
        refine mw_iload_n cx (q := 37) 3 rfl rfl dX12_lenderOf_36 rfl ?_
        refine mw_imul cx (q := 38) dX12_lenderOf_37 rfl ?_
        refine mw_iload_n cx (q := 39) 2 rfl rfl dX12_lenderOf_38 rfl ?_
        refine mw_iadd cx (q := 40) dX12_lenderOf_39 rfl ?_
        refine mw_iald cx (q := 41) (w := ((M 12) 8 0 ((4 * x1) + p1))) rfl (fun _ => rfl) vi_12_8 (idx4_16 (by (try simp only [vp_in_iff, i32lt, i32le, i32eq, i32add, i32sub, i32mul, i32neg, t32_0, t32_4] at ivx1_0 h3 ⊢); omega) hp1) dX12_lenderOf_40 rfl ?_
        refine mw_aload_n cx (q := 42) 1 rfl rfl dX12_lenderOf_41 rfl ?_
        refine mw_get cx (q := 45) (v := .ref (ad 12 7 0)) gf_X12_25 rfl rfl vi_12_0 dX12_lenderOf_42 rfl ?_
        refine mw_iconst cx (q := 46) (v := 4) dX12_lenderOf_45 rfl rfl ?_
        refine mw_iload_n cx (q := 47) 2 rfl rfl dX12_lenderOf_46 rfl ?_
        refine mw_imul cx (q := 48) dX12_lenderOf_47 rfl ?_
        refine mw_iload_n cx (q := 49) 3 rfl rfl dX12_lenderOf_48 rfl ?_
        refine mw_iadd cx (q := 50) dX12_lenderOf_49 rfl ?_
        refine mw_iald cx (q := 51) (w := ((M 12) 7 0 ((4 * p1) + x1))) rfl (fun _ => rfl) vi_12_7 (idx4_16 hp1 (by (try simp only [vp_in_iff, i32lt, i32le, i32eq, i32add, i32sub, i32mul, i32neg, t32_0, t32_4] at ivx1_0 h3 ⊢); omega)) dX12_lenderOf_50 rfl ?_
        refine mw_icmp_le cx (tgt := 56) (q := 54) dX12_lenderOf_51 (by decide) rfl (fun h10 => ?_) (fun h10 => ?_)
        · refine mw_bnd (fun v11 ev11 => ?_)
          refine mw_iinc cx (q := 59) (v := v11) (lv' := [(2, .int v11), (3, .int (b2i v4)), (0, .ref (ad 12 0 0)), (1, .int p1)]) 3 rfl (by rw [ev11]; rfl) rfl (by decide) dX12_lenderOf_56 rfl ?_
          refine mw_goto cx (tgt := 2) dX12_lenderOf_59 (by decide) ?_
          refine mw_sub [0, 2, 3] rfl ?_
          exact ih v11 (by (try simp only [vp_in_iff, i32lt, i32le, i32eq, i32add, i32sub, i32mul, i32neg, t32_0, t32_1, t32_4, t32_7, t32_8] at ev11 ivx1_0 h3 h10 hp1 ⊢); omega) (by (try simp only [vp_in_iff, i32lt, i32le, i32eq, i32add, i32sub, i32mul, i32neg, t32_0, t32_1, t32_4, t32_7, t32_8] at ivx1_0 h3 h10 ev11 hp1 ⊢); omega)
        · refine mw_iload_n cx (q := 55) 3 rfl rfl dX12_lenderOf_54 rfl ?_
          exact mw_iret cx hr rfl dX12_lenderOf_55
    · refine mw_icmp_eq cx (tgt := 25) (q := 12) dX12_lenderOf_9 (by decide) rfl (fun h6 => ?_) (fun h6 => ?_)
      · refine mw_iconst cx (q := 26) (v := 0) dX12_lenderOf_25 rfl rfl ?_
        refine mw_sub [1, 2, 0] rfl ?_
        exact hK5 false
      · refine mw_aload_n cx (q := 13) 1 rfl rfl dX12_lenderOf_12 rfl ?_
        refine mw_get cx (q := 16) (v := .ref (ad 12 6 0)) gf_X12_22 rfl rfl vi_12_0 dX12_lenderOf_13 rfl ?_
        refine mw_iload_n cx (q := 17) 0 rfl rfl dX12_lenderOf_16 rfl ?_
        refine mw_iald cx (q := 18) (w := ((M 12) 6 0 x1)) rfl (fun _ => rfl) vi_12_6 (by (try simp only [vp_in_iff, i32lt, i32le, i32eq, i32add, i32sub, i32mul, i32neg, t32_0, t32_4] at ivx1_0 h3 h6 hp1 ⊢); omega) dX12_lenderOf_17 rfl ?_
        refine mw_if_le cx (tgt := 25) (q := 21) dX12_lenderOf_18 (by decide) rfl (fun h7 => ?_) (fun h7 => ?_)
        · refine mw_iconst cx (q := 26) (v := 0) dX12_lenderOf_25 rfl rfl ?_
          refine mw_sub [1, 2, 0] rfl ?_
          exact hK5 false
        · refine mw_iconst cx (q := 22) (v := 1) dX12_lenderOf_21 rfl rfl ?_
          refine mw_goto cx (tgt := 26) dX12_lenderOf_22 (by decide) ?_
          refine mw_sub [1, 2, 0] rfl ?_
          exact hK5 true
def f12_finish (m : Cm) (p1 : Int32) : Cm := bnd (u3 m 0 0 62 p1) (fun (m1 : Cm) => bnd (u3 m1 0 0 45 ((m 0 0 45) - 1)) (fun (m2 : Cm) => m2))
set_option maxHeartbeats 4000000 in
set_option maxRecDepth 100000 in
theorem mc_X12_finish (l : Launch) (D : va_G) (ta : wTa) (ad : wAd) (M : Wm) (p1 : Int32) : MC l D ta ad yX12_finish cX12_finish 2 none 0 [.ref (ad 12 0 0), .int p1] M (fvc M 12 (f12_finish (M 12) p1)) := by
  refine MC.of (fvc M 12) (f12_finish (M 12) p1) rfl (by decide) (Nat.le_of_ble_eq_true rfl) (fun p e s m args below meth c cx hr => ?_)
  unfold f12_finish
  refine mw_sub (lv' := [(0, .ref (ad 12 0 0)), (1, .int p1)]) [0, 1] rfl ?_
  refine mw_eqM (uW_self M 12) ?_
  refine mw_aload_n cx (q := 1) 0 rfl rfl dX12_finish_0 rfl ?_
  refine mw_iload_n cx (q := 2) 1 rfl rfl dX12_finish_1 rfl ?_
  refine mw_putC cx (q := 5) 62 gf_X12_232 pf_X12_62 (int_fit _) rfl (Nat.le_of_ble_eq_true rfl) rfl vi_12_0 (by decide) dX12_finish_2 rfl (fun m1 em1 => ?_)
  refine mw_aload_n cx (q := 6) 0 rfl rfl dX12_finish_5 rfl ?_
  refine mw_dup cx (q := 7) dX12_finish_6 rfl rfl ?_
  refine mw_get cx (q := 10) (v := .int ((M 12) 0 0 45)) gf_X12_235 rfl (by rw [em1]; rfl) vi_12_0 dX12_finish_7 rfl ?_
  refine mw_iconst cx (q := 11) (v := 1) dX12_finish_10 rfl rfl ?_
  refine mw_isub cx (q := 12) dX12_finish_11 rfl ?_
  refine mw_putC cx (q := 15) 45 gf_X12_235 pf_X12_45 (int_fit _) rfl (Nat.le_of_ble_eq_true rfl) rfl vi_12_0 (by decide) dX12_finish_12 rfl (fun m2 em2 => ?_)
  exact mw_vret cx hr rfl dX12_finish_15
def f12_valueNext (m : Cm) (p1 : Int32) (p2 : Int32) : Cm := bnd (u3 m 34 0 p1 p2) (fun (m1 : Cm) => bnd (u3 m1 0 0 59 1) (fun (m2 : Cm) => bnd (u3 m2 0 0 60 (m 31 0 p1)) (fun (m3 : Cm) => bnd (u3 m3 0 0 61 p2) (fun (m4 : Cm) => m4))))
set_option maxHeartbeats 4000000 in
set_option maxRecDepth 100000 in
theorem mc_X12_valueNext (l : Launch) (D : va_G) (ta : wTa) (ad : wAd) (M : Wm) (p1 : Int32) (p2 : Int32) (hp1 : vp_in p1 32) : MC l D ta ad yX12_valueNext cX12_valueNext 3 none 0 [.ref (ad 12 0 0), .int p1, .int p2] M (fvc M 12 (f12_valueNext (M 12) p1 p2)) := by
  refine MC.of (fvc M 12) (f12_valueNext (M 12) p1 p2) rfl (by decide) (Nat.le_of_ble_eq_true rfl) (fun p e s m args below meth c cx hr => ?_)
  unfold f12_valueNext
  refine mw_sub (lv' := [(0, .ref (ad 12 0 0)), (1, .int p1), (2, .int p2)]) [0, 1, 2] rfl ?_
  refine mw_eqM (uW_self M 12) ?_
  refine mw_aload_n cx (q := 1) 0 rfl rfl dX12_valueNext_0 rfl ?_
  refine mw_get cx (q := 4) (v := .ref (ad 12 34 0)) gf_X12_107 rfl rfl vi_12_0 dX12_valueNext_1 rfl ?_
  refine mw_iload_n cx (q := 5) 1 rfl rfl dX12_valueNext_4 rfl ?_
  refine mw_iload_n cx (q := 6) 2 rfl rfl dX12_valueNext_5 rfl ?_
  refine mw_iastC cx (q := 7) (fun _ => rfl) (by decide) vi_12_34 hp1 (by decide) dX12_valueNext_6 rfl (fun m1 em1 => ?_)
  refine mw_aload_n cx (q := 8) 0 rfl rfl dX12_valueNext_7 rfl ?_
  refine mw_iconst cx (q := 9) (v := 1) dX12_valueNext_8 rfl rfl ?_
  refine mw_putC cx (q := 12) 59 gf_X12_238 pf_X12_59 (by exact ⟨rfl, rfl⟩) rfl (Nat.le_of_ble_eq_true rfl) rfl vi_12_0 (by decide) dX12_valueNext_9 rfl (fun m2 em2 => ?_)
  refine mw_aload_n cx (q := 13) 0 rfl rfl dX12_valueNext_12 rfl ?_
  refine mw_aload_n cx (q := 14) 0 rfl rfl dX12_valueNext_13 rfl ?_
  refine mw_get cx (q := 17) (v := .ref (ad 12 31 0)) gf_X12_98 rfl rfl vi_12_0 dX12_valueNext_14 rfl ?_
  refine mw_iload_n cx (q := 18) 1 rfl rfl dX12_valueNext_17 rfl ?_
  refine mw_iald cx (q := 19) (w := ((M 12) 31 0 p1)) (by rw [em2, em1]; rfl) (fun _ => rfl) vi_12_31 hp1 dX12_valueNext_18 rfl ?_
  refine mw_putC cx (q := 22) 60 gf_X12_242 pf_X12_60 (int_fit _) rfl (Nat.le_of_ble_eq_true rfl) rfl vi_12_0 (by decide) dX12_valueNext_19 rfl (fun m3 em3 => ?_)
  refine mw_aload_n cx (q := 23) 0 rfl rfl dX12_valueNext_22 rfl ?_
  refine mw_iload_n cx (q := 24) 2 rfl rfl dX12_valueNext_23 rfl ?_
  refine mw_putC cx (q := 27) 61 gf_X12_245 pf_X12_61 (int_fit _) rfl (Nat.le_of_ble_eq_true rfl) rfl vi_12_0 (by decide) dX12_valueNext_24 rfl (fun m4 em4 => ?_)
  exact mw_vret cx hr rfl dX12_valueNext_27
def f12_bindingOf_lp7 (m : Cm) (p1 : Int32) : Nat → (Int32 × Int32) → Int32
  | 0, x2 => 0
  | n3 + 1, x2 => if (m 0 0 49) ≤ x2.1 then x2.2 else jn (fun (v5 : Int32) => bnd (x2.1 + 1) (fun (v8 : Int32) => f12_bindingOf_lp7 m p1 n3 (v8, v5))) (fun K6 => if (m 47 0 x2.1) = p1 then K6 x2.1 else K6 x2.2)
theorem f12_bindingOf_lp7_s (m : Cm) (p1 : Int32) (n3 : Nat) (x2 : Int32 × Int32) : f12_bindingOf_lp7 m p1 (n3 + 1) x2 = if (m 0 0 49) ≤ x2.1 then x2.2 else jn (fun (v5 : Int32) => bnd (x2.1 + 1) (fun (v8 : Int32) => f12_bindingOf_lp7 m p1 n3 (v8, v5))) (fun K6 => if (m 47 0 x2.1) = p1 then K6 x2.1 else K6 x2.2) := rfl
def f12_bindingOf (m : Cm) (p1 : Int32) : Int32 := bnd ((m 0 0 48)) (fun (v1 : Int32) => f12_bindingOf_lp7 m p1 102 (v1, (-1)))
set_option maxHeartbeats 4000000 in
set_option maxRecDepth 100000 in
theorem mc_X12_bindingOf (l : Launch) (D : va_G) (ta : wTa) (ad : wAd) (M : Wm) (p1 : Int32) (hok : Ok12 (M 12)) : MC l D ta ad yX12_bindingOf cX12_bindingOf 4 (some .int) 0 [.ref (ad 12 0 0), .int p1] M (fip M (f12_bindingOf (M 12) p1)) := by
  refine MC.of (fip M) (f12_bindingOf (M 12) p1) rfl (by decide) (Nat.le_of_ble_eq_true rfl) (fun p e s m args below meth c cx hr => ?_)
  unfold f12_bindingOf
  refine mw_sub (lv' := [(0, .ref (ad 12 0 0)), (1, .int p1)]) [0, 1] rfl ?_
  have u_b0 : 0 ≤ ((M 12) 0 0 48).toInt := hok.b0
  have u_t1 : ((M 12) 0 0 49).toInt ≤ 100 := hok.t1
  refine mw_iconst cx (q := 1) (v := (-1)) dX12_bindingOf_0 rfl rfl ?_
  refine mw_istore_n cx (q := 2) (lv' := [(2, .int (-1)), (0, .ref (ad 12 0 0)), (1, .int p1)]) rfl rfl (by decide) dX12_bindingOf_1 rfl ?_
  refine mw_aload_n cx (q := 3) 1 rfl rfl dX12_bindingOf_2 rfl ?_
  refine mw_get cx (q := 6) (v := .int ((M 12) 0 0 48)) gf_X12_248 rfl rfl vi_12_0 dX12_bindingOf_3 rfl ?_
  refine mw_bndT (fun v1 ev1 => ?_)
  refine mw_istore_n cx (q := 7) (lv' := [(3, .int v1), (2, .int (-1)), (0, .ref (ad 12 0 0)), (1, .int p1)]) rfl rfl (by decide) dX12_bindingOf_6 rfl ?_
  refine mw_loop (F := f12_bindingOf_lp7 (M 12) p1) (I := fun (x2 : Int32 × Int32) => 0 ≤ (x2.1).toInt) (μ := fun (x2 : Int32 × Int32) => (101 - (x2.1).toInt).toNat) (Mx := fun (x2 : Int32 × Int32) => M) (px := 7) (lx := fun (x2 : Int32 × Int32) => [(3, .int x2.1), (2, .int x2.2), (0, .ref (ad 12 0 0)), (1, .int p1)]) (fun n3 x2 ivx2 ih => ?_) 102 (v1, (-1)) (by (try simp only [vp_in_iff, i32lt, i32le, i32eq, i32add, i32sub, i32mul, i32neg, t32_0, t32_48] at ev1 u_b0 ⊢); omega) (by (try simp only [vp_in_iff, i32lt, i32le, i32eq, i32add, i32sub, i32mul, i32neg, t32_0, t32_48] at ev1 u_b0 ⊢); omega)
  have ivx2_0 := ivx2
  refine mw_eqS (f12_bindingOf_lp7_s (M 12) p1 n3 x2) ?_
  refine mw_iload_n cx (q := 8) 0 rfl rfl dX12_bindingOf_7 rfl ?_
  refine mw_aload_n cx (q := 9) 2 rfl rfl dX12_bindingOf_8 rfl ?_
  refine mw_get cx (q := 12) (v := .int ((M 12) 0 0 49)) gf_X12_251 rfl rfl vi_12_0 dX12_bindingOf_9 rfl ?_
  refine mw_icmp_ge cx (tgt := 37) (q := 15) dX12_bindingOf_12 (by decide) rfl (fun h4 => ?_) (fun h4 => ?_)
  · refine mw_iload_n cx (q := 38) 1 rfl rfl dX12_bindingOf_37 rfl ?_
    exact mw_iret cx hr rfl dX12_bindingOf_38
  · refine mw_aload_n cx (q := 16) 2 rfl rfl dX12_bindingOf_15 rfl ?_
    refine mw_get cx (q := 19) (v := .ref (ad 12 47 0)) gf_X12_143 rfl rfl vi_12_0 dX12_bindingOf_16 rfl ?_
    refine mw_iload_n cx (q := 20) 0 rfl rfl dX12_bindingOf_19 rfl ?_
    refine mw_iald cx (q := 21) (w := ((M 12) 47 0 x2.1)) rfl (fun _ => rfl) vi_12_47 (by (try simp only [vp_in_iff, i32lt, i32le, i32eq, i32add, i32sub, i32mul, i32neg, t32_0, t32_49, t32_100] at ivx2_0 h4 u_t1 ⊢); omega) dX12_bindingOf_20 rfl ?_
    refine mw_iload_n cx (q := 22) 3 rfl rfl dX12_bindingOf_21 rfl ?_
    refine mw_jn (Mj := fun (v5 : Int32) => M) (pj := 30) (lj := fun (v5 : Int32) => [(0, .ref (ad 12 0 0)), (1, .int p1), (3, .int x2.1)]) (sj := fun (v5 : Int32) => [.int v5]) (fun v5 => ?_) (fun K6 hK6 => ?_)
    · refine mw_istore_n cx (q := 31) (lv' := [(2, .int v5), (0, .ref (ad 12 0 0)), (1, .int p1), (3, .int x2.1)]) rfl rfl (by decide) dX12_bindingOf_30 rfl ?_
      refine mw_bnd (fun v8 ev8 => ?_)
      refine mw_iinc cx (q := 34) (v := v8) (lv' := [(3, .int v8), (2, .int v5), (0, .ref (ad 12 0 0)), (1, .int p1)]) 3 rfl (by rw [ev8]; rfl) rfl (by decide) dX12_bindingOf_31 rfl ?_
      refine mw_goto cx (tgt := 7) dX12_bindingOf_34 (by decide) ?_
      exact ih (v8, v5) (by (try simp only [vp_in_iff, i32lt, i32le, i32eq, i32add, i32sub, i32mul, i32neg, t32_0, t32_1, t32_49, t32_100] at ev8 ivx2_0 h4 u_t1 ⊢); omega) (by (try simp only [vp_in_iff, i32lt, i32le, i32eq, i32add, i32sub, i32mul, i32neg, t32_0, t32_1, t32_49, t32_100] at ivx2_0 h4 ev8 u_t1 ⊢); omega)
    · refine mw_icmp_ne cx (tgt := 29) (q := 25) dX12_bindingOf_22 (by decide) rfl (fun h7 => ?_) (fun h7 => ?_)
      · refine mw_iload_n cx (q := 30) 1 rfl rfl dX12_bindingOf_29 rfl ?_
        refine mw_sub [2, 3, 0] rfl ?_
        exact hK6 x2.2
      · refine mw_iload_n cx (q := 26) 0 rfl rfl dX12_bindingOf_25 rfl ?_
        refine mw_goto cx (tgt := 30) dX12_bindingOf_26 (by decide) ?_
        refine mw_sub [2, 3, 0] rfl ?_
        exact hK6 x2.1
def f12_bind (m : Cm) (p1 : Int32) (p2 : Int32) : Cm := bnd (u3 m 47 0 (m 0 0 49) p1) (fun (m1 : Cm) => bnd (u3 m1 48 0 (m 0 0 49) p2) (fun (m2 : Cm) => bnd (u3 m2 0 0 49 ((m 0 0 49) + 1)) (fun (m3 : Cm) => m3)))
set_option maxHeartbeats 4000000 in
set_option maxRecDepth 100000 in
theorem mc_X12_bind (l : Launch) (D : va_G) (ta : wTa) (ad : wAd) (M : Wm) (p1 : Int32) (p2 : Int32) (hok : Ok12 (M 12)) (ht : ((M 12) 0 0 49).toInt < 100) : MC l D ta ad yX12_bind cX12_bind 3 none 0 [.ref (ad 12 0 0), .int p1, .int p2] M (fvc M 12 (f12_bind (M 12) p1 p2)) := by
  refine MC.of (fvc M 12) (f12_bind (M 12) p1 p2) rfl (by decide) (Nat.le_of_ble_eq_true rfl) (fun p e s m args below meth c cx hr => ?_)
  unfold f12_bind
  refine mw_sub (lv' := [(0, .ref (ad 12 0 0)), (1, .int p1), (2, .int p2)]) [0, 1, 2] rfl ?_
  refine mw_eqM (uW_self M 12) ?_
  have u_t0 : 0 ≤ ((M 12) 0 0 49).toInt := hok.t0
  refine mw_aload_n cx (q := 1) 0 rfl rfl dX12_bind_0 rfl ?_
  refine mw_get cx (q := 4) (v := .ref (ad 12 47 0)) gf_X12_143 rfl rfl vi_12_0 dX12_bind_1 rfl ?_
  refine mw_aload_n cx (q := 5) 0 rfl rfl dX12_bind_4 rfl ?_
  refine mw_get cx (q := 8) (v := .int ((M 12) 0 0 49)) gf_X12_251 rfl rfl vi_12_0 dX12_bind_5 rfl ?_
  refine mw_iload_n cx (q := 9) 1 rfl rfl dX12_bind_8 rfl ?_
  refine mw_iastC cx (q := 10) (fun _ => rfl) (by decide) vi_12_47 (by (try simp only [vp_in_iff, i32lt, i32le, i32eq, i32add, i32sub, i32mul, i32neg, t32_0, t32_49, t32_100] at ht u_t0 ⊢); omega) (by decide) dX12_bind_9 rfl (fun m1 em1 => ?_)
  refine mw_aload_n cx (q := 11) 0 rfl rfl dX12_bind_10 rfl ?_
  refine mw_get cx (q := 14) (v := .ref (ad 12 48 0)) gf_X12_146 rfl rfl vi_12_0 dX12_bind_11 rfl ?_
  refine mw_aload_n cx (q := 15) 0 rfl rfl dX12_bind_14 rfl ?_
  refine mw_get cx (q := 18) (v := .int ((M 12) 0 0 49)) gf_X12_251 rfl (by rw [em1]; rfl) vi_12_0 dX12_bind_15 rfl ?_
  refine mw_iload_n cx (q := 19) 2 rfl rfl dX12_bind_18 rfl ?_
  refine mw_iastC cx (q := 20) (fun _ => rfl) (by decide) vi_12_48 (by (try simp only [vp_in_iff, i32lt, i32le, i32eq, i32add, i32sub, i32mul, i32neg, t32_0, t32_49, t32_100] at ht u_t0 ⊢); omega) (by decide) dX12_bind_19 rfl (fun m2 em2 => ?_)
  refine mw_aload_n cx (q := 21) 0 rfl rfl dX12_bind_20 rfl ?_
  refine mw_dup cx (q := 22) dX12_bind_21 rfl rfl ?_
  refine mw_get cx (q := 25) (v := .int ((M 12) 0 0 49)) gf_X12_251 rfl (by rw [em2, em1]; rfl) vi_12_0 dX12_bind_22 rfl ?_
  refine mw_iconst cx (q := 26) (v := 1) dX12_bind_25 rfl rfl ?_
  refine mw_iadd cx (q := 27) dX12_bind_26 rfl ?_
  refine mw_putC cx (q := 30) 49 gf_X12_251 pf_X12_49 (int_fit _) rfl (Nat.le_of_ble_eq_true rfl) rfl vi_12_0 (by decide) dX12_bind_27 rfl (fun m3 em3 => ?_)
  exact mw_vret cx hr rfl dX12_bind_30
def f12_opOf_lp4 (m : Cm) (p1 : Int32) : Nat → (Int32 × Int32) → Int32
  | 0, x1 => 0
  | n2 + 1, x1 => if 26 ≤ x1.1 then x1.2 else jn (fun (v4 : Int32) => bnd (x1.1 + 1) (fun (v7 : Int32) => f12_opOf_lp4 m p1 n2 (v7, v4))) (fun K5 => if (m 28 0 x1.1) = p1 then K5 x1.1 else K5 x1.2)
theorem f12_opOf_lp4_s (m : Cm) (p1 : Int32) (n2 : Nat) (x1 : Int32 × Int32) : f12_opOf_lp4 m p1 (n2 + 1) x1 = if 26 ≤ x1.1 then x1.2 else jn (fun (v4 : Int32) => bnd (x1.1 + 1) (fun (v7 : Int32) => f12_opOf_lp4 m p1 n2 (v7, v4))) (fun K5 => if (m 28 0 x1.1) = p1 then K5 x1.1 else K5 x1.2) := rfl
def f12_opOf (m : Cm) (p1 : Int32) : Int32 := f12_opOf_lp4 m p1 27 (0, (-1))
set_option maxHeartbeats 4000000 in
set_option maxRecDepth 100000 in
theorem mc_X12_opOf (l : Launch) (D : va_G) (ta : wTa) (ad : wAd) (M : Wm) (p1 : Int32) : MC l D ta ad yX12_opOf cX12_opOf 4 (some .int) 0 [.ref (ad 12 0 0), .int p1] M (fip M (f12_opOf (M 12) p1)) := by
  refine MC.of (fip M) (f12_opOf (M 12) p1) rfl (by decide) (Nat.le_of_ble_eq_true rfl) (fun p e s m args below meth c cx hr => ?_)
  unfold f12_opOf
  refine mw_sub (lv' := [(0, .ref (ad 12 0 0)), (1, .int p1)]) [0, 1] rfl ?_
  refine mw_iconst cx (q := 1) (v := (-1)) dX12_opOf_0 rfl rfl ?_
  refine mw_istore_n cx (q := 2) (lv' := [(2, .int (-1)), (0, .ref (ad 12 0 0)), (1, .int p1)]) rfl rfl (by decide) dX12_opOf_1 rfl ?_
  refine mw_iconst cx (q := 3) (v := 0) dX12_opOf_2 rfl rfl ?_
  refine mw_istore_n cx (q := 4) (lv' := [(3, .int 0), (2, .int (-1)), (0, .ref (ad 12 0 0)), (1, .int p1)]) rfl rfl (by decide) dX12_opOf_3 rfl ?_
  refine mw_loop (F := f12_opOf_lp4 (M 12) p1) (I := fun (x1 : Int32 × Int32) => 0 ≤ (x1.1).toInt) (μ := fun (x1 : Int32 × Int32) => (26 - (x1.1).toInt).toNat) (Mx := fun (x1 : Int32 × Int32) => M) (px := 4) (lx := fun (x1 : Int32 × Int32) => [(3, .int x1.1), (2, .int x1.2), (0, .ref (ad 12 0 0)), (1, .int p1)]) (fun n2 x1 ivx1 ih => ?_) 27 (0, (-1)) (by (try simp only [vp_in_iff, i32lt, i32le, i32eq, i32add, i32sub, i32mul, i32neg, t32_0]); omega) (by (try simp only [vp_in_iff, i32lt, i32le, i32eq, i32add, i32sub, i32mul, i32neg, t32_0, t32_26, t32_27]); omega)
  have ivx1_0 := ivx1
  refine mw_eqS (f12_opOf_lp4_s (M 12) p1 n2 x1) ?_
  refine mw_iload_n cx (q := 5) 0 rfl rfl dX12_opOf_4 rfl ?_
  refine mw_bipush cx (q := 7) (v := 26) dX12_opOf_5 rfl rfl ?_
  refine mw_icmp_ge cx (tgt := 32) (q := 10) dX12_opOf_7 (by decide) rfl (fun h3 => ?_) (fun h3 => ?_)
  · refine mw_iload_n cx (q := 33) 1 rfl rfl dX12_opOf_32 rfl ?_
    exact mw_iret cx hr rfl dX12_opOf_33
  · refine mw_aload_n cx (q := 11) 2 rfl rfl dX12_opOf_10 rfl ?_
    refine mw_get cx (q := 14) (v := .ref (ad 12 28 0)) gf_X12_89 rfl rfl vi_12_0 dX12_opOf_11 rfl ?_
    refine mw_iload_n cx (q := 15) 0 rfl rfl dX12_opOf_14 rfl ?_
    refine mw_iald cx (q := 16) (w := ((M 12) 28 0 x1.1)) rfl (fun _ => rfl) vi_12_28 (by (try simp only [vp_in_iff, i32lt, i32le, i32eq, i32add, i32sub, i32mul, i32neg, t32_0, t32_26] at ivx1_0 h3 ⊢); omega) dX12_opOf_15 rfl ?_
    refine mw_iload_n cx (q := 17) 3 rfl rfl dX12_opOf_16 rfl ?_
    refine mw_jn (Mj := fun (v4 : Int32) => M) (pj := 25) (lj := fun (v4 : Int32) => [(0, .ref (ad 12 0 0)), (1, .int p1), (3, .int x1.1)]) (sj := fun (v4 : Int32) => [.int v4]) (fun v4 => ?_) (fun K5 hK5 => ?_)
    · refine mw_istore_n cx (q := 26) (lv' := [(2, .int v4), (0, .ref (ad 12 0 0)), (1, .int p1), (3, .int x1.1)]) rfl rfl (by decide) dX12_opOf_25 rfl ?_
      refine mw_bnd (fun v7 ev7 => ?_)
      refine mw_iinc cx (q := 29) (v := v7) (lv' := [(3, .int v7), (2, .int v4), (0, .ref (ad 12 0 0)), (1, .int p1)]) 3 rfl (by rw [ev7]; rfl) rfl (by decide) dX12_opOf_26 rfl ?_
      refine mw_goto cx (tgt := 4) dX12_opOf_29 (by decide) ?_
      exact ih (v7, v4) (by (try simp only [vp_in_iff, i32lt, i32le, i32eq, i32add, i32sub, i32mul, i32neg, t32_0, t32_1, t32_26] at ev7 ivx1_0 h3 ⊢); omega) (by (try simp only [vp_in_iff, i32lt, i32le, i32eq, i32add, i32sub, i32mul, i32neg, t32_0, t32_1, t32_26] at ivx1_0 h3 ev7 ⊢); omega)
    · refine mw_icmp_ne cx (tgt := 24) (q := 20) dX12_opOf_17 (by decide) rfl (fun h6 => ?_) (fun h6 => ?_)
      · refine mw_iload_n cx (q := 25) 1 rfl rfl dX12_opOf_24 rfl ?_
        refine mw_sub [2, 3, 0] rfl ?_
        exact hK5 x1.2
      · refine mw_iload_n cx (q := 21) 0 rfl rfl dX12_opOf_20 rfl ?_
        refine mw_goto cx (tgt := 25) dX12_opOf_21 (by decide) ?_
        refine mw_sub [2, 3, 0] rfl ?_
        exact hK5 x1.1
def f12_functionOf_lp4 (m : Cm) (p1 : Int32) : Nat → (Int32 × Int32) → Int32
  | 0, x1 => 0
  | n2 + 1, x1 => if (m 0 0 50) ≤ x1.1 then x1.2 else jn (fun (v4 : Int32) => bnd (x1.1 + 1) (fun (v7 : Int32) => f12_functionOf_lp4 m p1 n2 (v7, v4))) (fun K5 => if (m 52 0 x1.1) = p1 then K5 x1.1 else K5 x1.2)
theorem f12_functionOf_lp4_s (m : Cm) (p1 : Int32) (n2 : Nat) (x1 : Int32 × Int32) : f12_functionOf_lp4 m p1 (n2 + 1) x1 = if (m 0 0 50) ≤ x1.1 then x1.2 else jn (fun (v4 : Int32) => bnd (x1.1 + 1) (fun (v7 : Int32) => f12_functionOf_lp4 m p1 n2 (v7, v4))) (fun K5 => if (m 52 0 x1.1) = p1 then K5 x1.1 else K5 x1.2) := rfl
def f12_functionOf (m : Cm) (p1 : Int32) : Int32 := f12_functionOf_lp4 m p1 10 (0, (-1))
set_option maxHeartbeats 4000000 in
set_option maxRecDepth 100000 in
theorem mc_X12_functionOf (l : Launch) (D : va_G) (ta : wTa) (ad : wAd) (M : Wm) (p1 : Int32) (hok : Ok12 (M 12)) : MC l D ta ad yX12_functionOf cX12_functionOf 4 (some .int) 0 [.ref (ad 12 0 0), .int p1] M (fip M (f12_functionOf (M 12) p1)) := by
  refine MC.of (fip M) (f12_functionOf (M 12) p1) rfl (by decide) (Nat.le_of_ble_eq_true rfl) (fun p e s m args below meth c cx hr => ?_)
  unfold f12_functionOf
  refine mw_sub (lv' := [(0, .ref (ad 12 0 0)), (1, .int p1)]) [0, 1] rfl ?_
  have u_f0 : 0 ≤ ((M 12) 0 0 50).toInt := hok.f0
  have u_f1 : ((M 12) 0 0 50).toInt ≤ 8 := hok.f1
  refine mw_iconst cx (q := 1) (v := (-1)) dX12_functionOf_0 rfl rfl ?_
  refine mw_istore_n cx (q := 2) (lv' := [(2, .int (-1)), (0, .ref (ad 12 0 0)), (1, .int p1)]) rfl rfl (by decide) dX12_functionOf_1 rfl ?_
  refine mw_iconst cx (q := 3) (v := 0) dX12_functionOf_2 rfl rfl ?_
  refine mw_istore_n cx (q := 4) (lv' := [(3, .int 0), (2, .int (-1)), (0, .ref (ad 12 0 0)), (1, .int p1)]) rfl rfl (by decide) dX12_functionOf_3 rfl ?_
  refine mw_loop (F := f12_functionOf_lp4 (M 12) p1) (I := fun (x1 : Int32 × Int32) => 0 ≤ (x1.1).toInt) (μ := fun (x1 : Int32 × Int32) => (9 - (x1.1).toInt).toNat) (Mx := fun (x1 : Int32 × Int32) => M) (px := 4) (lx := fun (x1 : Int32 × Int32) => [(3, .int x1.1), (2, .int x1.2), (0, .ref (ad 12 0 0)), (1, .int p1)]) (fun n2 x1 ivx1 ih => ?_) 10 (0, (-1)) (by (try simp only [vp_in_iff, i32lt, i32le, i32eq, i32add, i32sub, i32mul, i32neg, t32_0]); omega) (by (try simp only [vp_in_iff, i32lt, i32le, i32eq, i32add, i32sub, i32mul, i32neg, t32_0, t32_9, t32_10]); omega)
  have ivx1_0 := ivx1
  refine mw_eqS (f12_functionOf_lp4_s (M 12) p1 n2 x1) ?_
  refine mw_iload_n cx (q := 5) 0 rfl rfl dX12_functionOf_4 rfl ?_
  refine mw_aload_n cx (q := 6) 2 rfl rfl dX12_functionOf_5 rfl ?_
  refine mw_get cx (q := 9) (v := .int ((M 12) 0 0 50)) gf_X12_214 rfl rfl vi_12_0 dX12_functionOf_6 rfl ?_
  refine mw_icmp_ge cx (tgt := 34) (q := 12) dX12_functionOf_9 (by decide) rfl (fun h3 => ?_) (fun h3 => ?_)
  · refine mw_iload_n cx (q := 35) 1 rfl rfl dX12_functionOf_34 rfl ?_
    exact mw_iret cx hr rfl dX12_functionOf_35
  · refine mw_aload_n cx (q := 13) 2 rfl rfl dX12_functionOf_12 rfl ?_
    refine mw_get cx (q := 16) (v := .ref (ad 12 52 0)) gf_X12_149 rfl rfl vi_12_0 dX12_functionOf_13 rfl ?_
    refine mw_iload_n cx (q := 17) 0 rfl rfl dX12_functionOf_16 rfl ?_
    refine mw_iald cx (q := 18) (w := ((M 12) 52 0 x1.1)) rfl (fun _ => rfl) vi_12_52 (by (try simp only [vp_in_iff, i32lt, i32le, i32eq, i32add, i32sub, i32mul, i32neg, t32_0, t32_8, t32_50] at ivx1_0 h3 u_f0 u_f1 ⊢); omega) dX12_functionOf_17 rfl ?_
    refine mw_iload_n cx (q := 19) 3 rfl rfl dX12_functionOf_18 rfl ?_
    refine mw_jn (Mj := fun (v4 : Int32) => M) (pj := 27) (lj := fun (v4 : Int32) => [(0, .ref (ad 12 0 0)), (1, .int p1), (3, .int x1.1)]) (sj := fun (v4 : Int32) => [.int v4]) (fun v4 => ?_) (fun K5 hK5 => ?_)
    · refine mw_istore_n cx (q := 28) (lv' := [(2, .int v4), (0, .ref (ad 12 0 0)), (1, .int p1), (3, .int x1.1)]) rfl rfl (by decide) dX12_functionOf_27 rfl ?_
      refine mw_bnd (fun v7 ev7 => ?_)
      refine mw_iinc cx (q := 31) (v := v7) (lv' := [(3, .int v7), (2, .int v4), (0, .ref (ad 12 0 0)), (1, .int p1)]) 3 rfl (by rw [ev7]; rfl) rfl (by decide) dX12_functionOf_28 rfl ?_
      refine mw_goto cx (tgt := 4) dX12_functionOf_31 (by decide) ?_
      exact ih (v7, v4) (by (try simp only [vp_in_iff, i32lt, i32le, i32eq, i32add, i32sub, i32mul, i32neg, t32_0, t32_1, t32_8, t32_50] at ev7 ivx1_0 h3 u_f0 u_f1 ⊢); omega) (by (try simp only [vp_in_iff, i32lt, i32le, i32eq, i32add, i32sub, i32mul, i32neg, t32_0, t32_1, t32_8, t32_9, t32_50] at ivx1_0 h3 ev7 u_f0 u_f1 ⊢); omega)
    · refine mw_icmp_ne cx (tgt := 26) (q := 22) dX12_functionOf_19 (by decide) rfl (fun h6 => ?_) (fun h6 => ?_)
      · refine mw_iload_n cx (q := 27) 1 rfl rfl dX12_functionOf_26 rfl ?_
        refine mw_sub [2, 3, 0] rfl ?_
        exact hK5 x1.2
      · refine mw_iload_n cx (q := 23) 0 rfl rfl dX12_functionOf_22 rfl ?_
        refine mw_goto cx (tgt := 27) dX12_functionOf_23 (by decide) ?_
        refine mw_sub [2, 3, 0] rfl ?_
        exact hK5 x1.1
def f12_keep_lp14 (p1 : Int32) (p2 : Int32) (K3 : Cm → Cm) : Nat → (Int32 × Cm) → Cm
  | 0, x2 => x2.2
  | n4 + 1, x2 => if 3 ≤ x2.1 then K3 x2.2 else bnd (u3 x2.2 43 0 ((3 * p1) + x2.1) (x2.2 54 0 ((3 * p2) + x2.1))) (fun (m6 : Cm) => bnd (x2.1 + 1) (fun (v7 : Int32) => f12_keep_lp14 p1 p2 K3 n4 (v7, m6)))
theorem f12_keep_lp14_s (p1 : Int32) (p2 : Int32) (K3 : Cm → Cm) (n4 : Nat) (x2 : Int32 × Cm) : f12_keep_lp14 p1 p2 K3 (n4 + 1) x2 = if 3 ≤ x2.1 then K3 x2.2 else bnd (u3 x2.2 43 0 ((3 * p1) + x2.1) (x2.2 54 0 ((3 * p2) + x2.1))) (fun (m6 : Cm) => bnd (x2.1 + 1) (fun (v7 : Int32) => f12_keep_lp14 p1 p2 K3 n4 (v7, m6))) := rfl
def f12_keep (m : Cm) (p1 : Int32) (p2 : Int32) : Cm := bnd (u3 m 42 0 p1 (m 53 0 p2)) (fun (m1 : Cm) => jn (fun (y8 : Cm) => bnd (u3 y8 44 0 p1 (y8 55 0 p2)) (fun (m9 : Cm) => bnd (u3 m9 45 0 p1 (y8 56 0 p2)) (fun (m10 : Cm) => m10))) (fun K3 => f12_keep_lp14 p1 p2 K3 4 (0, m1)))
set_option maxHeartbeats 4000000 in
set_option maxRecDepth 100000 in
theorem mc_X12_keep (l : Launch) (D : va_G) (ta : wTa) (ad : wAd) (M : Wm) (p1 : Int32) (p2 : Int32) (hp1 : vp_in p1 32) (hp2 : vp_in p2 8) : MC l D ta ad yX12_keep cX12_keep 4 none 0 [.ref (ad 12 0 0), .int p1, .int p2] M (fvc M 12 (f12_keep (M 12) p1 p2)) := by
  refine MC.of (fvc M 12) (f12_keep (M 12) p1 p2) rfl (by decide) (Nat.le_of_ble_eq_true rfl) (fun p e s m args below meth c cx hr => ?_)
  unfold f12_keep
  refine mw_sub (lv' := [(0, .ref (ad 12 0 0)), (1, .int p1), (2, .int p2)]) [0, 1, 2] rfl ?_
  refine mw_eqM (uW_self M 12) ?_
  refine mw_aload_n cx (q := 1) 0 rfl rfl dX12_keep_0 rfl ?_
  refine mw_get cx (q := 4) (v := .ref (ad 12 42 0)) gf_X12_131 rfl rfl vi_12_0 dX12_keep_1 rfl ?_
  refine mw_iload_n cx (q := 5) 1 rfl rfl dX12_keep_4 rfl ?_
  refine mw_aload_n cx (q := 6) 0 rfl rfl dX12_keep_5 rfl ?_
  refine mw_get cx (q := 9) (v := .ref (ad 12 53 0)) gf_X12_152 rfl rfl vi_12_0 dX12_keep_6 rfl ?_
  refine mw_iload_n cx (q := 10) 2 rfl rfl dX12_keep_9 rfl ?_
  refine mw_iald cx (q := 11) (w := ((M 12) 53 0 p2)) rfl (fun _ => rfl) vi_12_53 hp2 dX12_keep_10 rfl ?_
  refine mw_iastC cx (q := 12) (fun _ => rfl) (by decide) vi_12_42 hp1 (by decide) dX12_keep_11 rfl (fun m1 em1 => ?_)
  refine mw_iconst cx (q := 13) (v := 0) dX12_keep_12 rfl rfl ?_
  refine mw_istore_n cx (q := 14) (lv' := [(3, .int 0), (0, .ref (ad 12 0 0)), (1, .int p1), (2, .int p2)]) rfl rfl (by decide) dX12_keep_13 rfl ?_
  refine mw_jn (Mj := fun (y8 : Cm) => (uW M 12 y8)) (pj := 45) (lj := fun (y8 : Cm) => [(0, .ref (ad 12 0 0)), (1, .int p1), (2, .int p2)]) (sj := fun (y8 : Cm) => []) (fun y8 => ?_) (fun K3 hK3 => ?_)
  · refine mw_aload_n cx (q := 46) 0 rfl rfl dX12_keep_45 rfl ?_
    refine mw_get cx (q := 49) (v := .ref (ad 12 44 0)) gf_X12_137 rfl rfl vi_12_0 dX12_keep_46 rfl ?_
    refine mw_iload_n cx (q := 50) 1 rfl rfl dX12_keep_49 rfl ?_
    refine mw_aload_n cx (q := 51) 0 rfl rfl dX12_keep_50 rfl ?_
    refine mw_get cx (q := 54) (v := .ref (ad 12 55 0)) gf_X12_158 rfl rfl vi_12_0 dX12_keep_51 rfl ?_
    refine mw_iload_n cx (q := 55) 2 rfl rfl dX12_keep_54 rfl ?_
    refine mw_iald cx (q := 56) (w := (y8 55 0 p2)) rfl (fun _ => rfl) vi_12_55 hp2 dX12_keep_55 rfl ?_
    refine mw_iastC cx (q := 57) (fun _ => rfl) (by decide) vi_12_44 hp1 (by decide) dX12_keep_56 rfl (fun m9 em9 => ?_)
    refine mw_aload_n cx (q := 58) 0 rfl rfl dX12_keep_57 rfl ?_
    refine mw_get cx (q := 61) (v := .ref (ad 12 45 0)) gf_X12_140 rfl rfl vi_12_0 dX12_keep_58 rfl ?_
    refine mw_iload_n cx (q := 62) 1 rfl rfl dX12_keep_61 rfl ?_
    refine mw_aload_n cx (q := 63) 0 rfl rfl dX12_keep_62 rfl ?_
    refine mw_get cx (q := 66) (v := .ref (ad 12 56 0)) gf_X12_161 rfl rfl vi_12_0 dX12_keep_63 rfl ?_
    refine mw_iload_n cx (q := 67) 2 rfl rfl dX12_keep_66 rfl ?_
    refine mw_iald cx (q := 68) (w := (y8 56 0 p2)) (by rw [em9]; rfl) (fun _ => rfl) vi_12_56 hp2 dX12_keep_67 rfl ?_
    refine mw_iastC cx (q := 69) (fun _ => rfl) (by decide) vi_12_45 hp1 (by decide) dX12_keep_68 rfl (fun m10 em10 => ?_)
    exact mw_vret cx hr rfl dX12_keep_69
  · refine mw_loop (F := f12_keep_lp14 p1 p2 K3) (I := fun (x2 : Int32 × Cm) => 0 ≤ (x2.1).toInt) (μ := fun (x2 : Int32 × Cm) => (3 - (x2.1).toInt).toNat) (Mx := fun (x2 : Int32 × Cm) => (uW M 12 x2.2)) (px := 14) (lx := fun (x2 : Int32 × Cm) => [(3, .int x2.1), (0, .ref (ad 12 0 0)), (1, .int p1), (2, .int p2)]) (fun n4 x2 ivx2 ih => ?_) 4 (0, m1) (by (try simp only [vp_in_iff, i32lt, i32le, i32eq, i32add, i32sub, i32mul, i32neg, t32_0]); omega) (by (try simp only [vp_in_iff, i32lt, i32le, i32eq, i32add, i32sub, i32mul, i32neg, t32_0, t32_3, t32_4]); omega)
    have ivx2_0 := ivx2
    refine mw_eqS (f12_keep_lp14_s p1 p2 K3 n4 x2) ?_
    refine mw_iload_n cx (q := 15) 0 rfl rfl dX12_keep_14 rfl ?_
    refine mw_iconst cx (q := 16) (v := 3) dX12_keep_15 rfl rfl ?_
    refine mw_icmp_ge cx (tgt := 45) (q := 19) dX12_keep_16 (by decide) rfl (fun h5 => ?_) (fun h5 => ?_)
    · refine mw_sub [1, 2, 3] rfl ?_
      exact hK3 x2.2
    · refine mw_aload_n cx (q := 20) 1 rfl rfl dX12_keep_19 rfl ?_
      refine mw_get cx (q := 23) (v := .ref (ad 12 43 0)) gf_X12_134 rfl rfl vi_12_0 dX12_keep_20 rfl ?_
      refine mw_iconst cx (q := 24) (v := 3) dX12_keep_23 rfl rfl ?_
      refine mw_iload_n cx (q := 25) 2 rfl rfl dX12_keep_24 rfl ?_
      refine mw_imul cx (q := 26) dX12_keep_25 rfl ?_
      refine mw_iload_n cx (q := 27) 0 rfl rfl dX12_keep_26 rfl ?_
      refine mw_iadd cx (q := 28) dX12_keep_27 rfl ?_
      refine mw_aload_n cx (q := 29) 1 rfl rfl dX12_keep_28 rfl ?_
      refine mw_get cx (q := 32) (v := .ref (ad 12 54 0)) gf_X12_155 rfl rfl vi_12_0 dX12_keep_29 rfl ?_
      refine mw_iconst cx (q := 33) (v := 3) dX12_keep_32 rfl rfl ?_
      refine mw_iload_n cx (q := 34) 3 rfl rfl dX12_keep_33 rfl ?_
      refine mw_imul cx (q := 35) dX12_keep_34 rfl ?_
      refine mw_iload_n cx (q := 36) 0 rfl rfl dX12_keep_35 rfl ?_
      refine mw_iadd cx (q := 37) dX12_keep_36 rfl ?_
      refine mw_iald cx (q := 38) (w := (x2.2 54 0 ((3 * p2) + x2.1))) rfl (fun _ => rfl) vi_12_54 (idx3_24 hp2 (by (try simp only [vp_in_iff, i32lt, i32le, i32eq, i32add, i32sub, i32mul, i32neg, t32_0, t32_3] at ivx2_0 h5 ⊢); omega)) dX12_keep_37 rfl ?_
      refine mw_iastC cx (q := 39) (fun _ => rfl) (by decide) vi_12_43 (idx3_96 hp1 (by (try simp only [vp_in_iff, i32lt, i32le, i32eq, i32add, i32sub, i32mul, i32neg, t32_0, t32_3] at ivx2_0 h5 ⊢); omega)) (by decide) dX12_keep_38 rfl (fun m6 em6 => ?_)
      refine mw_bnd (fun v7 ev7 => ?_)
      refine mw_iinc cx (q := 42) (v := v7) (lv' := [(3, .int v7), (0, .ref (ad 12 0 0)), (1, .int p1), (2, .int p2)]) 0 rfl (by rw [ev7]; rfl) rfl (by decide) dX12_keep_39 rfl ?_
      refine mw_goto cx (tgt := 14) dX12_keep_42 (by decide) ?_
      exact ih (v7, m6) (by (try simp only [vp_in_iff, i32lt, i32le, i32eq, i32add, i32sub, i32mul, i32neg, t32_0, t32_1, t32_3] at ev7 ivx2_0 h5 ⊢); omega) (by (try simp only [vp_in_iff, i32lt, i32le, i32eq, i32add, i32sub, i32mul, i32neg, t32_0, t32_1, t32_3] at ivx2_0 h5 ev7 ⊢); omega)
def f12_joined (p1 : Int32) (p2 : Int32) (p3 : Int32) : Int32 := if 3 ≤ p1 then if 5 ≤ p1 then if 7 ≤ p1 then if p1 = 7 then if p3 ≤ p2 then 0 else 1 else if p2 = p3 then 1 else 0 else if p1 = 5 then (p2 / p3) else (p2 - p2 / p3 * p3) else jn (fun (v8 : Bool) => jn (fun (v11 : Bool) => if (b2i v8) = (b2i v11) then p2 else p3) (fun K12 => if p3 ≤ p2 then K12 false else K12 true)) (fun K9 => if p1 = 3 then K9 true else K9 false) else if p1 = 0 then (p2 + p3) else if p1 = 1 then (p2 - p3) else (p2 * p3)
set_option maxHeartbeats 4000000 in
set_option maxRecDepth 100000 in
theorem mc_X12_joined (l : Launch) (D : va_G) (ta : wTa) (ad : wAd) (M : Wm) (p1 : Int32) (p2 : Int32) (p3 : Int32) (hd : p1 = 5 ∨ p1 = 6 → ¬ p3 = 0) : MC l D ta ad yX12_joined cX12_joined 3 (some .int) 0 [.int p1, .int p2, .int p3] M (fip M (f12_joined p1 p2 p3)) := by
  refine MC.of (fip M) (f12_joined p1 p2 p3) rfl (by decide) (Nat.le_of_ble_eq_true rfl) (fun p e s m args below meth c cx hr => ?_)
  unfold f12_joined
  refine mw_sub (lv' := [(0, .int p1), (1, .int p2), (2, .int p3)]) [0, 1, 2] rfl ?_
  refine mw_iload_n cx (q := 1) 0 rfl rfl dX12_joined_0 rfl ?_
  refine mw_iconst cx (q := 2) (v := 3) dX12_joined_1 rfl rfl ?_
  refine mw_icmp_ge cx (tgt := 30) (q := 5) dX12_joined_2 (by decide) rfl (fun h1 => ?_) (fun h1 => ?_)
  · refine mw_iload_n cx (q := 31) 0 rfl rfl dX12_joined_30 rfl ?_
    refine mw_iconst cx (q := 32) (v := 5) dX12_joined_31 rfl rfl ?_
    refine mw_icmp_ge cx (tgt := 64) (q := 35) dX12_joined_32 (by decide) rfl (fun h2 => ?_) (fun h2 => ?_)
    · refine mw_iload_n cx (q := 65) 0 rfl rfl dX12_joined_64 rfl ?_
      refine mw_bipush cx (q := 67) (v := 7) dX12_joined_65 rfl rfl ?_
      refine mw_icmp_ge cx (tgt := 85) (q := 70) dX12_joined_67 (by decide) rfl (fun h3 => ?_) (fun h3 => ?_)
      · refine mw_iload_n cx (q := 86) 0 rfl rfl dX12_joined_85 rfl ?_
        refine mw_bipush cx (q := 88) (v := 7) dX12_joined_86 rfl rfl ?_
        refine mw_icmp_ne cx (tgt := 99) (q := 91) dX12_joined_88 (by decide) rfl (fun h4 => ?_) (fun h4 => ?_)
        · refine mw_iload_n cx (q := 100) 1 rfl rfl dX12_joined_99 rfl ?_
          refine mw_iload_n cx (q := 101) 2 rfl rfl dX12_joined_100 rfl ?_
          refine mw_icmp_ne cx (tgt := 108) (q := 104) dX12_joined_101 (by decide) rfl (fun h5 => ?_) (fun h5 => ?_)
          · refine mw_iconst cx (q := 109) (v := 0) dX12_joined_108 rfl rfl ?_
            exact mw_iret cx hr rfl dX12_joined_109
          · refine mw_iconst cx (q := 105) (v := 1) dX12_joined_104 rfl rfl ?_
            refine mw_goto cx (tgt := 109) dX12_joined_105 (by decide) ?_
            exact mw_iret cx hr rfl dX12_joined_109
        · refine mw_iload_n cx (q := 92) 1 rfl rfl dX12_joined_91 rfl ?_
          refine mw_iload_n cx (q := 93) 2 rfl rfl dX12_joined_92 rfl ?_
          refine mw_icmp_ge cx (tgt := 108) (q := 96) dX12_joined_93 (by decide) rfl (fun h6 => ?_) (fun h6 => ?_)
          · refine mw_iconst cx (q := 109) (v := 0) dX12_joined_108 rfl rfl ?_
            exact mw_iret cx hr rfl dX12_joined_109
          · refine mw_goto cx (tgt := 104) dX12_joined_96 (by decide) ?_
            refine mw_iconst cx (q := 105) (v := 1) dX12_joined_104 rfl rfl ?_
            refine mw_goto cx (tgt := 109) dX12_joined_105 (by decide) ?_
            exact mw_iret cx hr rfl dX12_joined_109
      · refine mw_iload_n cx (q := 71) 0 rfl rfl dX12_joined_70 rfl ?_
        refine mw_iconst cx (q := 72) (v := 5) dX12_joined_71 rfl rfl ?_
        refine mw_icmp_ne cx (tgt := 81) (q := 75) dX12_joined_72 (by decide) rfl (fun h7 => ?_) (fun h7 => ?_)
        · refine mw_iload_n cx (q := 82) 1 rfl rfl dX12_joined_81 rfl ?_
          refine mw_iload_n cx (q := 83) 2 rfl rfl dX12_joined_82 rfl ?_
          refine mw_irem cx (q := 84) dX12_joined_83 rfl (by (try simp only [vp_in_iff, i32lt, i32le, i32eq, i32add, i32sub, i32mul, i32neg, t32_0, t32_3, t32_5, t32_6, t32_7] at hd h1 h2 h3 h7 ⊢); omega) ?_
          exact mw_iret cx hr rfl dX12_joined_84
        · refine mw_iload_n cx (q := 76) 1 rfl rfl dX12_joined_75 rfl ?_
          refine mw_iload_n cx (q := 77) 2 rfl rfl dX12_joined_76 rfl ?_
          refine mw_idiv cx (q := 78) dX12_joined_77 rfl (by (try simp only [vp_in_iff, i32lt, i32le, i32eq, i32add, i32sub, i32mul, i32neg, t32_0, t32_3, t32_5, t32_6, t32_7] at hd h1 h2 h3 h7 ⊢); omega) ?_
          refine mw_goto cx (tgt := 84) dX12_joined_78 (by decide) ?_
          exact mw_iret cx hr rfl dX12_joined_84
    · refine mw_iload_n cx (q := 36) 0 rfl rfl dX12_joined_35 rfl ?_
      refine mw_iconst cx (q := 37) (v := 3) dX12_joined_36 rfl rfl ?_
      refine mw_jn (Mj := fun (v8 : Bool) => M) (pj := 45) (lj := fun (v8 : Bool) => [(1, .int p2), (2, .int p3)]) (sj := fun (v8 : Bool) => [.int (b2i v8)]) (fun v8 => ?_) (fun K9 hK9 => ?_)
      · refine mw_iload_n cx (q := 46) 0 rfl rfl dX12_joined_45 rfl ?_
        refine mw_iload_n cx (q := 47) 1 rfl rfl dX12_joined_46 rfl ?_
        refine mw_jn (Mj := fun (v11 : Bool) => M) (pj := 55) (lj := fun (v11 : Bool) => [(1, .int p2), (2, .int p3)]) (sj := fun (v11 : Bool) => [.int (b2i v11), .int (b2i v8)]) (fun v11 => ?_) (fun K12 hK12 => ?_)
        · refine mw_icmp_ne cx (tgt := 62) (q := 58) dX12_joined_55 (by decide) rfl (fun h14 => ?_) (fun h14 => ?_)
          · refine mw_iload_n cx (q := 63) 1 rfl rfl dX12_joined_62 rfl ?_
            exact mw_iret cx hr rfl dX12_joined_63
          · refine mw_iload_n cx (q := 59) 0 rfl rfl dX12_joined_58 rfl ?_
            refine mw_goto cx (tgt := 63) dX12_joined_59 (by decide) ?_
            exact mw_iret cx hr rfl dX12_joined_63
        · refine mw_icmp_ge cx (tgt := 54) (q := 50) dX12_joined_47 (by decide) rfl (fun h13 => ?_) (fun h13 => ?_)
          · refine mw_iconst cx (q := 55) (v := 0) dX12_joined_54 rfl rfl ?_
            exact hK12 false
          · refine mw_iconst cx (q := 51) (v := 1) dX12_joined_50 rfl rfl ?_
            refine mw_goto cx (tgt := 55) dX12_joined_51 (by decide) ?_
            exact hK12 true
      · refine mw_icmp_ne cx (tgt := 44) (q := 40) dX12_joined_37 (by decide) rfl (fun h10 => ?_) (fun h10 => ?_)
        · refine mw_iconst cx (q := 45) (v := 0) dX12_joined_44 rfl rfl ?_
          refine mw_sub [1, 2] rfl ?_
          exact hK9 false
        · refine mw_iconst cx (q := 41) (v := 1) dX12_joined_40 rfl rfl ?_
          refine mw_goto cx (tgt := 45) dX12_joined_41 (by decide) ?_
          refine mw_sub [1, 2] rfl ?_
          exact hK9 true
  · refine mw_iload_n cx (q := 6) 0 rfl rfl dX12_joined_5 rfl ?_
    refine mw_if_ne cx (tgt := 15) (q := 9) dX12_joined_6 (by decide) rfl (fun h15 => ?_) (fun h15 => ?_)
    · refine mw_iload_n cx (q := 16) 0 rfl rfl dX12_joined_15 rfl ?_
      refine mw_iconst cx (q := 17) (v := 1) dX12_joined_16 rfl rfl ?_
      refine mw_icmp_ne cx (tgt := 26) (q := 20) dX12_joined_17 (by decide) rfl (fun h16 => ?_) (fun h16 => ?_)
      · refine mw_iload_n cx (q := 27) 1 rfl rfl dX12_joined_26 rfl ?_
        refine mw_iload_n cx (q := 28) 2 rfl rfl dX12_joined_27 rfl ?_
        refine mw_imul cx (q := 29) dX12_joined_28 rfl ?_
        exact mw_iret cx hr rfl dX12_joined_29
      · refine mw_iload_n cx (q := 21) 1 rfl rfl dX12_joined_20 rfl ?_
        refine mw_iload_n cx (q := 22) 2 rfl rfl dX12_joined_21 rfl ?_
        refine mw_isub cx (q := 23) dX12_joined_22 rfl ?_
        refine mw_goto cx (tgt := 29) dX12_joined_23 (by decide) ?_
        exact mw_iret cx hr rfl dX12_joined_29
    · refine mw_iload_n cx (q := 10) 1 rfl rfl dX12_joined_9 rfl ?_
      refine mw_iload_n cx (q := 11) 2 rfl rfl dX12_joined_10 rfl ?_
      refine mw_iadd cx (q := 12) dX12_joined_11 rfl ?_
      refine mw_goto cx (tgt := 29) dX12_joined_12 (by decide) ?_
      exact mw_iret cx hr rfl dX12_joined_29
def f12_makeOrder (m : Cm) (p1 : Int32) (p2 : Int32) (p3 : Int32) (p4 : Int32) : (Int32 × Cm) := bnd (u3 m 13 0 (m 0 0 11) p1) (fun (m1 : Cm) => bnd (u3 m1 14 0 (m 0 0 11) p2) (fun (m2 : Cm) => bnd (u3 m2 15 0 (m 0 0 11) p3) (fun (m3 : Cm) => bnd (u3 m3 16 0 (m 0 0 11) p4) (fun (m4 : Cm) => bnd (u3 m4 17 0 (m 0 0 11) 0) (fun (m5 : Cm) => bnd (u3 m5 0 0 11 ((m 0 0 11) + 1)) (fun (m6 : Cm) => ((((m 0 0 11) + 1) - 1), m6)))))))
set_option maxHeartbeats 4000000 in
set_option maxRecDepth 100000 in
theorem mc_X12_makeOrder (l : Launch) (D : va_G) (ta : wTa) (ad : wAd) (M : Wm) (p1 : Int32) (p2 : Int32) (p3 : Int32) (p4 : Int32) (hok : Ok12 (M 12)) (ho : ((M 12) 0 0 11).toInt < 60) : MC l D ta ad yX12_makeOrder cX12_makeOrder 5 (some .int) 0 [.ref (ad 12 0 0), .int p1, .int p2, .int p3, .int p4] M (fic M 12 (f12_makeOrder (M 12) p1 p2 p3 p4)) := by
  refine MC.of (fic M 12) (f12_makeOrder (M 12) p1 p2 p3 p4) rfl (by decide) (Nat.le_of_ble_eq_true rfl) (fun p e s m args below meth c cx hr => ?_)
  unfold f12_makeOrder
  refine mw_sub (lv' := [(0, .ref (ad 12 0 0)), (1, .int p1), (2, .int p2), (3, .int p3), (4, .int p4)]) [0, 1, 2, 3, 4] rfl ?_
  refine mw_eqM (uW_self M 12) ?_
  have u_o0 : 0 ≤ ((M 12) 0 0 11).toInt := hok.o0
  refine mw_aload_n cx (q := 1) 0 rfl rfl dX12_makeOrder_0 rfl ?_
  refine mw_get cx (q := 4) (v := .ref (ad 12 13 0)) gf_X12_39 rfl rfl vi_12_0 dX12_makeOrder_1 rfl ?_
  refine mw_aload_n cx (q := 5) 0 rfl rfl dX12_makeOrder_4 rfl ?_
  refine mw_get cx (q := 8) (v := .int ((M 12) 0 0 11)) gf_X12_352 rfl rfl vi_12_0 dX12_makeOrder_5 rfl ?_
  refine mw_iload_n cx (q := 9) 1 rfl rfl dX12_makeOrder_8 rfl ?_
  refine mw_iastC cx (q := 10) (fun _ => rfl) (by decide) vi_12_13 (by (try simp only [vp_in_iff, i32lt, i32le, i32eq, i32add, i32sub, i32mul, i32neg, t32_0, t32_11, t32_60] at ho u_o0 ⊢); omega) (by decide) dX12_makeOrder_9 rfl (fun m1 em1 => ?_)
  refine mw_aload_n cx (q := 11) 0 rfl rfl dX12_makeOrder_10 rfl ?_
  refine mw_get cx (q := 14) (v := .ref (ad 12 14 0)) gf_X12_42 rfl rfl vi_12_0 dX12_makeOrder_11 rfl ?_
  refine mw_aload_n cx (q := 15) 0 rfl rfl dX12_makeOrder_14 rfl ?_
  refine mw_get cx (q := 18) (v := .int ((M 12) 0 0 11)) gf_X12_352 rfl (by rw [em1]; rfl) vi_12_0 dX12_makeOrder_15 rfl ?_
  refine mw_iload_n cx (q := 19) 2 rfl rfl dX12_makeOrder_18 rfl ?_
  refine mw_iastC cx (q := 20) (fun _ => rfl) (by decide) vi_12_14 (by (try simp only [vp_in_iff, i32lt, i32le, i32eq, i32add, i32sub, i32mul, i32neg, t32_0, t32_11, t32_60] at ho u_o0 ⊢); omega) (by decide) dX12_makeOrder_19 rfl (fun m2 em2 => ?_)
  refine mw_aload_n cx (q := 21) 0 rfl rfl dX12_makeOrder_20 rfl ?_
  refine mw_get cx (q := 24) (v := .ref (ad 12 15 0)) gf_X12_45 rfl rfl vi_12_0 dX12_makeOrder_21 rfl ?_
  refine mw_aload_n cx (q := 25) 0 rfl rfl dX12_makeOrder_24 rfl ?_
  refine mw_get cx (q := 28) (v := .int ((M 12) 0 0 11)) gf_X12_352 rfl (by rw [em2, em1]; rfl) vi_12_0 dX12_makeOrder_25 rfl ?_
  refine mw_iload_n cx (q := 29) 3 rfl rfl dX12_makeOrder_28 rfl ?_
  refine mw_iastC cx (q := 30) (fun _ => rfl) (by decide) vi_12_15 (by (try simp only [vp_in_iff, i32lt, i32le, i32eq, i32add, i32sub, i32mul, i32neg, t32_0, t32_11, t32_60] at ho u_o0 ⊢); omega) (by decide) dX12_makeOrder_29 rfl (fun m3 em3 => ?_)
  refine mw_aload_n cx (q := 31) 0 rfl rfl dX12_makeOrder_30 rfl ?_
  refine mw_get cx (q := 34) (v := .ref (ad 12 16 0)) gf_X12_48 rfl rfl vi_12_0 dX12_makeOrder_31 rfl ?_
  refine mw_aload_n cx (q := 35) 0 rfl rfl dX12_makeOrder_34 rfl ?_
  refine mw_get cx (q := 38) (v := .int ((M 12) 0 0 11)) gf_X12_352 rfl (by rw [em3, em2, em1]; rfl) vi_12_0 dX12_makeOrder_35 rfl ?_
  refine mw_iload cx (q := 40) 4 rfl dX12_makeOrder_38 rfl ?_
  refine mw_iastC cx (q := 41) (fun _ => rfl) (by decide) vi_12_16 (by (try simp only [vp_in_iff, i32lt, i32le, i32eq, i32add, i32sub, i32mul, i32neg, t32_0, t32_11, t32_60] at ho u_o0 ⊢); omega) (by decide) dX12_makeOrder_40 rfl (fun m4 em4 => ?_)
  refine mw_aload_n cx (q := 42) 0 rfl rfl dX12_makeOrder_41 rfl ?_
  refine mw_get cx (q := 45) (v := .ref (ad 12 17 0)) gf_X12_51 rfl rfl vi_12_0 dX12_makeOrder_42 rfl ?_
  refine mw_aload_n cx (q := 46) 0 rfl rfl dX12_makeOrder_45 rfl ?_
  refine mw_get cx (q := 49) (v := .int ((M 12) 0 0 11)) gf_X12_352 rfl (by rw [em4, em3, em2, em1]; rfl) vi_12_0 dX12_makeOrder_46 rfl ?_
  refine mw_iconst cx (q := 50) (v := 0) dX12_makeOrder_49 rfl rfl ?_
  refine mw_iastC cx (q := 51) (fun _ => rfl) (by decide) vi_12_17 (by (try simp only [vp_in_iff, i32lt, i32le, i32eq, i32add, i32sub, i32mul, i32neg, t32_0, t32_11, t32_60] at ho u_o0 ⊢); omega) (by decide) dX12_makeOrder_50 rfl (fun m5 em5 => ?_)
  refine mw_aload_n cx (q := 52) 0 rfl rfl dX12_makeOrder_51 rfl ?_
  refine mw_dup cx (q := 53) dX12_makeOrder_52 rfl rfl ?_
  refine mw_get cx (q := 56) (v := .int ((M 12) 0 0 11)) gf_X12_352 rfl (by rw [em5, em4, em3, em2, em1]; rfl) vi_12_0 dX12_makeOrder_53 rfl ?_
  refine mw_iconst cx (q := 57) (v := 1) dX12_makeOrder_56 rfl rfl ?_
  refine mw_iadd cx (q := 58) dX12_makeOrder_57 rfl ?_
  refine mw_putC cx (q := 61) 11 gf_X12_352 pf_X12_11 (int_fit _) rfl (Nat.le_of_ble_eq_true rfl) rfl vi_12_0 (by decide) dX12_makeOrder_58 rfl (fun m6 em6 => ?_)
  refine mw_aload_n cx (q := 62) 0 rfl rfl dX12_makeOrder_61 rfl ?_
  refine mw_get cx (q := 65) (v := .int (((M 12) 0 0 11) + 1)) gf_X12_352 rfl (by rw [em6]; rfl) vi_12_0 dX12_makeOrder_62 rfl ?_
  refine mw_iconst cx (q := 66) (v := 1) dX12_makeOrder_65 rfl rfl ?_
  refine mw_isub cx (q := 67) dX12_makeOrder_66 rfl ?_
  exact mw_iret cx hr rfl dX12_makeOrder_67
