/-- what reading a sign leaves: the other components, and a depth within bounds -/
def rdS (M M' : Wm) : Prop := (∀ c : Nat, c ≠ 6 → c ≠ 9 → M' c = M c) ∧ (0 ≤ (M 6 0 0 2).toInt ∧ (M 6 0 0 2).toInt ≤ 20 → 0 ≤ (M' 6 0 0 2).toInt ∧ (M' 6 0 0 2).toInt ≤ 20)
theorem rdS.rf (M : Wm) : rdS M M := ⟨fun _ _ _ => rfl, fun h => h⟩
theorem rdS.tr {M M1 M2 : Wm} (h1 : rdS M M1) (h2 : rdS M1 M2) : rdS M M2 := ⟨fun c a b => (h2.1 c a b).trans (h1.1 c a b), fun h => h2.2 (h1.2 h)⟩
theorem rdS_9 (M : Wm) (x : Cm) : rdS M (uW M 9 x) := ⟨fun c _ b => uW_ne M x b, fun h => h⟩
theorem rdS_6 (M : Wm) {g : Nat} {j : Int32} (x : Int32) (h : ¬ (g = 0 ∧ j = 2)) : rdS M (uW M 6 (u3 (M 6) g 0 j x)) := by
  refine ⟨fun c a _ => uW_ne M _ a, fun hd => ?_⟩
  have : uW M 6 (u3 (M 6) g 0 j x) 6 0 0 2 = M 6 0 0 2 := by
    rw [uW_at]
    unfold u3
    by_cases e : g = 0
    · subst e
      simp only [and_self, if_true, fI]
      rw [if_neg (fun z => h ⟨rfl, z.symm⟩)]
    · rw [if_neg (fun z => e z.1.symm)]
  rw [this]; exact hd
theorem rdS_d (M : Wm) (x : Int32) (h : 0 ≤ (M 6 0 0 2).toInt ∧ (M 6 0 0 2).toInt ≤ 20 → 0 ≤ x.toInt ∧ x.toInt ≤ 20) : rdS M (uW M 6 (u3 (M 6) 0 0 2 x)) := ⟨fun c a _ => uW_ne M _ a, fun hd => h hd⟩
theorem rdS_begin (M : Wm) (p : Int32) : rdS M (f6_begin M p) ∧ 0 ≤ (f6_begin M p 6 0 0 2).toInt ∧ (f6_begin M p 6 0 0 2).toInt ≤ 20 := by
  unfold f6_begin; simp only [bnd]
  refine ⟨(((rdS_9 M _).tr (rdS_6 _ _ (by decide))).tr (rdS_d _ _ (fun _ => by decide))).tr (rdS_6 _ _ (by decide)), ?_⟩
  show 0 ≤ (0 : Int32).toInt ∧ (0 : Int32).toInt ≤ 20
  decide
theorem rdS_growsWord (M : Wm) (a b : Int32) : rdS M (f6_growsWord M a b).2 := by
  unfold f6_growsWord; simp only [bnd]
  by_cases h : M 6 0 0 5 < 6
  · rw [if_pos h]; exact (rdS_6 M _ (by decide)).tr (rdS_9 _ _)
  · rw [if_neg h]; exact rdS.rf M
theorem rdS_beginWord (M : Wm) (a b : Int32) : rdS M (f6_beginWord M a b) := by
  unfold f6_beginWord; simp only [bnd]
  exact ((((rdS_9 M _).tr (rdS_9 _ _)).tr (rdS_6 _ _ (by decide))).tr (rdS_6 _ _ (by decide))).tr (rdS_6 _ _ (by decide))
theorem rdS_takesMinus (M : Wm) (a : Int32) : rdS M (f6_takesMinus M a).2 := by
  unfold f6_takesMinus; simp only [bnd]
  by_cases h : M 6 0 0 3 = 0
  · rw [if_pos h]; exact ((rdS_beginWord M a 1).tr (rdS_6 _ _ (by decide))).tr (rdS_6 _ _ (by decide))
  · rw [if_neg h]; exact rdS.rf M
theorem rdS_takesDigit (M : Wm) (a b : Int32) : rdS M (f6_takesDigit M a b).2 := by
  unfold f6_takesDigit; simp only [bnd, jn]
  by_cases h : M 6 0 0 3 = 3
  · rw [if_pos h]; exact rdS.rf M
  · rw [if_neg h]
    by_cases h2 : M 6 0 0 3 = 0
    · rw [if_pos h2]
      split
      · exact ((rdS_beginWord M a 1).tr (rdS_6 _ _ (by decide))).tr (rdS_growsWord _ _ _)
      · exact ((rdS_beginWord M a 1).tr (rdS_6 _ _ (by decide))).tr (rdS_growsWord _ _ _)
    · rw [if_neg h2]
      split
      · exact (rdS_6 _ _ (by decide)).tr (rdS_growsWord _ _ _)
      · exact (rdS_6 _ _ (by decide)).tr (rdS_growsWord _ _ _)
theorem rdS_takesLetter (M : Wm) (a b : Int32) : rdS M (f6_takesLetter M a b).2 := by
  unfold f6_takesLetter; simp only [bnd, jn]
  by_cases h : M 6 0 0 3 = 1
  · rw [if_pos h]; exact rdS.rf M
  · rw [if_neg h]
    by_cases h1 : M 6 0 0 3 = 2
    · rw [if_pos h1]; exact rdS.rf M
    · rw [if_neg h1]
      by_cases h2 : M 6 0 0 3 = 0
      · rw [if_pos h2]; exact ((rdS_beginWord M a 2).tr (rdS_6 _ _ (by decide))).tr (rdS_growsWord _ _ _)
      · rw [if_neg h2]; exact (rdS_6 _ _ (by decide)).tr (rdS_growsWord _ _ _)
theorem rdS_opensList (M : Wm) (a : Int32) : rdS M (f6_opensList M a).2 := by
  unfold f6_opensList; simp only [bnd]
  by_cases h : M 6 0 0 2 < 20
  · rw [if_pos h]
    refine (((rdS_9 M _).tr (rdS_9 _ _)).tr (rdS_d _ _ (fun hd => ?_))).tr (rdS_6 _ _ (fun z => absurd z.1 (by decide)))
    simp only [i32lt, t32_20] at h
    have hd2 : 0 ≤ (M 6 0 0 2).toInt ∧ (M 6 0 0 2).toInt ≤ 20 := hd
    rw [i32add, t32_1]; omega
  · rw [if_neg h]; exact rdS.rf M
theorem rdS_closesList (M : Wm) : rdS M (uW M 6 (f6_closesList (M 6)).2) := by
  unfold f6_closesList; simp only [bnd]
  by_cases h : 0 < M 6 0 0 2
  · rw [if_pos h]
    refine rdS_d _ _ (fun hd => ?_)
    simp only [i32lt, t32_0] at h
    have hd2 : 0 ≤ (M 6 0 0 2).toInt ∧ (M 6 0 0 2).toInt ≤ 20 := hd
    rw [i32sub, t32_1]; omega
  · rw [if_neg h]; exact (uW_self M 6) ▸ rdS.rf M
theorem rdS_takesSign (M : Wm) (a b : Int32) : rdS M (f6_takesSign M a b).2 := by
  unfold f6_takesSign; simp only [bnd]
  split
  · exact rdS_takesDigit M a _
  · split
    · exact rdS_takesLetter M a _
    · split
      · exact rdS_takesMinus M a
      · split
        · exact rdS.rf M
        · split
          · exact (rdS_6 M _ (by decide)).tr (rdS_opensList _ _)
          · split
            · exact rdS_6 M _ (by decide)
            · split
              · exact (rdS_6 M _ (by decide)).tr (rdS_closesList _)
              · exact (rdS_6 M _ (by decide)).tr (rdS_closesList _)
def f8_lengthOf (m : Cm) (p1 : Int32) : Int32 := (m 2 0 p1)
set_option maxHeartbeats 4000000 in
set_option maxRecDepth 100000 in
theorem mc_X8_lengthOf (l : Launch) (D : va_G) (ta : wTa) (ad : wAd) (M : Wm) (p1 : Int32) (hp1 : vp_in p1 8) : MC l D ta ad yX8_lengthOf cX8_lengthOf 2 (some .int) 0 [.ref (ad 8 0 0), .int p1] M (fip M (f8_lengthOf (M 8) p1)) := by
  refine MC.of (fip M) (f8_lengthOf (M 8) p1) rfl (by decide) (Nat.le_of_ble_eq_true rfl) (fun p e s m args below meth c cx hr => ?_)
  unfold f8_lengthOf
  refine mw_sub (lv' := [(0, .ref (ad 8 0 0)), (1, .int p1)]) [0, 1] rfl ?_
  refine mw_aload_n cx (q := 1) 0 rfl rfl dX8_lengthOf_0 rfl ?_
  refine mw_get cx (q := 4) (v := .ref (ad 8 2 0)) gf_X8_15 rfl rfl vi_8_0 dX8_lengthOf_1 rfl ?_
  refine mw_iload_n cx (q := 5) 1 rfl rfl dX8_lengthOf_4 rfl ?_
  refine mw_iald cx (q := 6) (w := ((M 8) 2 0 p1)) rfl (fun _ => rfl) vi_8_2 hp1 dX8_lengthOf_5 rfl ?_
  exact mw_iret cx hr rfl dX8_lengthOf_6
def f8_signAt (m : Cm) (p1 : Int32) (p2 : Int32) : Int32 := (m 1 0 ((p1 * 120) + p2))
set_option maxHeartbeats 4000000 in
set_option maxRecDepth 100000 in
theorem mc_X8_signAt (l : Launch) (D : va_G) (ta : wTa) (ad : wAd) (M : Wm) (p1 : Int32) (p2 : Int32) (hp1 : vp_in p1 8) (hp20 : 0 ≤ p2.toInt) (hp21 : p2.toInt < 120) : MC l D ta ad yX8_signAt cX8_signAt 3 (some .int) 0 [.ref (ad 8 0 0), .int p1, .int p2] M (fip M (f8_signAt (M 8) p1 p2)) := by
  refine MC.of (fip M) (f8_signAt (M 8) p1 p2) rfl (by decide) (Nat.le_of_ble_eq_true rfl) (fun p e s m args below meth c cx hr => ?_)
  unfold f8_signAt
  refine mw_sub (lv' := [(0, .ref (ad 8 0 0)), (1, .int p1), (2, .int p2)]) [0, 1, 2] rfl ?_
  refine mw_aload_n cx (q := 1) 0 rfl rfl dX8_signAt_0 rfl ?_
  refine mw_get cx (q := 4) (v := .ref (ad 8 1 0)) gf_X8_9 rfl rfl vi_8_0 dX8_signAt_1 rfl ?_
  refine mw_iload_n cx (q := 5) 1 rfl rfl dX8_signAt_4 rfl ?_
  refine mw_bipush cx (q := 7) (v := 120) dX8_signAt_5 rfl rfl ?_
  refine mw_imul cx (q := 8) dX8_signAt_7 rfl ?_
  refine mw_iload_n cx (q := 9) 2 rfl rfl dX8_signAt_8 rfl ?_
  refine mw_iadd cx (q := 10) dX8_signAt_9 rfl ?_
  refine mw_iald cx (q := 11) (w := ((M 8) 1 0 ((p1 * 120) + p2))) rfl (fun _ => rfl) vi_8_1 (by have hm : (p1 * 120).toInt = p1.toInt * 120 := (by rw [vp_in_iff] at hp1; rw [i32mul, t32_120]; omega); rw [vp_in_iff] at hp1 ⊢; rw [i32addn (by rw [hm]; omega) (by rw [hm]; omega), hm]; omega) dX8_signAt_10 rfl ?_
  exact mw_iret cx hr rfl dX8_signAt_11
def f8_append (m : Cm) (p1 : Int32) (p2 : Int32) : (Int32 × Cm) := bnd (u3 m 1 0 ((p1 * 120) + (m 2 0 p1)) p2) (fun (m1 : Cm) => bnd (u3 m1 2 0 p1 ((m 2 0 p1) + 1)) (fun (m2 : Cm) => bnd (u3 m2 4 0 p1 0) (fun (m3 : Cm) => ((m2 2 0 p1), m3))))
set_option maxHeartbeats 4000000 in
set_option maxRecDepth 100000 in
theorem mc_X8_append (l : Launch) (D : va_G) (ta : wTa) (ad : wAd) (M : Wm) (p1 : Int32) (p2 : Int32) (hp1 : vp_in p1 8) (hl0 : 0 ≤ ((M 8) 2 0 p1).toInt) (hl1 : ((M 8) 2 0 p1).toInt < 120) : MC l D ta ad yX8_append cX8_append 3 (some .int) 0 [.ref (ad 8 0 0), .int p1, .int p2] M (fic M 8 (f8_append (M 8) p1 p2)) := by
  refine MC.of (fic M 8) (f8_append (M 8) p1 p2) rfl (by decide) (Nat.le_of_ble_eq_true rfl) (fun p e s m args below meth c cx hr => ?_)
  unfold f8_append
  refine mw_sub (lv' := [(0, .ref (ad 8 0 0)), (1, .int p1), (2, .int p2)]) [0, 1, 2] rfl ?_
  refine mw_eqM (uW_self M 8) ?_
  refine mw_aload_n cx (q := 1) 0 rfl rfl dX8_append_0 rfl ?_
  refine mw_get cx (q := 4) (v := .ref (ad 8 1 0)) gf_X8_9 rfl rfl vi_8_0 dX8_append_1 rfl ?_
  refine mw_iload_n cx (q := 5) 1 rfl rfl dX8_append_4 rfl ?_
  refine mw_bipush cx (q := 7) (v := 120) dX8_append_5 rfl rfl ?_
  refine mw_imul cx (q := 8) dX8_append_7 rfl ?_
  refine mw_aload_n cx (q := 9) 0 rfl rfl dX8_append_8 rfl ?_
  refine mw_get cx (q := 12) (v := .ref (ad 8 2 0)) gf_X8_15 rfl rfl vi_8_0 dX8_append_9 rfl ?_
  refine mw_iload_n cx (q := 13) 1 rfl rfl dX8_append_12 rfl ?_
  refine mw_iald cx (q := 14) (w := ((M 8) 2 0 p1)) rfl (fun _ => rfl) vi_8_2 hp1 dX8_append_13 rfl ?_
  refine mw_iadd cx (q := 15) dX8_append_14 rfl ?_
  refine mw_iload_n cx (q := 16) 2 rfl rfl dX8_append_15 rfl ?_
  refine mw_iastC cx (q := 17) (fun _ => rfl) (by decide) vi_8_1 (by have hm : (p1 * 120).toInt = p1.toInt * 120 := (by rw [vp_in_iff] at hp1; rw [i32mul, t32_120]; omega); rw [vp_in_iff] at hp1 ⊢; rw [i32addn (by rw [hm]; omega) (by rw [hm]; omega), hm]; omega) (by decide) dX8_append_16 rfl (fun m1 em1 => ?_)
  refine mw_aload_n cx (q := 18) 0 rfl rfl dX8_append_17 rfl ?_
  refine mw_get cx (q := 21) (v := .ref (ad 8 2 0)) gf_X8_15 rfl rfl vi_8_0 dX8_append_18 rfl ?_
  refine mw_iload_n cx (q := 22) 1 rfl rfl dX8_append_21 rfl ?_
  refine mw_dup2 cx (q := 23) dX8_append_22 rfl rfl rfl ?_
  refine mw_iald cx (q := 24) (w := ((M 8) 2 0 p1)) (by rw [em1]; rfl) (fun _ => rfl) vi_8_2 hp1 dX8_append_23 rfl ?_
  refine mw_iconst cx (q := 25) (v := 1) dX8_append_24 rfl rfl ?_
  refine mw_iadd cx (q := 26) dX8_append_25 rfl ?_
  refine mw_iastC cx (q := 27) (fun _ => rfl) (by decide) vi_8_2 hp1 (by decide) dX8_append_26 rfl (fun m2 em2 => ?_)
  refine mw_aload_n cx (q := 28) 0 rfl rfl dX8_append_27 rfl ?_
  refine mw_get cx (q := 31) (v := .ref (ad 8 4 0)) gf_X8_21 rfl rfl vi_8_0 dX8_append_28 rfl ?_
  refine mw_iload_n cx (q := 32) 1 rfl rfl dX8_append_31 rfl ?_
  refine mw_iconst cx (q := 33) (v := 0) dX8_append_32 rfl rfl ?_
  refine mw_zastC cx (q := 34) (fun _ => rfl) (by decide) vi_8_4 hp1 (by decide) (by rfl) dX8_append_33 rfl (fun m3 em3 => ?_)
  refine mw_aload_n cx (q := 35) 0 rfl rfl dX8_append_34 rfl ?_
  refine mw_get cx (q := 38) (v := .ref (ad 8 2 0)) gf_X8_15 rfl rfl vi_8_0 dX8_append_35 rfl ?_
  refine mw_iload_n cx (q := 39) 1 rfl rfl dX8_append_38 rfl ?_
  refine mw_iald cx (q := 40) (w := (m2 2 0 p1)) (by rw [em3]; rfl) (fun _ => rfl) vi_8_2 hp1 dX8_append_39 rfl ?_
  exact mw_iret cx hr rfl dX8_append_40
def f8_cut (m : Cm) (p1 : Int32) (p2 : Int32) : (Int32 × Cm) := bnd (u3 m 2 0 p1 ((m 2 0 p1) - (mnI p2 (m 2 0 p1)))) (fun (m1 : Cm) => bnd (u3 m1 4 0 p1 0) (fun (m2 : Cm) => ((m1 2 0 p1), m2)))
set_option maxHeartbeats 4000000 in
set_option maxRecDepth 100000 in
theorem mc_X8_cut (l : Launch) (D : va_G) (ta : wTa) (ad : wAd) (M : Wm) (p1 : Int32) (p2 : Int32) (hp1 : vp_in p1 8) : MC l D ta ad yX8_cut cX8_cut 3 (some .int) 1 [.ref (ad 8 0 0), .int p1, .int p2] M (fic M 8 (f8_cut (M 8) p1 p2)) := by
  refine MC.of (fic M 8) (f8_cut (M 8) p1 p2) rfl (by decide) (Nat.le_of_ble_eq_true rfl) (fun p e s m args below meth c cx hr => ?_)
  unfold f8_cut
  refine mw_sub (lv' := [(0, .ref (ad 8 0 0)), (1, .int p1), (2, .int p2)]) [0, 1, 2] rfl ?_
  refine mw_eqM (uW_self M 8) ?_
  refine mw_aload_n cx (q := 1) 0 rfl rfl dX8_cut_0 rfl ?_
  refine mw_get cx (q := 4) (v := .ref (ad 8 2 0)) gf_X8_15 rfl rfl vi_8_0 dX8_cut_1 rfl ?_
  refine mw_iload_n cx (q := 5) 1 rfl rfl dX8_cut_4 rfl ?_
  refine mw_dup2 cx (q := 6) dX8_cut_5 rfl rfl rfl ?_
  refine mw_iald cx (q := 7) (w := ((M 8) 2 0 p1)) rfl (fun _ => rfl) vi_8_2 hp1 dX8_cut_6 rfl ?_
  refine mw_iload_n cx (q := 8) 2 rfl rfl dX8_cut_7 rfl ?_
  refine mw_aload_n cx (q := 9) 0 rfl rfl dX8_cut_8 rfl ?_
  refine mw_get cx (q := 12) (v := .ref (ad 8 2 0)) gf_X8_15 rfl rfl vi_8_0 dX8_cut_9 rfl ?_
  refine mw_iload_n cx (q := 13) 1 rfl rfl dX8_cut_12 rfl ?_
  refine mw_iald cx (q := 14) (w := ((M 8) 2 0 p1)) rfl (fun _ => rfl) vi_8_2 hp1 dX8_cut_13 rfl ?_
  refine mw_min cx (q := 17) cm_X8_34 ⟨Nat.le_of_ble_eq_true rfl, Nat.le_of_ble_eq_true rfl⟩ ⟨Nat.le_refl _, Nat.le_refl _⟩ (by simp [Value.category]) dX8_cut_14 rfl ?_
  refine mw_isub cx (q := 18) dX8_cut_17 rfl ?_
  refine mw_iastC cx (q := 19) (fun _ => rfl) (by decide) vi_8_2 hp1 (by decide) dX8_cut_18 rfl (fun m1 em1 => ?_)
  refine mw_aload_n cx (q := 20) 0 rfl rfl dX8_cut_19 rfl ?_
  refine mw_get cx (q := 23) (v := .ref (ad 8 4 0)) gf_X8_21 rfl rfl vi_8_0 dX8_cut_20 rfl ?_
  refine mw_iload_n cx (q := 24) 1 rfl rfl dX8_cut_23 rfl ?_
  refine mw_iconst cx (q := 25) (v := 0) dX8_cut_24 rfl rfl ?_
  refine mw_zastC cx (q := 26) (fun _ => rfl) (by decide) vi_8_4 hp1 (by decide) (by rfl) dX8_cut_25 rfl (fun m2 em2 => ?_)
  refine mw_aload_n cx (q := 27) 0 rfl rfl dX8_cut_26 rfl ?_
  refine mw_get cx (q := 30) (v := .ref (ad 8 2 0)) gf_X8_15 rfl rfl vi_8_0 dX8_cut_27 rfl ?_
  refine mw_iload_n cx (q := 31) 1 rfl rfl dX8_cut_30 rfl ?_
  refine mw_iald cx (q := 32) (w := (m1 2 0 p1)) (by rw [em2]; rfl) (fun _ => rfl) vi_8_2 hp1 dX8_cut_31 rfl ?_
  exact mw_iret cx hr rfl dX8_cut_32
def f8_faultOf (m : Cm) (p1 : Int32) : Int32 := (m 3 0 p1)
set_option maxHeartbeats 4000000 in
set_option maxRecDepth 100000 in
theorem mc_X8_faultOf (l : Launch) (D : va_G) (ta : wTa) (ad : wAd) (M : Wm) (p1 : Int32) (hp1 : vp_in p1 8) : MC l D ta ad yX8_faultOf cX8_faultOf 2 (some .int) 0 [.ref (ad 8 0 0), .int p1] M (fip M (f8_faultOf (M 8) p1)) := by
  refine MC.of (fip M) (f8_faultOf (M 8) p1) rfl (by decide) (Nat.le_of_ble_eq_true rfl) (fun p e s m args below meth c cx hr => ?_)
  unfold f8_faultOf
  refine mw_sub (lv' := [(0, .ref (ad 8 0 0)), (1, .int p1)]) [0, 1] rfl ?_
  refine mw_aload_n cx (q := 1) 0 rfl rfl dX8_faultOf_0 rfl ?_
  refine mw_get cx (q := 4) (v := .ref (ad 8 3 0)) gf_X8_18 rfl rfl vi_8_0 dX8_faultOf_1 rfl ?_
  refine mw_iload_n cx (q := 5) 1 rfl rfl dX8_faultOf_4 rfl ?_
  refine mw_iald cx (q := 6) (w := ((M 8) 3 0 p1)) rfl (fun _ => rfl) vi_8_3 hp1 dX8_faultOf_5 rfl ?_
  exact mw_iret cx hr rfl dX8_faultOf_6
def f8_faultRead_lp13 (p1 : Int32) (K4 : Wm → (Int32 × Wm)) : Nat → (Int32 × Wm) → (Int32 × Wm)
  | 0, x3 => (0, x3.2)
  | n5 + 1, x3 => if (x3.2 8 2 0 p1) ≤ x3.1 then K4 x3.2 else bnd (f9_placeOf p1 x3.1) (fun (r7 : Int32) => bnd (f8_signAt (x3.2 8) p1 x3.1) (fun (r8 : Int32) => bnd (f6_takesSign x3.2 r7 r8) (fun (r9 : Bool × Wm) => if r9.1 = true then bnd (x3.1 + 1) (fun (v11 : Int32) => f8_faultRead_lp13 p1 K4 n5 (v11, r9.2)) else (x3.1, r9.2))))
theorem f8_faultRead_lp13_s (p1 : Int32) (K4 : Wm → (Int32 × Wm)) (n5 : Nat) (x3 : Int32 × Wm) : f8_faultRead_lp13 p1 K4 (n5 + 1) x3 = if (x3.2 8 2 0 p1) ≤ x3.1 then K4 x3.2 else bnd (f9_placeOf p1 x3.1) (fun (r7 : Int32) => bnd (f8_signAt (x3.2 8) p1 x3.1) (fun (r8 : Int32) => bnd (f6_takesSign x3.2 r7 r8) (fun (r9 : Bool × Wm) => if r9.1 = true then bnd (x3.1 + 1) (fun (v11 : Int32) => f8_faultRead_lp13 p1 K4 n5 (v11, r9.2)) else (x3.1, r9.2)))) := rfl
def f8_faultRead (M : Wm) (p1 : Int32) : (Int32 × Wm) := bnd (f9_rowOf p1) (fun (r1 : Int32) => bnd (f6_begin M r1) (fun (r2 : Wm) => jn (fun (y12 : Wm) => bnd (f6_mayEnd (y12 6)) (fun (r13 : Bool) => if r13 = true then ((-1), y12) else ((y12 8 2 0 p1), y12))) (fun K4 => f8_faultRead_lp13 p1 K4 122 (0, r2))))
set_option maxHeartbeats 4000000 in
set_option maxRecDepth 100000 in
theorem mc_X8_faultRead (l : Launch) (D : va_G) (ta : wTa) (ad : wAd) (M : Wm) (p1 : Int32) (hp1 : vp_in p1 8) (hln : ∀ j : Int32, vp_in j 8 → 0 ≤ (M 8 2 0 j).toInt ∧ (M 8 2 0 j).toInt ≤ 120) : MC l D ta ad yX8_faultRead cX8_faultRead 3 (some .int) 4 [.ref (ad 8 0 0), .int p1] M (fi (f8_faultRead M p1)) := by
  refine MC.of (fi) (f8_faultRead M p1) rfl (by decide) (Nat.le_of_ble_eq_true rfl) (fun p e s m args below meth c cx hr => ?_)
  unfold f8_faultRead
  refine mw_sub (lv' := [(0, .ref (ad 8 0 0)), (1, .int p1)]) [0, 1] rfl ?_
  refine mw_aload_n cx (q := 1) 0 rfl rfl dX8_faultRead_0 rfl ?_
  refine mw_get cx (q := 4) (v := .ref (ad 6 0 0)) gf_X8_30 rfl rfl vi_8_0 dX8_faultRead_1 rfl ?_
  refine mw_iload_n cx (q := 5) 1 rfl rfl dX8_faultRead_4 rfl ?_
  refine mw_bnd (fun r1 er1 => ?_)
  refine mw_callS cx (q := 8) (d := 1) (As := [.int p1]) (z := fip M r1) (st := [.ref (ad 6 0 0)]) (st1 := [.int r1, .ref (ad 6 0 0)]) (M' := M) (by rw [er1]; exact mc_X9_rowOf l D ta ad M p1) cv_X8_44 ⟨Nat.le_of_ble_eq_true rfl, Nat.le_of_ble_eq_true rfl⟩ ⟨Nat.le_refl _, Nat.le_refl _⟩ (by simp [Value.category]) rfl rfl rfl dX8_faultRead_5 rfl ?_
  refine mw_bnd (fun r2 er2 => ?_)
  refine mw_callV cx (q := 11) (d := 1) (As := [.int r1]) (z := fv r2) (st := []) (st1 := []) (M' := r2) (by rw [er2]; exact mc_X6_begin l D ta ad M r1) cv_X8_49 rfl rfl rfl vi_6_0 ⟨Nat.le_of_ble_eq_true rfl, Nat.le_of_ble_eq_true rfl⟩ ⟨Nat.le_refl _, Nat.le_refl _⟩ (by simp [Value.category]) rfl rfl rfl dX8_faultRead_8 rfl ?_
  have hb : ∀ j : Int32, vp_in j 8 → 0 ≤ (r2 8 2 0 j).toInt ∧ (r2 8 2 0 j).toInt ≤ 120 := (by intro j hj; rw [er2, (rdS_begin _ _).1.1 8 (by decide) (by decide)]; exact hln j hj)
  have hb0 : 0 ≤ (r2 6 0 0 2).toInt := (by rw [er2]; exact (rdS_begin _ _).2.1)
  have hb1 : (r2 6 0 0 2).toInt ≤ 20 := (by rw [er2]; exact (rdS_begin _ _).2.2)
  refine mw_iconst cx (q := 12) (v := 0) dX8_faultRead_11 rfl rfl ?_
  refine mw_istore_n cx (q := 13) (lv' := [(2, .int 0), (0, .ref (ad 8 0 0)), (1, .int p1)]) rfl rfl (by decide) dX8_faultRead_12 rfl ?_
  refine mw_jnP (P := fun (y12 : Wm) => (∀ j : Int32, vp_in j 8 → 0 ≤ (y12 8 2 0 j).toInt ∧ (y12 8 2 0 j).toInt ≤ 120) ∧ (0 ≤ (y12 6 0 0 2).toInt) ∧ ((y12 6 0 0 2).toInt ≤ 20)) (Mj := fun (y12 : Wm) => y12) (pj := 52) (lj := fun (y12 : Wm) => [(0, .ref (ad 8 0 0)), (1, .int p1)]) (sj := fun (y12 : Wm) => []) (fun y12 jy12 => ?_) (fun K4 hK4 => ?_)
  · obtain ⟨jy12_0, jy12_1, jy12_2⟩ := jy12
    refine mw_aload_n cx (q := 53) 0 rfl rfl dX8_faultRead_52 rfl ?_
    refine mw_get cx (q := 56) (v := .ref (ad 6 0 0)) gf_X8_30 rfl rfl vi_8_0 dX8_faultRead_53 rfl ?_
    refine mw_bnd (fun r13 er13 => ?_)
    refine mw_callV cx (q := 59) (d := 0) (As := []) (z := fzp y12 r13) (st := []) (st1 := [.int (b2i r13)]) (M' := y12) (by rw [er13]; exact mc_X6_mayEnd l D ta ad y12) cv_X8_63 rfl rfl rfl vi_6_0 ⟨Nat.le_of_ble_eq_true rfl, Nat.le_of_ble_eq_true rfl⟩ ⟨Nat.le_refl _, Nat.le_refl _⟩ (by simp [Value.category]) rfl rfl rfl dX8_faultRead_56 rfl ?_
    refine mw_ifb_eq cx (tgt := 66) (q := 62) dX8_faultRead_59 (by decide) rfl (fun h14 => ?_) (fun h14 => ?_)
    · refine mw_aload_n cx (q := 67) 0 rfl rfl dX8_faultRead_66 rfl ?_
      refine mw_get cx (q := 70) (v := .ref (ad 8 2 0)) gf_X8_15 rfl rfl vi_8_0 dX8_faultRead_67 rfl ?_
      refine mw_iload_n cx (q := 71) 1 rfl rfl dX8_faultRead_70 rfl ?_
      refine mw_iald cx (q := 72) (w := (y12 8 2 0 p1)) rfl (fun _ => rfl) vi_8_2 hp1 dX8_faultRead_71 rfl ?_
      exact mw_iret cx hr rfl dX8_faultRead_72
    · refine mw_iconst cx (q := 63) (v := (-1)) dX8_faultRead_62 rfl rfl ?_
      refine mw_goto cx (tgt := 72) dX8_faultRead_63 (by decide) ?_
      exact mw_iret cx hr rfl dX8_faultRead_72
  · refine mw_loop (F := f8_faultRead_lp13 p1 K4) (I := fun (x3 : Int32 × Wm) => (0 ≤ (x3.1).toInt) ∧ (∀ j : Int32, vp_in j 8 → 0 ≤ (x3.2 8 2 0 j).toInt ∧ (x3.2 8 2 0 j).toInt ≤ 120) ∧ (0 ≤ (x3.2 6 0 0 2).toInt) ∧ ((x3.2 6 0 0 2).toInt ≤ 20)) (μ := fun (x3 : Int32 × Wm) => (121 - (x3.1).toInt).toNat) (Mx := fun (x3 : Int32 × Wm) => x3.2) (px := 13) (lx := fun (x3 : Int32 × Wm) => [(2, .int x3.1), (0, .ref (ad 8 0 0)), (1, .int p1)]) (fun n5 x3 ivx3 ih => ?_) 122 (0, r2) ⟨(by simp only [vp_in_iff, i32lt, i32le, i32eq, i32add, i32sub, i32mul, i32neg, t32_0, t32_2, t32_6, t32_8, t32_20, t32_120] at hln hb hb0 hb1 ⊢; omega), hb, hb0, hb1⟩ (by simp only [vp_in_iff, i32lt, i32le, i32eq, i32add, i32sub, i32mul, i32neg, t32_0, t32_2, t32_6, t32_8, t32_20, t32_120, t32_121, t32_122] at hln hb hb0 hb1 ⊢; omega)
    obtain ⟨ivx3_0, ivx3_1, ivx3_2, ivx3_3⟩ := ivx3
    refine mw_eqS (f8_faultRead_lp13_s p1 K4 n5 x3) ?_
    refine mw_iload_n cx (q := 14) 0 rfl rfl dX8_faultRead_13 rfl ?_
    refine mw_aload_n cx (q := 15) 1 rfl rfl dX8_faultRead_14 rfl ?_
    refine mw_get cx (q := 18) (v := .ref (ad 8 2 0)) gf_X8_15 rfl rfl vi_8_0 dX8_faultRead_15 rfl ?_
    refine mw_iload_n cx (q := 19) 2 rfl rfl dX8_faultRead_18 rfl ?_
    refine mw_iald cx (q := 20) (w := (x3.2 8 2 0 p1)) rfl (fun _ => rfl) vi_8_2 hp1 dX8_faultRead_19 rfl ?_
    refine mw_icmp_ge cx (tgt := 52) (q := 23) dX8_faultRead_20 (by decide) rfl (fun h6 => ?_) (fun h6 => ?_)
    · refine mw_sub [1, 2] rfl ?_
      exact hK4 x3.2 ⟨ivx3_1, ivx3_2, ivx3_3⟩
    · refine mw_aload_n cx (q := 24) 1 rfl rfl dX8_faultRead_23 rfl ?_
      refine mw_get cx (q := 27) (v := .ref (ad 6 0 0)) gf_X8_30 rfl rfl vi_8_0 dX8_faultRead_24 rfl ?_
      refine mw_iload_n cx (q := 28) 2 rfl rfl dX8_faultRead_27 rfl ?_
      refine mw_iload_n cx (q := 29) 0 rfl rfl dX8_faultRead_28 rfl ?_
      refine mw_bnd (fun r7 er7 => ?_)
      refine mw_callS cx (q := 32) (d := 0) (As := [.int p1, .int x3.1]) (z := fip x3.2 r7) (st := [.ref (ad 6 0 0)]) (st1 := [.int r7, .ref (ad 6 0 0)]) (M' := x3.2) (by rw [er7]; exact mc_X9_placeOf l D ta ad x3.2 p1 x3.1) cv_X8_53 ⟨Nat.le_of_ble_eq_true rfl, Nat.le_of_ble_eq_true rfl⟩ ⟨Nat.le_refl _, Nat.le_refl _⟩ (by simp [Value.category]) rfl rfl rfl dX8_faultRead_29 rfl ?_
      refine mw_aload_n cx (q := 33) 1 rfl rfl dX8_faultRead_32 rfl ?_
      refine mw_iload_n cx (q := 34) 2 rfl rfl dX8_faultRead_33 rfl ?_
      refine mw_iload_n cx (q := 35) 0 rfl rfl dX8_faultRead_34 rfl ?_
      refine mw_bnd (fun r8 er8 => ?_)
      refine mw_callV cx (q := 38) (d := 0) (As := [.int p1, .int x3.1]) (z := fip x3.2 r8) (st := [.int r7, .ref (ad 6 0 0)]) (st1 := [.int r8, .int r7, .ref (ad 6 0 0)]) (M' := x3.2) (by rw [er8]; exact mc_X8_signAt l D ta ad x3.2 p1 x3.1 hp1 (by simp only [vp_in_iff, i32lt, i32le, i32eq, i32add, i32sub, i32mul, i32neg, t32_0, t32_2, t32_6, t32_8, t32_20, t32_120] at ivx3_0 h6 hp1 ivx3_1 ivx3_2 ivx3_3 hln hb hb0 hb1 ⊢; omega) (by have hq := (ivx3_1 p1 hp1).2; have hz := h6; simp only [i32le] at hz; omega)) cv_X8_56 rfl rfl rfl vi_8_0 ⟨Nat.le_of_ble_eq_true rfl, Nat.le_of_ble_eq_true rfl⟩ ⟨Nat.le_refl _, Nat.le_refl _⟩ (by simp [Value.category]) rfl rfl rfl dX8_faultRead_35 rfl ?_
      refine mw_bnd (fun r9 er9 => ?_)
      refine mw_callV cx (q := 41) (d := 3) (As := [.int r7, .int r8]) (z := fz r9) (st := []) (st1 := [.int (b2i r9.1)]) (M' := r9.2) (by rw [er9]; exact mc_X6_takesSign l D ta ad x3.2 r7 r8 ivx3_2 ivx3_3) cv_X8_59 rfl rfl rfl vi_6_0 ⟨Nat.le_of_ble_eq_true rfl, Nat.le_of_ble_eq_true rfl⟩ ⟨Nat.le_refl _, Nat.le_refl _⟩ (by simp [Value.category]) rfl rfl rfl dX8_faultRead_38 rfl ?_
      have hk : ∀ j : Int32, vp_in j 8 → 0 ≤ (r9.2 8 2 0 j).toInt ∧ (r9.2 8 2 0 j).toInt ≤ 120 := (by intro j hj; rw [er9, (rdS_takesSign _ _ _).1 8 (by decide) (by decide)]; exact ivx3_1 j hj)
      have hk0 : 0 ≤ (r9.2 6 0 0 2).toInt := (by rw [er9]; exact ((rdS_takesSign _ _ _).2 ⟨ivx3_2, ivx3_3⟩).1)
      have hk1 : (r9.2 6 0 0 2).toInt ≤ 20 := (by rw [er9]; exact ((rdS_takesSign _ _ _).2 ⟨ivx3_2, ivx3_3⟩).2)
      refine mw_ifb_ne cx (tgt := 46) (q := 44) dX8_faultRead_41 (by decide) rfl (fun h10 => ?_) (fun h10 => ?_)
      · refine mw_bnd (fun v11 ev11 => ?_)
        refine mw_iinc cx (q := 49) (v := v11) (lv' := [(2, .int v11), (0, .ref (ad 8 0 0)), (1, .int p1)]) 0 rfl (by rw [ev11]; rfl) rfl (by decide) dX8_faultRead_46 rfl ?_
        refine mw_goto cx (tgt := 13) dX8_faultRead_49 (by decide) ?_
        exact ih (v11, r9.2) ⟨(by have hq := (ivx3_1 p1 hp1).2; have hz := h6; have hi := ivx3_0; rw [ev11, i32add, t32_1]; simp only [i32le] at hz; omega), hk, hk0, hk1⟩ (by have hq := (ivx3_1 p1 hp1).2; have hz := h6; have hi := ivx3_0; rw [ev11, i32add, t32_1]; simp only [i32le] at hz; omega)
      · refine mw_iload_n cx (q := 45) 0 rfl rfl dX8_faultRead_44 rfl ?_
        exact mw_iret cx hr rfl dX8_faultRead_45
theorem rdS_faultRead_lp (p1 : Int32) (K : Wm → Int32 × Wm) (hK : ∀ y : Wm, rdS y (K y).2) : ∀ (k : Nat) (x : Int32 × Wm), rdS x.2 (f8_faultRead_lp13 p1 K k x).2 := by
  intro k
  induction k with
  | zero => intro x; exact rdS.rf x.2
  | succ k ih =>
    intro x
    unfold f8_faultRead_lp13; simp only [bnd]
    split
    · exact hK x.2
    · split
      · exact (rdS_takesSign x.2 _ _).tr (ih _)
      · exact rdS_takesSign x.2 _ _
theorem rdS_faultRead (M : Wm) (p1 : Int32) : rdS M (f8_faultRead M p1).2 := by
  unfold f8_faultRead; simp only [bnd, jn]
  refine (rdS_begin M _).1.tr (rdS_faultRead_lp p1 _ (fun y => ?_) _ (0, _))
  split <;> exact rdS.rf y
def f8_readChanged_lp2  : Nat → (Int32 × Wm) → Wm
  | 0, x1 => x1.2
  | n2 + 1, x1 => if 8 ≤ x1.1 then x1.2 else jn (fun (v4 : Wm) => bnd (x1.1 + 1) (fun (v10 : Int32) => f8_readChanged_lp2 n2 (v10, v4))) (fun K5 => if (x1.2 8 4 0 x1.1) = 0 then bnd (f8_faultRead x1.2 x1.1) (fun (r7 : Int32 × Wm) => bnd (uW r7.2 8 (u3 (r7.2 8) 3 0 x1.1 r7.1)) (fun (M8 : Wm) => bnd (uW M8 8 (u3 (M8 8) 4 0 x1.1 1)) (fun (M9 : Wm) => K5 M9))) else K5 x1.2)
theorem f8_readChanged_lp2_s  (n2 : Nat) (x1 : Int32 × Wm) : f8_readChanged_lp2 (n2 + 1) x1 = if 8 ≤ x1.1 then x1.2 else jn (fun (v4 : Wm) => bnd (x1.1 + 1) (fun (v10 : Int32) => f8_readChanged_lp2 n2 (v10, v4))) (fun K5 => if (x1.2 8 4 0 x1.1) = 0 then bnd (f8_faultRead x1.2 x1.1) (fun (r7 : Int32 × Wm) => bnd (uW r7.2 8 (u3 (r7.2 8) 3 0 x1.1 r7.1)) (fun (M8 : Wm) => bnd (uW M8 8 (u3 (M8 8) 4 0 x1.1 1)) (fun (M9 : Wm) => K5 M9))) else K5 x1.2) := rfl
def f8_readChanged (M : Wm) : Wm := f8_readChanged_lp2 9 (0, M)
set_option maxHeartbeats 4000000 in
set_option maxRecDepth 100000 in
theorem mc_X8_readChanged (l : Launch) (D : va_G) (ta : wTa) (ad : wAd) (M : Wm) (hln : ∀ j : Int32, vp_in j 8 → 0 ≤ (M 8 2 0 j).toInt ∧ (M 8 2 0 j).toInt ≤ 120) : MC l D ta ad yX8_readChanged cX8_readChanged 2 none 5 [.ref (ad 8 0 0)] M (fv (f8_readChanged M)) := by
  refine MC.of (fv) (f8_readChanged M) rfl (by decide) (Nat.le_of_ble_eq_true rfl) (fun p e s m args below meth c cx hr => ?_)
  unfold f8_readChanged
  refine mw_sub (lv' := [(0, .ref (ad 8 0 0))]) [0] rfl ?_
  refine mw_iconst cx (q := 1) (v := 0) dX8_readChanged_0 rfl rfl ?_
  refine mw_istore_n cx (q := 2) (lv' := [(1, .int 0), (0, .ref (ad 8 0 0))]) rfl rfl (by decide) dX8_readChanged_1 rfl ?_
  refine mw_loop (F := f8_readChanged_lp2) (I := fun (x1 : Int32 × Wm) => (0 ≤ (x1.1).toInt) ∧ (∀ j : Int32, vp_in j 8 → 0 ≤ (x1.2 8 2 0 j).toInt ∧ (x1.2 8 2 0 j).toInt ≤ 120)) (μ := fun (x1 : Int32 × Wm) => (8 - (x1.1).toInt).toNat) (Mx := fun (x1 : Int32 × Wm) => x1.2) (px := 2) (lx := fun (x1 : Int32 × Wm) => [(1, .int x1.1), (0, .ref (ad 8 0 0))]) (fun n2 x1 ivx1 ih => ?_) 9 (0, M) ⟨(by simp only [vp_in_iff, i32lt, i32le, i32eq, i32add, i32sub, i32mul, i32neg, t32_0, t32_2, t32_8, t32_120] at hln ⊢; omega), hln⟩ (by simp only [vp_in_iff, i32lt, i32le, i32eq, i32add, i32sub, i32mul, i32neg, t32_0, t32_2, t32_8, t32_9, t32_120] at hln ⊢; omega)
  obtain ⟨ivx1_0, ivx1_1⟩ := ivx1
  refine mw_eqS (f8_readChanged_lp2_s n2 x1) ?_
  refine mw_iload_n cx (q := 3) 0 rfl rfl dX8_readChanged_2 rfl ?_
  refine mw_bipush cx (q := 5) (v := 8) dX8_readChanged_3 rfl rfl ?_
  refine mw_icmp_ge cx (tgt := 41) (q := 8) dX8_readChanged_5 (by decide) rfl (fun h3 => ?_) (fun h3 => ?_)
  · exact mw_vret cx hr rfl dX8_readChanged_41
  · refine mw_aload_n cx (q := 9) 1 rfl rfl dX8_readChanged_8 rfl ?_
    refine mw_get cx (q := 12) (v := .ref (ad 8 4 0)) gf_X8_21 rfl rfl vi_8_0 dX8_readChanged_9 rfl ?_
    refine mw_iload_n cx (q := 13) 0 rfl rfl dX8_readChanged_12 rfl ?_
    refine mw_zald cx (q := 14) (w := (x1.2 8 4 0 x1.1)) rfl (fun _ => rfl) vi_8_4 (by simp only [vp_in_iff, i32lt, i32le, i32eq, i32add, i32sub, i32mul, i32neg, t32_0, t32_8] at ivx1_0 h3 ⊢; omega) dX8_readChanged_13 rfl ?_
    refine mw_jnP (P := fun (v4 : Wm) => (∀ j : Int32, vp_in j 8 → 0 ≤ (v4 8 2 0 j).toInt ∧ (v4 8 2 0 j).toInt ≤ 120)) (Mj := fun (v4 : Wm) => v4) (pj := 35) (lj := fun (v4 : Wm) => [(0, .ref (ad 8 0 0)), (1, .int x1.1)]) (sj := fun (v4 : Wm) => []) (fun v4 jv4 => ?_) (fun K5 hK5 => ?_)
    · have jv4_0 := jv4
      refine mw_bnd (fun v10 ev10 => ?_)
      refine mw_iinc cx (q := 38) (v := v10) (lv' := [(1, .int v10), (0, .ref (ad 8 0 0))]) 1 rfl (by rw [ev10]; rfl) rfl (by decide) dX8_readChanged_35 rfl ?_
      refine mw_goto cx (tgt := 2) dX8_readChanged_38 (by decide) ?_
      exact ih (v10, v4) ⟨(by simp only [vp_in_iff, i32lt, i32le, i32eq, i32add, i32sub, i32mul, i32neg, t32_0, t32_1, t32_8] at ev10 ivx1_0 h3 ⊢; omega), jv4_0⟩ (by simp only [vp_in_iff, i32lt, i32le, i32eq, i32add, i32sub, i32mul, i32neg, t32_0, t32_1, t32_8] at ivx1_0 h3 ev10 ⊢; omega)
    · refine mw_if_ne cx (tgt := 35) (q := 17) dX8_readChanged_14 (by decide) rfl (fun h6 => ?_) (fun h6 => ?_)
      · refine mw_sub [1, 0] rfl ?_
        exact hK5 x1.2 ivx1_1
      · refine mw_aload_n cx (q := 18) 1 rfl rfl dX8_readChanged_17 rfl ?_
        refine mw_get cx (q := 21) (v := .ref (ad 8 3 0)) gf_X8_18 rfl rfl vi_8_0 dX8_readChanged_18 rfl ?_
        refine mw_iload_n cx (q := 22) 0 rfl rfl dX8_readChanged_21 rfl ?_
        refine mw_aload_n cx (q := 23) 1 rfl rfl dX8_readChanged_22 rfl ?_
        refine mw_iload_n cx (q := 24) 0 rfl rfl dX8_readChanged_23 rfl ?_
        refine mw_bnd (fun r7 er7 => ?_)
        refine mw_callV cx (q := 27) (d := 4) (As := [.int x1.1]) (z := fi r7) (st := [.int x1.1, .ref (ad 8 3 0)]) (st1 := [.int r7.1, .int x1.1, .ref (ad 8 3 0)]) (M' := r7.2) (by rw [er7]; exact mc_X8_faultRead l D ta ad x1.2 x1.1 (by simp only [vp_in_iff, i32lt, i32le, i32eq, i32add, i32sub, i32mul, i32neg, t32_0, t32_2, t32_4, t32_8, t32_120] at ivx1_0 h3 h6 ivx1_1 hln ⊢; omega) ivx1_1) cv_X8_40 rfl rfl rfl vi_8_0 ⟨Nat.le_of_ble_eq_true rfl, Nat.le_of_ble_eq_true rfl⟩ ⟨Nat.le_refl _, Nat.le_refl _⟩ (by simp [Value.category]) rfl rfl rfl dX8_readChanged_24 rfl ?_
        have hk : ∀ j : Int32, vp_in j 8 → 0 ≤ (r7.2 8 2 0 j).toInt ∧ (r7.2 8 2 0 j).toInt ≤ 120 := (by intro j hj; rw [er7, (rdS_faultRead _ _).1 8 (by decide) (by decide)]; exact ivx1_1 j hj)
        refine mw_iastW cx (q := 28) (fun _ => rfl) (by decide) vi_8_3 (by simp only [vp_in_iff, i32lt, i32le, i32eq, i32add, i32sub, i32mul, i32neg, t32_0, t32_2, t32_4, t32_8, t32_120] at ivx1_0 h3 h6 ivx1_1 hk hln ⊢; omega) (by decide) dX8_readChanged_27 rfl (fun M8 eM8 => ?_)
        refine mw_aload_n cx (q := 29) 1 rfl rfl dX8_readChanged_28 rfl ?_
        refine mw_get cx (q := 32) (v := .ref (ad 8 4 0)) gf_X8_21 rfl rfl vi_8_0 dX8_readChanged_29 rfl ?_
        refine mw_iload_n cx (q := 33) 0 rfl rfl dX8_readChanged_32 rfl ?_
        refine mw_iconst cx (q := 34) (v := 1) dX8_readChanged_33 rfl rfl ?_
        refine mw_zastW cx (q := 35) (fun _ => rfl) (by decide) vi_8_4 (by simp only [vp_in_iff, i32lt, i32le, i32eq, i32add, i32sub, i32mul, i32neg, t32_0, t32_2, t32_4, t32_8, t32_120] at ivx1_0 h3 h6 ivx1_1 hk hln ⊢; omega) (by decide) (by rfl) dX8_readChanged_34 rfl (fun M9 eM9 => ?_)
        refine mw_sub [1, 0] rfl ?_
        exact hK5 M9 (by rw [eM9, eM8]; exact hk)
