/-! THE LAW'S OWN WALK: its script, its calls -/
section LRW
variable {σ : Type} {p : Program} {l : Launch} {e : Env} {R : Room} {s : State} {m : MethodId} {args : Array Value} {below : List Frame} {meth : Method} {c : Code} {cells slots : Nat} {Q : σ → State → Prop} {D : va_G} {ta : wTa} {ad : wAd} {n : Nat} {M : Wm} {pc q : Nat} {lv lv' : List (Nat × Value)} {st : List Value} {S A B : σ} {own : String} {cc : ByteArray} {d u cb : Nat} {Γ : Wm → Prop}
def ScX (ad : wAd) (s : State) (b L : Nat) (xs : Nat → Int32) : Prop := va_X b L xs s s.heap ∧ b < s.heap.size ∧ ¬ wA ad b
theorem mw_sld (cx : Cx p s m args meth c D ta ad own cc n) {b L : Nat} {xs : Nat → Int32} (hX : ScX ad s b L xs) {i : Int32} (hin : vp_in i L) (hd : decode cc pc = .ok (.iaload, 1)) (hq : pc + 1 = q) (k : mw p l e R s m args below meth c cells slots Q D ta ad n M q lv (.int (xs i.toNatClampNeg) :: st) S) : mw p l e R s m args below meth c cells slots Q D ta ad n M pc lv (.int i :: .ref b :: st) S := fun H locs ls hP hS hl => by
  subst hq
  exact va_sld cx.1 cx.2.1 hX.1 hX.2.1 hX.2.2 hS hin hd (k H locs ls hP hS hl)
theorem mw_slen (cx : Cx p s m args meth c D ta ad own cc n) {b L : Nat} {xs : Nat → Int32} (hX : ScX ad s b L xs) (hd : decode cc pc = .ok (.arraylength, 1)) (hq : pc + 1 = q) (k : mw p l e R s m args below meth c cells slots Q D ta ad n M q lv (.int (Int32.ofNat L) :: st) S) : mw p l e R s m args below meth c cells slots Q D ta ad n M pc lv (.ref b :: st) S := fun H locs ls hP hS hl => by
  subst hq
  exact va_slen cx.1 cx.2.1 hX.1 hX.2.1 hX.2.2 hS hd (k H locs ls hP hS hl)
/-- a method that reads the script -/
def sPc (D : va_G) (ta : wTa) (ad : wAd) (M : Wm) (b L : Nat) (xs : Nat → Int32) (U : State) : Prop := (wP D ta ad M U.heap ∧ va_K D wcl (wtys ta) U ∧ wI ad ∧ wSt ad U U.heap) ∧ ScX ad U b L xs
def MCS (l : Launch) (D : va_G) (ta : wTa) (ad : wAd) (b L : Nat) (xs : Nat → Int32) (y : MethodName) (cc : ByteArray) (n : Nat) (ret : Option FieldType) (d : Nat) (avs : List Value) (M : Wm) (z : Option Value × Wm) : Prop :=
  Met l y (.code y cc n ret :: BG) (rmd d) (va_Pc avs (sPc D ta ad M b L xs)) (mQ D ta ad z) 0 0 (wA ad)
theorem MCS.of {b L : Nat} {xs : Nat → Int32} {y : MethodName} {ret : Option FieldType} {d : Nat} {avs : List Value} {M : Wm} {z : Option Value × Wm} (fin : σ → Option Value × Wm) (S : σ) (hz : fin S = z) (hy : plainName y.cls = true) (hn : (lg_sl avs).length ≤ n)
    (body : ∀ (p : Program) (e : Env) (s : State) (m : MethodId) (args : Array Value) (below : List Frame) (meth : Method) (c : Code), Cx p s m args meth c D ta ad y.cls cc n → ScX ad s b L xs → meth.sig.returnType = ret → mw p l e (rmd d) s m args below meth c 0 0 (fun S => MQ below (mQ D ta ad (fin S)) args s 0 0 (wA ad)) D ta ad n M 0 (lv_args 0 avs) [] S) : MCS l D ta ad b L xs y cc n ret d avs M z := by
  subst hz
  refine Met.ofW (cc := cc) (maxL := n) (ret := ret) hy rfl ?_
  intro p e s m args below meth c s₁ B hml hv
  obtain ⟨rfl, ⟨hP, hK, hI, hSt⟩, hX⟩ := hv
  have hts := atoms_spec (ws := .code y cc n ret :: BG) B.pre
  have hown : s.vm.findClass y.cls = some m.cls := findClass_of_methodNamed B.named
  have hl := lv_entry avs (n := n) hn
  rw [lg_entry_eq]
  exact body p e s m avs.toArray below meth c ⟨B.exec, B.bytes, hml, hown, fun w h => hts w (List.mem_cons_of_mem _ h), hK, hI, hSt, B.notSynchronized⟩ hX B.returns s.heap [] _ hP va_S.rf hl
theorem sPc_blind {b L : Nat} {xs : Nat → Int32} {avs : List Value} : FrameBlind (va_Pc avs (sPc D ta ad M b L xs)) := fun a U g mk q => by
  obtain ⟨q0, ⟨qP, qK, qI, qS⟩, qX, qb, qn⟩ := q
  exact ⟨q0, ⟨qP, va_K.moved (u := U) (U := U.calling g mk a) (Vm.Alike.refl U.vm) qK, qI, wSt.same (u := U) (U := U.calling g mk a) rfl qS⟩, va_X.moved (u := U) (U := U.calling g mk a) (Vm.Alike.refl U.vm) qX, qb, qn⟩
theorem sPc_at (cx : Cx p s m args meth c D ta ad own cc n) {b L : Nat} {xs : Nat → Int32} (hX : ScX ad s b L xs) {avs : List Value} {H : Heap} {locs : List Loc} (hP : wP D ta ad M H) (hS : va_S (wA ad) s.heap H locs) : ∀ U : State, U.heap = H → s.WarmedH U.vm → va_Pc avs (sPc D ta ad M b L xs) avs.toArray U := fun U hU hW => by
  refine ⟨rfl, ⟨by rw [hU]; exact hP, va_K.moved hW.alike cx.2.2.2.2.2.1, cx.2.2.2.2.2.2.1, (wSt.kept cx.2.2.2.2.2.2.2.1 (H1 := U.heap) (fun a h1 h2 => by rw [hU]; exact hS.2.1 a h1 h2)).warm hW⟩, ?_, ?_, hX.2.2⟩
  · exact va_X.moved hW.alike (hX.1.kept (by rw [hU]; exact hS.2.1 b hX.2.1 hX.2.2))
  · rw [hU]; exact Nat.lt_of_lt_of_le hX.2.1 hS.1
theorem ms_callS (cx : Cx p s m args meth c D ta ad own cc n) {b L : Nat} {xs : Nat → Int32} (hX : ScX ad s b L xs) {y : MethodName} {cy : ByteArray} {ny d ix : Nat} {ret : Option FieldType} {As : List Value} {z : Option Value × Wm} {st0 : List Value} (hM : MCS l D ta ad b L xs y cy ny ret d As M z) (hw : CS own ix y cy ny ret As.length) (hR : d + 1 ≤ R.frames ∧ 8 + (ny + 11) + 40 * d ≤ R.locals) (hcs : cells ≤ R.cells ∧ slots ≤ R.slots) (h8 : (st.map fun v => v.category).sum ≤ 8) (hst : st0 = As.reverse ++ st) {st1 : List Value} {M' : Wm} (hz1 : z.1.toList ++ st = st1) (hz2 : z.2 = M') (hd : decode cc pc = .ok (.invokestatic ix, 3)) (hq : pc + 3 = q) (k : mw p l e R s m args below meth c cells slots Q D ta ad n M' q lv st1 S) : mw p l e R s m args below meth c cells slots Q D ta ad n M pc lv st0 S := fun H locs ls hP hS hl => by
  subst hq; subst hz1; subst hz2
  obtain ⟨⟨w1, w2, w4, w5⟩, hd4⟩ := hw
  have hG : GoodIn BG (va_wsS own ix y (.code y cy ny ret :: BG)) := fun w h => by
    unfold va_wsS at h
    rcases List.mem_append.mp h with h | h
    · simp only [List.mem_cons, List.not_mem_nil, or_false] at h
      rcases h with rfl | rfl | rfl
      · exact BG_good _ w1
      · exact BG_good _ w2
      · exact BG_good _ w4
    · exact BG_codes w5 w h
  have hrun := va_runS (l := l) (e := e) (R := R) (below := below) (meth := meth) (locs := locs) (cells := cells) (slots := slots) (As := As) (rest := st) (g := F0 m pc ls st0) ⟨cx.1, cx.2.1, cx.2.2.1, cx.2.2.2.1, cx.2.2.2.2.1⟩ hM (va_cwS As.length cx.2.2.2.2.1 hG rfl rfl rfl hd4 hR) ⟨sPc_blind, sPc_at cx hX hP hS⟩ rfl rfl hl.1 hst (by show 2 * 0 + _ ≤ 8; omega) hd ⟨hcs.1, hcs.2⟩
  exact mw_run hrun hS hl k
/-- what a cell of the script is read as -/
def cellV (L : Nat) (xs : Nat → Int32) (i : Int32) : Int32 := if Int32.ofNat L ≤ i then 7919 * (i + 1429) * (i + 467) else xs i.toNatClampNeg
theorem mc_cell (l : Launch) (D : va_G) (ta : wTa) (ad : wAd) (M : Wm) {b L : Nat} {xs : Nat → Int32} (hL : L ≤ 260) (i : Int32) (hi : 0 ≤ i.toInt) : MCS l D ta ad b L xs yL_cell cL_cell 2 (some .int) 0 [.ref b, .int i] M (fip M (cellV L xs i)) := by
  refine MCS.of (fip M) (cellV L xs i) rfl (by decide) (Nat.le_of_ble_eq_true rfl) (fun p e s m args below meth c cx hX hr => ?_)
  have oL : (Int32.ofNat L).toInt = L := by have := nI_toInt (n := L) (by omega); exact this
  unfold cellV
  refine mw_sub (lv' := [(0, .ref b), (1, .int i)]) [0, 1] rfl ?_
  refine mw_iload_n cx (q := 1) 1 rfl rfl dL_cell_0 rfl ?_
  refine mw_aload_n cx (q := 2) 0 rfl rfl dL_cell_1 rfl ?_
  refine mw_slen cx hX (q := 3) dL_cell_2 rfl ?_
  refine mw_icmp_ge cx (tgt := 12) (q := 6) dL_cell_3 (by decide) rfl (fun h => ?_) (fun h => ?_)
  · refine mw_sipush cx (q := 15) (v := 7919) dL_cell_12 rfl rfl ?_
    refine mw_iload_n cx (q := 16) 1 rfl rfl dL_cell_15 rfl ?_
    refine mw_sipush cx (q := 19) (v := 1429) dL_cell_16 rfl rfl ?_
    refine mw_iadd cx (q := 20) dL_cell_19 rfl ?_
    refine mw_imul cx (q := 21) dL_cell_20 rfl ?_
    refine mw_iload_n cx (q := 22) 1 rfl rfl dL_cell_21 rfl ?_
    refine mw_sipush cx (q := 25) (v := 467) dL_cell_22 rfl rfl ?_
    refine mw_iadd cx (q := 26) dL_cell_25 rfl ?_
    refine mw_imul cx (q := 27) dL_cell_26 rfl ?_
    exact mw_iret cx hr rfl dL_cell_27
  · simp only [i32le, oL] at h
    refine mw_aload_n cx (q := 7) 0 rfl rfl dL_cell_6 rfl ?_
    refine mw_iload_n cx (q := 8) 1 rfl rfl dL_cell_7 rfl ?_
    refine mw_sld cx hX (q := 9) (by rw [vp_in_iff]; omega) dL_cell_8 rfl ?_
    refine mw_goto cx (tgt := 27) dL_cell_9 (by decide) ?_
    exact mw_iret cx hr rfl dL_cell_27
/-- the law's methods, called with the other object -/
theorem gPh_sw1 {U : State} (h : gPh D ta ad (fun M => Γ (swM M)) U) : gPh D ta (adS ad) Γ U := by
  obtain ⟨⟨M, hG, hP⟩, h2, h3, h4, h5, h6⟩ := h
  exact ⟨⟨swM M, hG, by rw [wP_sw]; exact hP⟩, h2, wI_sw h3, wSt_sw h4, by rw [wZx_sw]; exact h5, h6⟩
theorem gPh_sw2 {U : State} (h : gPh D ta (adS ad) Γ U) : gPh D ta ad (fun M => Γ (swM M)) U := by
  obtain ⟨⟨M, hG, hP⟩, h2, h3, h4, h5, h6⟩ := h
  refine ⟨⟨swM M, by show Γ (swM (swM M)); rw [swM_swM]; exact hG, ?_⟩, h2, by have := wI_sw h3; rw [adS_adS] at this; exact this, by have := wSt_sw h4; rw [adS_adS] at this; exact this, by rw [wZx_sw] at h5; exact h5, h6⟩
  rw [← wP_sw (ad := ad) (M := swM M), swM_swM]; exact hP
theorem gPh_sw : gPh D ta (adS ad) Γ = gPh D ta ad (fun M => Γ (swM M)) := by
  funext U; exact propext ⟨gPh_sw2, gPh_sw1⟩
theorem ex_sw {Γ : Wm → Prop} {H : Heap} : (∃ M : Wm, Γ M ∧ wP D ta (adS ad) M H) ↔ ∃ M : Wm, Γ (swM M) ∧ wP D ta ad M H := by
  constructor
  · intro ⟨M, hG, hP⟩
    exact ⟨swM M, by rw [swM_swM]; exact hG, by rw [← wP_sw (ad := ad) (M := swM M), swM_swM]; exact hP⟩
  · intro ⟨M, hG, hP⟩
    exact ⟨swM M, hG, by rw [wP_sw]; exact hP⟩
theorem ML_sw {y : MethodName} {W : Cond} {avs : List Value} {z : GX} (h : ML l D ta (adS ad) y W d u avs Γ z) : ML l D ta ad y W d u avs (fun M => Γ (swM M)) (z.1, fun M => z.2 (swM M)) := by
  unfold ML at h ⊢
  have e1 : gQx D ta (adS ad) z = gQx D ta ad (z.1, fun M => z.2 (swM M)) := by
    funext a st oc t
    unfold gQx
    rw [wA_sw, ex_sw]
  have e2 : gXx D ta (adS ad) z = gXx D ta ad (z.1, fun M => z.2 (swM M)) := by
    funext E st t
    unfold gXx
    rw [wA_sw, ex_sw]
  rw [gPh_sw, e1, e2, wA_sw] at h
  exact h
theorem GM_sw {w : Int32 → Int32} {a b : ST} : (fun M => GM w a b (swM M)) = GM w b a := by
  funext M
  exact propext ⟨fun h => by have := h.sw; rw [swM_swM] at this; exact this, fun h => h.sw⟩
/-- calls in the law's room -/
theorem lc_V (cx : Cx p s m args meth c D ta ad own cc n) (hzx : wZx ad s s.heap) {y : MethodName} {C : String} {cy : ByteArray} {ny d0 ix k0 g ci u0 : Nat} {ret : Option FieldType} {i : Int32} {fs As : List Value} {rc : vw_C} {v : Int32} {M' : Wm} {st0 : List Value} (hM : MX l D ta ad y cy ny ret d0 u0 (.ref (ad k0 g i) :: As) M (fxi ((0, v), M'))) (hw : CV own ix y C cy ny ret As.length) (he : wcell ta ad k0 g i (M k0 g i) = .inr (ci, fs)) (hc : wcl[ci]? = some rc) (hrC : rc.1 = C) (hi : vp_in i (wcnt k0 g)) (hR : d0 + 1 ≤ room_1.frames ∧ 8 + (ny + 11) + 40 * d0 ≤ room_1.locals) (hcu : cb + u0 ≤ 600104) (h8 : (st.map fun v => v.category).sum ≤ 8) (hst : st0 = As.reverse ++ .ref (ad k0 g i) :: st) (hd : decode cc pc = .ok (.invokevirtual ix, 3)) (hq : pc + 3 = q)
    (k : mw p l e room_1 s m args below meth c (cb + u0) (6 * (cb + u0)) Q D ta ad n M' q lv (.int v :: st) S) : mw p l e room_1 s m args below meth c cb (6 * cb) Q D ta ad n M pc lv st0 S := by
  refine mx_callV cx hzx hM hw he hc hrC hi hR ⟨hcu, by show _ ≤ 7301314; omega⟩ h8 hst (st1 := .int v :: st) rfl rfl hd hq (fun h1 => absurd rfl h1) (fun _ => ?_)
  rw [← Nat.mul_add]; exact k
theorem lc_S (cx : Cx p s m args meth c D ta ad own cc n) (hzx : wZx ad s s.heap) (hcx : wCx s) {y : MethodName} {cy : ByteArray} {ny d0 ix u0 : Nat} {ret : Option FieldType} {As : List Value} {v : Int32} {Γ' : Wm → Prop} {st0 : List Value} (hM : ML l D ta ad y (.code y cy ny ret) d0 u0 As Γ ((0, v), Γ')) (hG : Γ M) (hw : CS own ix y cy ny ret As.length) (hR : d0 + 1 ≤ room_1.frames ∧ 8 + (ny + 11) + 40 * d0 ≤ room_1.locals) (hcu : cb + u0 ≤ 600104) (h8 : (st.map fun v => v.category).sum ≤ 8) (hst : st0 = As.reverse ++ st) (hd : decode cc pc = .ok (.invokestatic ix, 3)) (hq : pc + 3 = q)
    (k : ∀ M' : Wm, Γ' M' → mw p l e room_1 s m args below meth c (cb + u0) (6 * (cb + u0)) Q D ta ad n M' q lv (.int v :: st) S) : mw p l e room_1 s m args below meth c cb (6 * cb) Q D ta ad n M pc lv st0 S := by
  refine gl_callS0 cx hzx hcx hM hG hw hR ⟨hcu, by show _ ≤ 7301314; omega⟩ h8 hst hd hq (fun h1 => absurd rfl h1) (fun _ M' hg => ?_)
  rw [← Nat.mul_add]; exact k M' hg
theorem lc_H (cx : Cx p s m args meth c D ta ad own cc n) (hzx : wZx ad s s.heap) (hcx : wCx s) {y : MethodName} {cy : ByteArray} {ny d0 ix u0 : Nat} {ret : Option FieldType} {hh : List (Nat × Nat × Nat × Nat)} {As : List Value} {v : Int32} {Γ' : Wm → Prop} {st0 : List Value} (hM : ML l D ta ad y (.codeWith y cy ny ret hh) d0 u0 As Γ ((0, v), Γ')) (hG : Γ M) (hw : CSh own ix y cy ny ret hh As.length) (hR : d0 + 1 ≤ room_1.frames ∧ 8 + (ny + 11) + 40 * d0 ≤ room_1.locals) (hcu : cb + u0 ≤ 600104) (h8 : (st.map fun v => v.category).sum ≤ 8) (hst : st0 = As.reverse ++ st) (hd : decode cc pc = .ok (.invokestatic ix, 3)) (hq : pc + 3 = q)
    (k : ∀ M' : Wm, Γ' M' → mw p l e room_1 s m args below meth c (cb + u0) (6 * (cb + u0)) Q D ta ad n M' q lv (.int v :: st) S) : mw p l e room_1 s m args below meth c cb (6 * cb) Q D ta ad n M pc lv st0 S := by
  refine gl_callH0 cx hzx hcx hM hG hw hR ⟨hcu, by show _ ≤ 7301314; omega⟩ h8 hst rfl hd hq (fun M' hg => ?_)
  rw [← Nat.mul_add]; exact k M' hg
theorem lc_r (h : cb ≤ 600104) : cb ≤ room_1.cells ∧ 6 * cb ≤ room_1.slots := ⟨h, by show _ ≤ 7301314; omega⟩
end LRW
theorem GMw {w : Int32 → Int32} {a b : ST} {M : Wm} (h : GM w a b M) (g n : Int32) : GM (upx w g n) a b (uW M 13 (u3 (M 13) 0 0 g (w g + n))) := by
  refine ⟨?_, ⟨(uW_ne _ _ (by decide)).trans h.2.1.1, ?_⟩, (uW_ne M _ (show 32 ≠ 13 by decide)).trans h.2.2.1, ?_⟩
  · rw [uW_at]
    show fI (M 13 0 0) g (w g + n) = fI w g (w g + n)
    rw [h.1]
  · exact h.2.1.2.fr (fun c hc => uW_ne _ _ (by omega))
  · exact h.2.2.2.fr (fun c hc => by
      show uW M 13 _ (sw c) = M (sw c)
      exact uW_ne _ _ (by intro z; have := congrArg sw z; rw [sw_sw] at this; rw [this] at hc; exact absurd hc (by decide)))
theorem GMk {w : Int32 → Int32} {x : Int32 → Int32} {k1 k2 k : Int} {m : Cm} {M : Wm} (h : GM w (x, k1, m) (x, k2, m) M) (h1 : k1 ≤ k) (h2 : k2 ≤ k) (hk : k ≤ 10000) : GM w (x, k, m) (x, k, m) M :=
  ⟨h.1, ⟨h.2.1.1, h.2.1.2.mono h1 hk⟩, h.2.2.1, h.2.2.2.mono h2 hk⟩
