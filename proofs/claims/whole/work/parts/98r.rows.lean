/-! ROWS OF THE LAW: its script, long answers, calls of its own methods -/
def CSh (own : String) (ix : Nat) (y : MethodName) (cc : ByteArray) (n : Nat) (ret : Option FieldType) (hh : List (Nat × Nat × Nat × Nat)) (k : Nat) : Prop := (Cond.methodLink own ix y ∈ BG ∧ Cond.static y ∈ BG ∧ Cond.initialized y.cls ∈ BG ∧ Cond.codeWith y cc n ret hh ∈ BG) ∧ y.cls ≠ "java/lang/invoke/MethodHandle" ∧ y.cls ≠ "java/lang/invoke/VarHandle" ∧ (parseMethodDescriptor y.desc).map (fun d => d.parameters.length) = some k
section LROW
variable {σ : Type} {p : Program} {l : Launch} {e : Env} {R : Room} {s : State} {m : MethodId} {args : Array Value} {below : List Frame} {meth : Method} {c : Code} {cells slots : Nat} {Q : σ → State → Prop} {D : va_G} {ta : wTa} {ad : wAd} {n : Nat} {M : Wm} {pc q : Nat} {lv lv' : List (Nat × Value)} {st : List Value} {S A B : σ} {own : String} {cc : ByteArray} {u : Nat}
/-- the law's script -/
def ScX (ad : wAd) (s : State) (b L : Nat) (xs : Nat → Int32) : Prop := va_X b L xs s s.heap ∧ b < s.heap.size ∧ ∀ q : Nat, wA ad q → s.heap.size ≤ q
theorem mw_sld (cx : Cx p s m args meth c D ta ad own cc n) {b L : Nat} {xs : Nat → Int32} (hX : ScX ad s b L xs) {i : Int32} (hin : vp_in i L) (hd : decode cc pc = .ok (.iaload, 1)) (hq : pc + 1 = q) (k : mw p l e R s m args below meth c cells slots Q D ta ad n M q lv (.int (xs i.toNatClampNeg) :: st) S) : mw p l e R s m args below meth c cells slots Q D ta ad n M pc lv (.int i :: .ref b :: st) S := fun H locs ls hP hS hl => by
  subst hq
  exact va_sld cx.1 cx.2.1 hX.1 hX.2.1 (fun h => Nat.not_le.mpr hX.2.1 (hX.2.2 _ h)) hS hin hd (k H locs ls hP hS hl)
theorem mw_slen (cx : Cx p s m args meth c D ta ad own cc n) {b L : Nat} {xs : Nat → Int32} (hX : ScX ad s b L xs) (hd : decode cc pc = .ok (.arraylength, 1)) (hq : pc + 1 = q) (k : mw p l e R s m args below meth c cells slots Q D ta ad n M q lv (.int (Int32.ofNat L) :: st) S) : mw p l e R s m args below meth c cells slots Q D ta ad n M pc lv (.ref b :: st) S := fun H locs ls hP hS hl => by
  subst hq
  exact va_slen cx.1 cx.2.1 hX.1 hX.2.1 (fun h => Nat.not_le.mpr hX.2.1 (hX.2.2 _ h)) hS hd (k H locs ls hP hS hl)
theorem mw_lald (cx : Cx p s m args meth c D ta ad own cc n) (hd : decode cc pc = .ok (.laload, 1)) (hq : pc + 1 = q) (k : mw p l e R s m args below meth c cells slots Q D ta ad n M q lv (.long (M 13 0 0 0).toInt64 :: st) S) : mw p l e R s m args below meth c cells slots Q D ta ad n M pc lv (.int 0 :: .ref (ad 13 0 0) :: st) S := fun H locs ls hP hS hl => by
  subst hq
  have hi : vp_in (0 : Int32) (wcnt 13 0) := vin_lit (by decide)
  have he : ∀ f : Int32 → Int32, wcell ta ad 13 0 0 f = .inl (ta 4, 1, .inr (.inl (fun j => (f (nI j)).toInt64))) := fun _ => rfl
  exact va_lald cx.1 cx.2.1 cx.2.2.2.2.2.1 (hP.one hi (he _)) 0 4 (f := fun j => (M 13 0 0 (nI j)).toInt64) rfl rfl (show vp_in (0 : Int32) 1 from vin_lit (by decide)) hd (k H locs ls hP hS hl)
theorem mw_lcmp (cx : Cx p s m args meth c D ta ad own cc n) {x y : Int64} (hd : decode cc pc = .ok (.lcmp, 1)) (hq : pc + 1 = q) (k : mw p l e R s m args below meth c cells slots Q D ta ad n M q lv (.int (if x > y then 1 else if x = y then 0 else -1) :: st) S) : mw p l e R s m args below meth c cells slots Q D ta ad n M pc lv (.long y :: .long x :: st) S := fun H locs ls hP hS hl => by
  subst hq
  exact W.lcmp cx.1 cx.2.1 hd (k H locs ls hP hS hl)
theorem cmp_same {x y : Int64} (h : x = y) : (if x > y then (1 : Int32) else if x = y then 0 else -1) = 0 := by
  subst h
  rw [if_neg (show ¬ x > x by rw [gt_iff_lt, Int64.lt_iff_toInt_lt]; omega), if_pos rfl]
theorem mw_lcmp0 (cx : Cx p s m args meth c D ta ad own cc n) {x y : Int64} (h : x = y) (hd : decode cc pc = .ok (.lcmp, 1)) (hq : pc + 1 = q) (k : mw p l e R s m args below meth c cells slots Q D ta ad n M q lv (.int 0 :: st) S) : mw p l e R s m args below meth c cells slots Q D ta ad n M pc lv (.long y :: .long x :: st) S :=
  mw_lcmp cx hd hq (by rw [cmp_same h]; exact k)
theorem mw_topi {x y : Int32} (h : x = y) (k : mw p l e R s m args below meth c cells slots Q D ta ad n M pc lv (.int y :: st) S) : mw p l e R s m args below meth c cells slots Q D ta ad n M pc lv (.int x :: st) S := h ▸ k
theorem Ph_blind {avs : List Value} : FrameBlind (va_Pc avs (mPh D ta ad M)) := fun a U g mk q => by
  obtain ⟨q0, ⟨qP, qK, qI, qS, qZ⟩, qC⟩ := q
  exact ⟨q0, ⟨qP, va_K.moved (u := U) (U := U.calling g mk a) (Vm.Alike.refl U.vm) qK, qI, wSt.same (u := U) (U := U.calling g mk a) rfl qS, wZx.same (u := U) (U := U.calling g mk a) rfl qZ⟩, wCx.moved (u := U) (U := U.calling g mk a) (Vm.Alike.refl U.vm) qC⟩
theorem Ph_at (cx : Cx p s m args meth c D ta ad own cc n) (hzx : wZx ad s s.heap) (hcx : wCx s) {avs : List Value} {H : Heap} {locs : List Loc} (hP : wP D ta ad M H) (hS : va_S (wA ad) s.heap H locs) : ∀ U : State, U.heap = H → s.WarmedH U.vm → va_Pc avs (mPh D ta ad M) avs.toArray U := fun U hU hW => by
  obtain ⟨a, b⟩ := Px_at (avs := avs) cx hzx hP hS U hU hW
  exact ⟨a, b, wCx.moved hW.alike hcx⟩
/-- a call of one of the law's methods -/
theorem mh_callS (cx : Cx p s m args meth c D ta ad own cc n) (hzx : wZx ad s s.heap) (hcx : wCx s) {y : MethodName} {cy : ByteArray} {ny d ix u0 : Nat} {ret : Option FieldType} {hh : List (Nat × Nat × Nat × Nat)} {As : List Value} {z : XO} {st0 : List Value} (hM : MH l D ta ad y cy ny ret hh d u0 As M z) (hw : CSh own ix y cy ny ret hh As.length) (hR : d + 1 ≤ R.frames ∧ 8 + (ny + 11) + 40 * d ≤ R.locals) (hcs : cells + u0 ≤ R.cells ∧ slots + 6 * u0 ≤ R.slots) (h8 : (st.map fun v => v.category).sum ≤ 8) (hst : st0 = As.reverse ++ st) (h0 : z.1.1 = 0) {st1 : List Value} {M' : Wm} (hz1 : z.1.2.toList ++ st = st1) (hz2 : z.2 = M') (hd : decode cc pc = .ok (.invokestatic ix, 3)) (hq : pc + 3 = q)
    (k : mw p l e R s m args below meth c (cells + u0) (slots + 6 * u0) Q D ta ad n M' q lv st1 S) : mw p l e R s m args below meth c cells slots Q D ta ad n M pc lv st0 S := fun H locs ls hP hS hl => by
  subst hq; subst hz1; subst hz2
  obtain ⟨⟨w1, w2, w4, w5⟩, hd4⟩ := hw
  have hG : GoodIn BG (va_wsS own ix y (.codeWith y cy ny ret hh :: BG)) := fun w h => by
    unfold va_wsS at h
    rcases List.mem_append.mp h with h | h
    · simp only [List.mem_cons, List.not_mem_nil, or_false] at h
      rcases h with rfl | rfl | rfl
      · exact BG_good _ w1
      · exact BG_good _ w2
      · exact BG_good _ w4
    · exact (List.mem_cons.mp h).elim (fun e => e ▸ BG_good _ w5) (BG_good w)
  have hrun := vx_runSX (l := l) (e := e) (R := R) (below := below) (meth := meth) (locs := locs) (cells := cells) (slots := slots) (As := As) (rest := st) (g := F0 m pc ls st0) ⟨cx.1, cx.2.1, cx.2.2.1, cx.2.2.2.1, cx.2.2.2.2.1⟩ hM (vx_cwSW As.length cx.2.2.2.2.1 hG rfl rfl rfl hd4 hR) ⟨Ph_blind, Ph_at cx hzx hcx hP hS⟩ rfl rfl hl.1 hst (by show 2 * 0 + _ ≤ 8; omega) hd hcs
  exact mx_run hrun hS hl (fun _ => k) (fun hne => absurd h0 hne)
/-- the law says 1 -/
theorem mw_law1 {b : Nat} (cx : Cx p s m #[Value.ref b] meth c D ta ad own cc 7) (hA : ∀ q : Nat, wA ad q → s.heap.size ≤ q) {Q : Unit → State → Prop} (k : ∀ (H : Heap) (ls : Array Slot), W p l e R s m #[Value.ref b] below meth c H [] 601024 7293034 (Q ()) (F0 m pc ls [.int 1])) (hc : cells ≤ 601024 ∧ slots ≤ 7293034) : mw p l e R s m #[Value.ref b] below meth c cells slots Q D ta ad 7 M pc lv [.int 1] () := fun H locs ls hP hS hl => by
  refine va_forget (fun q hq => hA _ (hS.2.2 q hq)) ?_
  exact W.widen hc.1 hc.2 (k H ls)
end LROW
