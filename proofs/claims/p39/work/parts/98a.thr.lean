/-! THROWS: a method that returns or throws, over the one world; what is thrown is new, the world stays as told -/
def exN (k : Nat) : String := if k = 1 then "java/lang/IllegalArgumentException" else if k = 2 then "java/lang/IllegalStateException" else "java/lang/IndexOutOfBoundsException"
def exC : List String := ["java/lang/RuntimeException", "java/lang/Exception"]
/-- words that stay with a machine, but for which the tables have no steady form -/
def isNx : Cond → Bool
  | .declares _ => true
  | .castable _ _ => true
  | _ => false
def NX : List Cond := lw_tbl.filter isNx
theorem NX_warm {s U : State} (hW : s.WarmedH U.vm) (h : ∀ w ∈ NX, va_Nw w s) : ∀ w ∈ NX, va_Nw w U := by
  intro w hw
  have h1 := h w hw
  have h2 : isNx w = true := (List.mem_filter.mp hw).2
  cases w <;> first | exact va_Nw.warmD hW h1 | exact va_Nw.warmC hW h1 | (exact absurd h2 (by simp [isNx]))
theorem NX_same {s U : State} (hv : s.vm = U.vm) (h : ∀ w ∈ NX, va_Nw w s) : ∀ w ∈ NX, va_Nw w U := by
  intro w hw
  have h1 := h w hw
  have h2 : isNx w = true := (List.mem_filter.mp hw).2
  cases w <;> first | exact va_Nw.same rfl hv h1 | (exact absurd h2 (by simp [isNx]))
theorem NX_use {s : State} {A : Array Value} (h : ∀ w ∈ NX, va_Nw w s) : ∀ w ∈ NX, w.before A s = true := by
  intro w hw
  have h1 := h w hw
  have h2 : isNx w = true := (List.mem_filter.mp hw).2
  cases w <;> first | exact va_Nw.use rfl h1 | (exact absurd h2 (by simp [isNx]))
theorem NX_ot {w : Cond} (h : w ∈ NX) : vx_ot w = true := by
  have h2 : isNx w = true := (List.mem_filter.mp h).2
  cases w <;> first | rfl | (exact absurd h2 (by simp [isNx]))
theorem inX_of {ws : List Cond} (ps : List Nat) (hp : ws = ps.filterMap (fun i => lw_tbl[i]?)) (h : ws.all (fun w => goodWord w || isNx w) = true) : ∀ w ∈ ws, w ∈ BG ∨ w ∈ NX := by
  intro w hw
  have h1 := List.all_eq_true.mp h w hw
  rw [hp] at hw
  obtain ⟨i, -, hi⟩ := List.mem_filterMap.mp hw
  rcases Bool.or_eq_true_iff.mp h1 with h1 | h1
  · exact Or.inl (BG_in (List.mem_of_getElem? hi) h1)
  · exact Or.inr (List.mem_filter.mpr ⟨List.mem_of_getElem? hi, h1⟩)
/-- what a throw needs of the statics -/
def wZx (ad : wAd) (U : State) (H : Heap) : Prop := vx_Zq Bundle.tN "UNASSIGNED_STACK" Bundle.steD (wA ad) U H ∧ vx_Zq Bundle.tN "SUPPRESSED_SENTINEL" Bundle.listD (wA ad) U H ∧ ∀ w ∈ NX, va_Nw w U
theorem wZx.warm {ad : wAd} {u U : State} {H : Heap} (hW : u.WarmedH U.vm) (h : wZx ad u H) : wZx ad U H := ⟨vx_Zq.moved hW.alike h.1, vx_Zq.moved hW.alike h.2.1, NX_warm hW h.2.2⟩
theorem wZx.same {ad : wAd} {u U : State} {H : Heap} (hv : u.vm = U.vm) (h : wZx ad u H) : wZx ad U H := ⟨vx_Zq.moved (hv ▸ Vm.Alike.refl u.vm) h.1, vx_Zq.moved (hv ▸ Vm.Alike.refl u.vm) h.2.1, NX_same hv h.2.2⟩
theorem wZx.kept {ad : wAd} {U : State} {H H1 : Heap} (h : wZx ad U H) (hq : ∀ a : Nat, a < H.size → ¬ wA ad a → H1[a]? = H[a]?) : wZx ad U H1 := ⟨h.1.kept hq, h.2.1.kept hq, h.2.2⟩
/-- returned (0) a value, or thrown a class, and the world then -/
abbrev XO : Type := (Nat × Option Value) × Wm
def mQx (D : va_G) (ta : wTa) (ad : wAd) (z : XO) : Array Value → State → Outcome → State → Prop := fun _ st oc t => (z.1.1 = 0 ∧ oc = .returned z.1.2 ∧ wP D ta ad z.2 t.heap) ∧ va_F (wA ad) st t
def mXx (D : va_G) (ta : wTa) (ad : wAd) (z : XO) : String → State → State → Prop := fun E st t => (¬ z.1.1 = 0 ∧ E = exN z.1.1 ∧ wP D ta ad z.2 t.heap) ∧ va_F (wA ad) st t
def rmx (d u : Nat) : Room := { frames := d, cells := u, slots := 6 * u, locals := 40 * d }
def mPx (D : va_G) (ta : wTa) (ad : wAd) (M : Wm) (U : State) : Prop := wP D ta ad M U.heap ∧ va_K D wcl (wtys ta) U ∧ wI ad ∧ wSt ad U U.heap ∧ wZx ad U U.heap
def MX (l : Launch) (D : va_G) (ta : wTa) (ad : wAd) (y : MethodName) (cc : ByteArray) (n : Nat) (ret : Option FieldType) (d u : Nat) (avs : List Value) (M : Wm) (z : XO) : Prop :=
  vx_Met l y (.code y cc n ret :: BG) (rmx d u) (va_Pc avs (mPx D ta ad M)) (mQx D ta ad z) (mXx D ta ad z) u (6 * u) (wA ad)
def XT (c : Code) : Prop := ∀ x ∈ c.exceptionTable.toList, False
/-- words of a throw -/
def XW (own : String) (k ik ic : Nat) : Prop := Bundle.fit (exN k) = true ∧ (∀ w ∈ vx_at0 own ic (exN k) exC, w ∈ BG ∨ w ∈ NX) ∧ Cond.classLink own ik (exN k) ∈ BG ∧ Cond.initialized (exN k) ∈ BG
theorem BG_ot {w : Cond} (h : w ∈ BG) : vx_ot w = true := by
  have := (List.mem_filter.mp h).2
  unfold vx_ot
  rw [this, Bool.or_true]
theorem va_at_lt {D : va_G} {cl : List vw_C} {q : Nat × va_E} {H : Heap} (h : va_at D cl q H) : q.1 < H.size := vx_lt (ws := [q]) (k := 0) (fun k q' hq => by
  cases k with
  | zero => cases hq; exact h
  | succ k => simp at hq) rfl
theorem wP.grow {D : va_G} {ta : wTa} {ad : wAd} {M : Wm} {H H1 : Heap} (h : wP D ta ad M H) (hk : ∀ q : Nat, q < H.size → H1[q]? = H[q]?) : wP D ta ad M H1 := fun c g i hi => by
  have a := h c g i hi
  exact a.kept (hk _ (va_at_lt a))
section THR
variable {σ : Type} {p : Program} {l : Launch} {e : Env} {R : Room} {s : State} {m : MethodId} {args : Array Value} {below : List Frame} {meth : Method} {c : Code} {cells slots : Nat} {Q : σ → State → Prop} {D : va_G} {ta : wTa} {ad : wAd} {n : Nat} {M : Wm} {pc q : Nat} {lv lv' : List (Nat × Value)} {st : List Value} {S A B : σ} {own : String} {cc : ByteArray} {u : Nat} {fin : σ → XO}
/-- ends -/
theorem mx_iret (cx : Cx p s m args meth c D ta ad own cc n) {x : Int32} {ty : FieldType} (hr : meth.sig.returnType = some ty) (hn : narrow ty (.int x) = .int x) (hz : fin S = ((0, some (.int x)), M)) (hc : cells ≤ u ∧ slots ≤ 6 * u) (hd : decode cc pc = .ok (.ireturn, 1)) : mw p l e R s m args below meth c cells slots (fun S => vx_MQ below (mQx D ta ad (fin S)) (mXx D ta ad (fin S)) args s u (6 * u) (wA ad)) D ta ad n M pc lv [.int x] S := fun H locs ls hP hS hl => by
  have hlocks := cx.2.2.2.2.2.2.2.2
  refine W.widen hc.1 hc.2 (vx_ret (W.zret cx.1 cx.2.1 hr hn (fun t ht hW => ⟨?_, hS.F ht⟩) hS.2.2 hd))
  rw [hz]; exact ⟨rfl, rfl, by rw [ht]; exact hP⟩
theorem mx_vret (cx : Cx p s m args meth c D ta ad own cc n) (hr : meth.sig.returnType = none) (hz : fin S = ((0, none), M)) (hc : cells ≤ u ∧ slots ≤ 6 * u) (hd : decode cc pc = .ok (.return_, 1)) : mw p l e R s m args below meth c cells slots (fun S => vx_MQ below (mQx D ta ad (fin S)) (mXx D ta ad (fin S)) args s u (6 * u) (wA ad)) D ta ad n M pc lv [] S := fun H locs ls hP hS hl => by
  have hlocks := cx.2.2.2.2.2.2.2.2
  refine W.widen hc.1 hc.2 (vx_ret (W.vret cx.1 cx.2.1 hr (fun t ht hW => ⟨?_, hS.F ht⟩) hS.2.2 hd))
  rw [hz]; exact ⟨rfl, rfl, by rw [ht]; exact hP⟩
theorem mx_aret (cx : Cx p s m args meth c D ta ad own cc n) {v : Value} {rt : FieldType} (hr : meth.sig.returnType = some rt) (hrt : (∃ n, rt = .object n) ∨ ∃ t, rt = .array t) (hv : v = .null ∨ ∃ a, v = .ref a) (hz : fin S = ((0, some v), M)) (hc : cells ≤ u ∧ slots ≤ 6 * u) (hd : decode cc pc = .ok (.areturn, 1)) : mw p l e R s m args below meth c cells slots (fun S => vx_MQ below (mQx D ta ad (fin S)) (mXx D ta ad (fin S)) args s u (6 * u) (wA ad)) D ta ad n M pc lv [v] S := fun H locs ls hP hS hl => by
  have hlocks := cx.2.2.2.2.2.2.2.2
  refine W.widen hc.1 hc.2 (vx_ret (W.aret cx.1 cx.2.1 hr hrt hv (fun t ht hW => ⟨?_, hS.F ht⟩) hS.2.2 hd))
  rw [hz]; exact ⟨rfl, rfl, by rw [ht]; exact hP⟩
/-- throw new E() -/
theorem mx_throw (cx : Cx p s m args meth c D ta ad own cc n) (hzx : wZx ad s s.heap) (hl : l.stackTraces = false) (ht : XT c) {k ik ic : Nat} (hw : XW own k ik ic) (hk : ¬ k = 0) (hz : (fin S).1.1 = k ∧ (fin S).2 = M) (hR : 5 < R.frames ∧ (st.map fun v => v.category).sum + 81 ≤ R.locals) (hcR : cells + 1 ≤ R.cells ∧ slots + 6 ≤ R.slots) (hc : cells + 1 ≤ u ∧ slots + 6 ≤ 6 * u) (d0 : decode cc pc = .ok (.new ik, 3)) (d3 : decode cc (pc + 3) = .ok (.dup, 1)) (d4 : decode cc (pc + 4) = .ok (.invokespecial ic, 3)) (d7 : decode cc (pc + 7) = .ok (.athrow, 1)) : mw p l e R s m args below meth c cells slots (fun S => vx_MQ below (mQx D ta ad (fin S)) (mXx D ta ad (fin S)) args s u (6 * u) (wA ad)) D ta ad n M pc lv st S := fun H locs ls hP hS hlv => by
  obtain ⟨w0, w1, w2, w3⟩ := hw
  refine vx_throw0 (names := exC) (A := wA ad) cx.1 cx.2.1 hl cx.2.2.2.1 w0 (by decide) (cx.2.2.2.2.1 _ w2) (cx.2.2.2.2.1 _ w3) (fun w h => (w1 w h).elim (cx.2.2.2.2.1 _) (NX_use hzx.2.2 w)) (fun w h => ?_) hzx.1 hzx.2.1 hS (hlv.1.trans cx.2.2.1.symm) d0 d3 d4 d7 (fun x hx => (ht x hx).elim) (by show 2 + 3 < R.frames; omega) (by show _ + (13 * (2 + 1) + 42) ≤ R.locals; omega) hcR.1 hcR.2 cx.2.2.2.2.2.2.2.2 (fun t hA h1 h2 => ⟨⟨by rw [hz.1]; exact hk, by rw [hz.1], ?_⟩, ?_⟩) hS.2.2 hc.1 hc.2
  · rcases List.mem_cons.mp h with h | h
    · rw [h]; exact BG_ot w2
    · rcases List.mem_cons.mp h with h | h
      · rw [h]; exact BG_ot w3
      · exact (w1 w h).elim BG_ot NX_ot
  · rw [hz.2]; exact hP.grow h2
  · exact ⟨Nat.le_trans hS.1 h1, fun q a b => (h2 q (Nat.lt_of_lt_of_le a hS.1)).trans (hS.2.1 q a b)⟩
/-- behind a call that may throw -/
theorem mx_run {H : Heap} {locs : List Loc} {ls : Array Slot} {z : XO} {avs : Array Value} {st0 : List Value} {u0 : Nat} (hr : vx_Run p l e R s m args below meth c H locs cells slots u0 (6 * u0) (F0 m pc ls st0) st (mQx D ta ad z avs) (mXx D ta ad z) (wA ad)) (hS : va_S (wA ad) s.heap H locs) (hl : lv_has ls n lv) (k0 : z.1.1 = 0 → mw p l e R s m args below meth c (cells + u0) (slots + 6 * u0) Q D ta ad n z.2 (pc + 3) lv (z.1.2.toList ++ st) S)
    (kx : ¬ z.1.1 = 0 → ∀ (H1 : Heap) (locs1 : List Loc) (q : Addr) (ce : Cell), wP D ta ad z.2 H1 → va_S (wA ad) s.heap H1 locs1 → H1[q]? = some ce → ce.vm = .none → s.vm.findClass (exN z.1.1) = some ce.cls → vx_W p l e R s m args below meth c H1 locs1 (cells + u0) (slots + 6 * u0) (Q S) (F0 m pc ls st) q) : W p l e R s m args below meth c H locs cells slots (Q S) (F0 m pc ls st0) := by
  intro T hT X
  rcases hr T hT X with ⟨v, st₀, t, T', L, h0, X', hL, e1, e2, ⟨⟨h0z, hv, hb⟩, hz, hk⟩, stp⟩ | ⟨q, st₀, t, T', L, E, ce, h0, X', hL, e1, e2, ⟨⟨h0z, hE, hb⟩, hz, hk⟩, hce, hcv, hcl, stp⟩
  · cases hv
    rw [h0] at hz hk
    obtain ⟨t2, a1, b1⟩ := k0 h0z T'.heap (locs ++ L) ls (by rw [e1]; exact hb) ⟨Nat.le_trans hS.1 (by rw [e1]; exact hz), fun q h1 h2 => by rw [e1, hk q (Nat.lt_of_lt_of_le h1 hS.1) h2]; exact hS.2.1 q h1 h2, fun q hq => by
      rcases List.mem_append.mp hq with h | h
      · exact hS.2.2 q h
      · exact hL q h⟩ hl T' rfl X'
    exact ⟨t2, stp t2 a1, b1⟩
  · subst hE
    rw [h0] at hz hk
    obtain ⟨t2, a1, b1⟩ := kx h0z T'.heap (locs ++ L) q ce (by rw [e1]; exact hb) ⟨Nat.le_trans hS.1 (by rw [e1]; exact hz), fun q h1 h2 => by rw [e1, hk q (Nat.lt_of_lt_of_le h1 hS.1) h2]; exact hS.2.1 q h1 h2, fun q hq => by
      rcases List.mem_append.mp hq with h | h
      · exact hS.2.2 q h
      · exact hL q h⟩ (by rw [e1]; exact hce) hcv hcl T' rfl X'
    exact ⟨t2, stp.trans a1, b1⟩
theorem Px_blind {avs : List Value} : FrameBlind (va_Pc avs (mPx D ta ad M)) := fun a U g mk q => by
  obtain ⟨q0, qP, qK, qI, qS, qZ⟩ := q
  exact ⟨q0, qP, va_K.moved (u := U) (U := U.calling g mk a) (Vm.Alike.refl U.vm) qK, qI, wSt.same (u := U) (U := U.calling g mk a) rfl qS, wZx.same (u := U) (U := U.calling g mk a) rfl qZ⟩
theorem Px_at (cx : Cx p s m args meth c D ta ad own cc n) (hzx : wZx ad s s.heap) {avs : List Value} {H : Heap} {locs : List Loc} (hP : wP D ta ad M H) (hS : va_S (wA ad) s.heap H locs) : ∀ U : State, U.heap = H → s.WarmedH U.vm → va_Pc avs (mPx D ta ad M) avs.toArray U := fun U hU hW => ⟨rfl, by rw [hU]; exact hP, va_K.moved hW.alike cx.2.2.2.2.2.1, cx.2.2.2.2.2.2.1, (wSt.kept cx.2.2.2.2.2.2.2.1 (H1 := U.heap) (fun a h1 h2 => by rw [hU]; exact hS.2.1 a h1 h2)).warm hW, wZx.warm hW (wZx.kept hzx (H1 := U.heap) (fun a h1 h2 => by rw [hU]; exact hS.2.1 a h1 h2))⟩
/-- not caught here -/
theorem mx_out (cx : Cx p s m args meth c D ta ad own cc n) (ht : XT c) {H1 : Heap} {locs1 : List Loc} {q : Addr} {ce : Cell} {k : Nat} {M' : Wm} {ls : Array Slot} (hk : ¬ k = 0) (hz : (fin S).1.1 = k ∧ (fin S).2 = M') (hc : cells ≤ u ∧ slots ≤ 6 * u) (hP : wP D ta ad M' H1) (hS : va_S (wA ad) s.heap H1 locs1) (h1 : H1[q]? = some ce) (h2 : ce.vm = .none) (h3 : s.vm.findClass (exN k) = some ce.cls) : vx_W p l e R s m args below meth c H1 locs1 cells slots (vx_MQ below (mQx D ta ad (fin S)) (mXx D ta ad (fin S)) args s u (6 * u) (wA ad)) (F0 m pc ls st) q :=
  vx_out (fun x hx => (ht x hx).elim) cx.2.2.2.2.2.2.2.2 h1 h2 h3 (fun t htt hA => ⟨⟨by rw [hz.1]; exact hk, by rw [hz.1], by rw [hz.2, htt]; exact hP⟩, hS.F htt⟩) hS.2.2 hc.1 hc.2
/-- calls of methods that may throw -/
theorem mx_callS (cx : Cx p s m args meth c D ta ad own cc n) (hzx : wZx ad s s.heap) {y : MethodName} {cy : ByteArray} {ny d ix u0 : Nat} {ret : Option FieldType} {As : List Value} {z : XO} {st0 : List Value} (hM : MX l D ta ad y cy ny ret d u0 As M z) (hw : CS own ix y cy ny ret As.length) (hR : d + 1 ≤ R.frames ∧ 8 + (ny + 11) + 40 * d ≤ R.locals) (hcs : cells + u0 ≤ R.cells ∧ slots + 6 * u0 ≤ R.slots) (h8 : (st.map fun v => v.category).sum ≤ 8) (hst : st0 = As.reverse ++ st) {st1 : List Value} {M' : Wm} (hz1 : z.1.2.toList ++ st = st1) (hz2 : z.2 = M') (hd : decode cc pc = .ok (.invokestatic ix, 3)) (hq : pc + 3 = q)
    (kx : ¬ z.1.1 = 0 → ∀ (ls : Array Slot), lv_has ls n lv → ∀ (H1 : Heap) (locs1 : List Loc) (q : Addr) (ce : Cell), wP D ta ad z.2 H1 → va_S (wA ad) s.heap H1 locs1 → H1[q]? = some ce → ce.vm = .none → s.vm.findClass (exN z.1.1) = some ce.cls → vx_W p l e R s m args below meth c H1 locs1 (cells + u0) (slots + 6 * u0) (Q S) (F0 m pc ls st) q)
    (k : z.1.1 = 0 → mw p l e R s m args below meth c (cells + u0) (slots + 6 * u0) Q D ta ad n M' q lv st1 S) : mw p l e R s m args below meth c cells slots Q D ta ad n M pc lv st0 S := fun H locs ls hP hS hl => by
  subst hq; subst hz1; subst hz2
  obtain ⟨⟨w1, w2, w4, w5⟩, hd4⟩ := hw
  have hG : GoodIn BG (va_wsS own ix y (.code y cy ny ret :: BG)) := fun w h => by
    unfold va_wsS at h
    rcases List.mem_append.mp h with h | h
    · simp only [List.mem_cons, List.not_mem_nil, or_false] at h
      rcases h with rfl | rfl | rfl
      · exact BG_good _ w1
      · exact BG_good _ w2
      · exact BG_good _ w4
    · exact BG_codes w5 w h
  have hrun := vx_runS (l := l) (e := e) (R := R) (below := below) (meth := meth) (locs := locs) (cells := cells) (slots := slots) (As := As) (rest := st) (g := F0 m pc ls st0) ⟨cx.1, cx.2.1, cx.2.2.1, cx.2.2.2.1, cx.2.2.2.2.1⟩ hM (va_cwS As.length cx.2.2.2.2.1 hG rfl rfl rfl hd4 hR) ⟨Px_blind, Px_at cx hzx hP hS⟩ rfl rfl hl.1 hst (by show 2 * 0 + _ ≤ 8; omega) hd hcs
  exact mx_run hrun hS hl k (fun h0 => kx h0 ls hl)
theorem mx_callV (cx : Cx p s m args meth c D ta ad own cc n) (hzx : wZx ad s s.heap) {y : MethodName} {C : String} {cy : ByteArray} {ny d ix k0 g ci u0 : Nat} {ret : Option FieldType} {i : Int32} {fs As : List Value} {r : vw_C} {z : XO} {st0 : List Value} (hM : MX l D ta ad y cy ny ret d u0 (.ref (ad k0 g i) :: As) M z) (hw : CV own ix y C cy ny ret As.length) (he : wcell ta ad k0 g i (M k0 g i) = .inr (ci, fs)) (hc : wcl[ci]? = some r) (hrC : r.1 = C) (hi : vp_in i (wcnt k0 g)) (hR : d + 1 ≤ R.frames ∧ 8 + (ny + 11) + 40 * d ≤ R.locals) (hcs : cells + u0 ≤ R.cells ∧ slots + 6 * u0 ≤ R.slots) (h8 : (st.map fun v => v.category).sum ≤ 8) (hst : st0 = As.reverse ++ .ref (ad k0 g i) :: st) {st1 : List Value} {M' : Wm} (hz1 : z.1.2.toList ++ st = st1) (hz2 : z.2 = M') (hd : decode cc pc = .ok (.invokevirtual ix, 3)) (hq : pc + 3 = q)
    (kx : ¬ z.1.1 = 0 → ∀ (ls : Array Slot), lv_has ls n lv → ∀ (H1 : Heap) (locs1 : List Loc) (q : Addr) (ce : Cell), wP D ta ad z.2 H1 → va_S (wA ad) s.heap H1 locs1 → H1[q]? = some ce → ce.vm = .none → s.vm.findClass (exN z.1.1) = some ce.cls → vx_W p l e R s m args below meth c H1 locs1 (cells + u0) (slots + 6 * u0) (Q S) (F0 m pc ls st) q)
    (k : z.1.1 = 0 → mw p l e R s m args below meth c (cells + u0) (slots + 6 * u0) Q D ta ad n M' q lv st1 S) : mw p l e R s m args below meth c cells slots Q D ta ad n M pc lv st0 S := fun H locs ls hP hS hl => by
  subst hq; subst hrC; subst hz1; subst hz2
  obtain ⟨⟨w1, w2, w3, w4, w5⟩, hd4⟩ := hw
  have hG : GoodIn BG (wsV own ix r.1 y (.code y cy ny ret :: BG)) := fun w h => by
    unfold wsV at h
    rcases List.mem_append.mp h with h | h
    · simp only [List.mem_cons, List.not_mem_nil, or_false] at h
      rcases h with rfl | rfl | rfl | rfl
      · exact BG_good _ w1
      · exact BG_good _ w2
      · exact BG_good _ w3
      · exact BG_good _ w4
    · exact BG_codes w5 w h
  have hrun := vx_runV (l := l) (e := e) (R := R) (below := below) (meth := meth) (locs := locs) (cells := cells) (slots := slots) (As := As) (rest := st) (C := r.1) (b := ad k0 g i) (g := F0 m pc ls st0) ⟨cx.1, cx.2.1, cx.2.2.1, cx.2.2.2.1, cx.2.2.2.2.1⟩ hM (cwV As.length cx.2.2.2.2.1 hG rfl rfl rfl hd4 hR) ⟨Px_blind, va_recv cx.2.2.2.2.2.1 (hP.one hi he) hc (q0 := 0) rfl, Px_at cx hzx hP hS⟩ rfl rfl hl.1 hst (by show 2 * 0 + _ ≤ 8; omega) hd hcs
  exact mx_run hrun hS hl k (fun h0 => kx h0 ls hl)
/-- a guard: a call that throws, and then this method does -/
theorem mx_gS (cx : Cx p s m args meth c D ta ad own cc n) (hzx : wZx ad s s.heap) (ht : XT c) {y : MethodName} {cy : ByteArray} {ny d ix u0 : Nat} {ret : Option FieldType} {As : List Value} {r : Nat} {v : Option Value} {st0 : List Value} (hM : MX l D ta ad y cy ny ret d u0 As M ((r, v), M)) (hw : CS own ix y cy ny ret As.length) (hR : d + 1 ≤ R.frames ∧ 8 + (ny + 11) + 40 * d ≤ R.locals) (hcs : cells + u0 ≤ R.cells ∧ slots + 6 * u0 ≤ R.slots) (hcu : cells + u0 ≤ u ∧ slots + 6 * u0 ≤ 6 * u) (h8 : (st.map fun v => v.category).sum ≤ 8) (hst : st0 = As.reverse ++ st) {st1 : List Value} (hz1 : v.toList ++ st = st1) (hB : (fin B).1.1 = r ∧ (fin B).2 = M) (hd : decode cc pc = .ok (.invokestatic ix, 3)) (hq : pc + 3 = q)
    (k : r = 0 → mw p l e R s m args below meth c (cells + u0) (slots + 6 * u0) (fun S => vx_MQ below (mQx D ta ad (fin S)) (mXx D ta ad (fin S)) args s u (6 * u) (wA ad)) D ta ad n M q lv st1 A) : mw p l e R s m args below meth c cells slots (fun S => vx_MQ below (mQx D ta ad (fin S)) (mXx D ta ad (fin S)) args s u (6 * u) (wA ad)) D ta ad n M pc lv st0 (if r = 0 then A else B) := by
  by_cases h : r = 0
  · rw [if_pos h]
    exact mx_callS cx hzx hM hw hR hcs h8 hst hz1 rfl hd hq (fun h0 => absurd h h0) k
  · rw [if_neg h]
    exact mx_callS cx hzx hM hw hR hcs h8 hst hz1 rfl hd hq (fun h0 ls hl H1 locs1 q9 ce a1 a2 a3 a4 a5 => mx_out cx ht h0 hB hcu a1 a2 a3 a4 a5) (fun h0 => absurd h0 h)
theorem mx_gV (cx : Cx p s m args meth c D ta ad own cc n) (hzx : wZx ad s s.heap) (ht : XT c) {y : MethodName} {C : String} {cy : ByteArray} {ny d ix k0 g ci u0 : Nat} {ret : Option FieldType} {i : Int32} {fs As : List Value} {rc : vw_C} {r : Nat} {v : Option Value} {st0 : List Value} (hM : MX l D ta ad y cy ny ret d u0 (.ref (ad k0 g i) :: As) M ((r, v), M)) (hw : CV own ix y C cy ny ret As.length) (he : wcell ta ad k0 g i (M k0 g i) = .inr (ci, fs)) (hc : wcl[ci]? = some rc) (hrC : rc.1 = C) (hi : vp_in i (wcnt k0 g)) (hR : d + 1 ≤ R.frames ∧ 8 + (ny + 11) + 40 * d ≤ R.locals) (hcs : cells + u0 ≤ R.cells ∧ slots + 6 * u0 ≤ R.slots) (hcu : cells + u0 ≤ u ∧ slots + 6 * u0 ≤ 6 * u) (h8 : (st.map fun v => v.category).sum ≤ 8) (hst : st0 = As.reverse ++ .ref (ad k0 g i) :: st) {st1 : List Value} (hz1 : v.toList ++ st = st1) (hB : (fin B).1.1 = r ∧ (fin B).2 = M) (hd : decode cc pc = .ok (.invokevirtual ix, 3)) (hq : pc + 3 = q)
    (k : r = 0 → mw p l e R s m args below meth c (cells + u0) (slots + 6 * u0) (fun S => vx_MQ below (mQx D ta ad (fin S)) (mXx D ta ad (fin S)) args s u (6 * u) (wA ad)) D ta ad n M q lv st1 A) : mw p l e R s m args below meth c cells slots (fun S => vx_MQ below (mQx D ta ad (fin S)) (mXx D ta ad (fin S)) args s u (6 * u) (wA ad)) D ta ad n M pc lv st0 (if r = 0 then A else B) := by
  by_cases h : r = 0
  · rw [if_pos h]
    exact mx_callV cx hzx hM hw he hc hrC hi hR hcs h8 hst hz1 rfl hd hq (fun h0 => absurd h h0) k
  · rw [if_neg h]
    exact mx_callV cx hzx hM hw he hc hrC hi hR hcs h8 hst hz1 rfl hd hq (fun h0 ls hl H1 locs1 q9 ce a1 a2 a3 a4 a5 => mx_out cx ht h0 hB hcu a1 a2 a3 a4 a5) (fun h0 => absurd h0 h)
/-- the start of a method that may throw -/
theorem MX.of {y : MethodName} {ret : Option FieldType} {d : Nat} {avs : List Value} {M : Wm} {z : XO} (fin : σ → XO) (S : σ) (hz : fin S = z) (hy : plainName y.cls = true) (hn : (lg_sl avs).length ≤ n)
    (body : ∀ (p : Program) (e : Env) (s : State) (m : MethodId) (args : Array Value) (below : List Frame) (meth : Method) (c : Code), Cx p s m args meth c D ta ad y.cls cc n → wZx ad s s.heap → XT c → meth.sig.returnType = ret → mw p l e (rmx d u) s m args below meth c 0 0 (fun S => vx_MQ below (mQx D ta ad (fin S)) (mXx D ta ad (fin S)) args s u (6 * u) (wA ad)) D ta ad n M 0 (lv_args 0 avs) [] S) : MX l D ta ad y cc n ret d u avs M z := by
  subst hz
  refine vx_ofW (cc := cc) (maxL := n) (ret := ret) hy rfl ?_
  intro p e s m args below meth c s₁ B hml ht hv
  obtain ⟨rfl, hP, hK, hI, hSt, hZ⟩ := hv
  have hts := atoms_spec (ws := .code y cc n ret :: BG) B.pre
  have hown : s.vm.findClass y.cls = some m.cls := findClass_of_methodNamed B.named
  have hl := lv_entry avs (n := n) hn
  rw [lg_entry_eq]
  exact body p e s m avs.toArray below meth c ⟨B.exec, B.bytes, hml, hown, fun w h => hts w (List.mem_cons_of_mem _ h), hK, hI, hSt, B.notSynchronized⟩ hZ ht B.returns s.heap [] _ hP va_S.rf hl
end THR

theorem xw_1 : XW RX11 1 220 222 := ⟨rfl, inX_of [46, 400, 409, 413, 416, 418, 401, 402, 66, 67, 403, 408, 414, 430, 390, 431, 392, 432, 394, 404, 406, 396, 420, 421, 422, 423, 381, 423, 424, 425, 426, 383, 426, 427, 428, 401, 385, 419, 379, 380, 387, 388, 389, 391, 393, 395, 399, 398, 397] (by decide +kernel) (by decide +kernel), BG_at 378 (by decide +kernel) (by decide +kernel), BG_at 49 (by decide +kernel) (by decide +kernel)⟩
theorem xw_2 : XW RX11 2 223 225 := ⟨rfl, inX_of [46, 400, 409, 413, 416, 418, 401, 402, 66, 67, 403, 408, 414, 430, 390, 431, 392, 432, 394, 404, 406, 396, 581, 582, 583, 423, 381, 423, 424, 425, 426, 383, 426, 427, 428, 401, 385, 580, 572, 573, 574, 411, 575, 576, 577, 578, 399, 398, 579] (by decide +kernel) (by decide +kernel), BG_at 571 (by decide +kernel) (by decide +kernel), BG_at 50 (by decide +kernel) (by decide +kernel)⟩
theorem xw_3 : XW RX11 3 226 228 := ⟨rfl, inX_of [46, 400, 409, 413, 416, 418, 401, 402, 66, 67, 403, 408, 414, 430, 390, 431, 392, 432, 394, 404, 406, 396, 1038, 1039, 1040, 423, 381, 423, 424, 425, 426, 383, 426, 427, 428, 401, 385, 1037, 1029, 1030, 1031, 412, 1032, 1033, 1034, 1035, 399, 398, 1036] (by decide +kernel) (by decide +kernel), BG_at 1028 (by decide +kernel) (by decide +kernel), BG_at 59 (by decide +kernel) (by decide +kernel)⟩
