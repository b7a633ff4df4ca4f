/-! THE LAW'S METHODS: what each comes to, told by what is told of both objects; rows -/
def wCx (U : State) : Prop := ∀ a b : Nat, (a = 1 ∨ a = 2 ∨ a = 3) → (b = 1 ∨ b = 2 ∨ b = 3) → ¬ a = b → va_Nc (exN a) (exN b) U
theorem wCx.moved {u U : State} (hA : u.vm.Alike U.vm) (h : wCx u) : wCx U := fun a b ha hb hn => (h a b ha hb hn).moved hA
def CSh (own : String) (ix : Nat) (y : MethodName) (cc : ByteArray) (n : Nat) (ret : Option FieldType) (hh : List (Nat × Nat × Nat × Nat)) (k : Nat) : Prop := (Cond.methodLink own ix y ∈ BG ∧ Cond.static y ∈ BG ∧ Cond.initialized y.cls ∈ BG ∧ Cond.codeWith y cc n ret hh ∈ BG) ∧ y.cls ≠ "java/lang/invoke/MethodHandle" ∧ y.cls ≠ "java/lang/invoke/VarHandle" ∧ (parseMethodDescriptor y.desc).map (fun d => d.parameters.length) = some k
abbrev GX : Type := (Nat × Int32) × (Wm → Prop)
def gQx (D : va_G) (ta : wTa) (ad : wAd) (z : GX) : Array Value → State → Outcome → State → Prop := fun _ st oc t => (z.1.1 = 0 ∧ oc = .returned (some (.int z.1.2)) ∧ ∃ M : Wm, z.2 M ∧ wP D ta ad M t.heap) ∧ va_F (wA ad) st t
def gXx (D : va_G) (ta : wTa) (ad : wAd) (z : GX) : String → State → State → Prop := fun E st t => (¬ z.1.1 = 0 ∧ E = exN z.1.1 ∧ ∃ M : Wm, z.2 M ∧ wP D ta ad M t.heap) ∧ va_F (wA ad) st t
def gPh (D : va_G) (ta : wTa) (ad : wAd) (Γ : Wm → Prop) (U : State) : Prop := (∃ M : Wm, Γ M ∧ wP D ta ad M U.heap) ∧ va_K D wcl (wtys ta) U ∧ wI ad ∧ wSt ad U U.heap ∧ wZx ad U U.heap ∧ wCx U
def ML (l : Launch) (D : va_G) (ta : wTa) (ad : wAd) (y : MethodName) (W : Cond) (d u : Nat) (avs : List Value) (Γ : Wm → Prop) (z : GX) : Prop := vx_Met l y (W :: BG) (rmx d u) (va_Pc avs (gPh D ta ad Γ)) (gQx D ta ad z) (gXx D ta ad z) u (6 * u) (wA ad)
section GL
variable {σ : Type} {p : Program} {l : Launch} {e : Env} {R : Room} {s : State} {m : MethodId} {args : Array Value} {below : List Frame} {meth : Method} {c : Code} {cells slots : Nat} {Q : σ → State → Prop} {D : va_G} {ta : wTa} {ad : wAd} {n : Nat} {M : Wm} {pc q : Nat} {lv lv' : List (Nat × Value)} {st : List Value} {S A B : σ} {own : String} {cc : ByteArray} {d u cb : Nat} {fin : σ → GX} {Γ : Wm → Prop} {z : GX}
theorem mw_widen {c2 s2 : Nat} (h : cells ≤ c2 ∧ slots ≤ s2) (k : mw p l e R s m args below meth c c2 s2 Q D ta ad n M pc lv st S) : mw p l e R s m args below meth c cells slots Q D ta ad n M pc lv st S := fun H locs ls hP hS hl => W.widen h.1 h.2 (k H locs ls hP hS hl)
/-- the start of one of the law's methods -/
theorem ML.of {y : MethodName} {ret : Option FieldType} {avs : List Value} (fin : σ → GX) (S : σ) (hz : fin S = z) (hy : plainName y.cls = true) (hn : (lg_sl avs).length ≤ n)
    (body : ∀ (p : Program) (e : Env) (s : State) (m : MethodId) (args : Array Value) (below : List Frame) (meth : Method) (c : Code), Cx p s m args meth c D ta ad y.cls cc n → wZx ad s s.heap → wCx s → XT c → meth.sig.returnType = ret → ∀ M : Wm, Γ M → mw p l e (rmx d u) s m args below meth c 0 (6 * 0) (fun S => vx_MQ below (gQx D ta ad (fin S)) (gXx D ta ad (fin S)) args s u (6 * u) (wA ad)) D ta ad n M 0 (lv_args 0 avs) [] S) : ML l D ta ad y (.code y cc n ret) d u avs Γ z := by
  subst hz
  refine vx_ofW (cc := cc) (maxL := n) (ret := ret) hy rfl ?_
  intro p e s m args below meth c s₁ B hml ht hv
  obtain ⟨rfl, ⟨M, hG, hP⟩, hK, hI, hSt, hZ, hC⟩ := hv
  have hts := atoms_spec (ws := .code y cc n ret :: BG) B.pre
  have hown : s.vm.findClass y.cls = some m.cls := findClass_of_methodNamed B.named
  have hl := lv_entry avs (n := n) hn
  rw [lg_entry_eq]
  exact body p e s m avs.toArray below meth c ⟨B.exec, B.bytes, hml, hown, fun w h => hts w (List.mem_cons_of_mem _ h), hK, hI, hSt, B.notSynchronized⟩ hZ hC ht B.returns M hG s.heap [] _ hP va_S.rf hl
theorem ML.ofH {y : MethodName} {ret : Option FieldType} {hh : List (Nat × Nat × Nat × Nat)} {avs : List Value} (fin : σ → GX) (S : σ) (hz : fin S = z) (hy : plainName y.cls = true) (hn : (lg_sl avs).length ≤ n)
    (body : ∀ (p : Program) (e : Env) (s : State) (m : MethodId) (args : Array Value) (below : List Frame) (meth : Method) (c : Code), Cx p s m args meth c D ta ad y.cls cc n → wZx ad s s.heap → wCx s → c.exceptionTable.toList = tableOf hh → meth.sig.returnType = ret → ∀ M : Wm, Γ M → mw p l e (rmx d u) s m args below meth c 0 (6 * 0) (fun S => vx_MQ below (gQx D ta ad (fin S)) (gXx D ta ad (fin S)) args s u (6 * u) (wA ad)) D ta ad n M 0 (lv_args 0 avs) [] S) : ML l D ta ad y (.codeWith y cc n ret hh) d u avs Γ z := by
  subst hz
  refine vx_ofWH (cc := cc) (maxL := n) (ret := ret) (hh := hh) hy rfl ?_
  intro p e s m args below meth c s₁ B hml hv
  obtain ⟨rfl, ⟨M, hG, hP⟩, hK, hI, hSt, hZ, hC⟩ := hv
  have hts := atoms_spec (ws := .codeWith y cc n ret hh :: BG) B.pre
  have hown : s.vm.findClass y.cls = some m.cls := findClass_of_methodNamed B.named
  have hl := lv_entry avs (n := n) hn
  have ht := vx_table (x := y) B (hts _ List.mem_cons_self)
  rw [lg_entry_eq]
  exact body p e s m avs.toArray below meth c ⟨B.exec, B.bytes, hml, hown, fun w h => hts w (List.mem_cons_of_mem _ h), hK, hI, hSt, B.notSynchronized⟩ hZ hC ht B.returns M hG s.heap [] _ hP va_S.rf hl
/-- ends -/
theorem gl_iret (cx : Cx p s m args meth c D ta ad own cc n) {x : Int32} {ty : FieldType} (hr : meth.sig.returnType = some ty) (hn : narrow ty (.int x) = .int x) (hz : (fin S).1 = (0, x)) (hG : (fin S).2 M) (hc : cb ≤ u) (hd : decode cc pc = .ok (.ireturn, 1)) : mw p l e (rmx d u) s m args below meth c cb (6 * cb) (fun S => vx_MQ below (gQx D ta ad (fin S)) (gXx D ta ad (fin S)) args s u (6 * u) (wA ad)) D ta ad n M pc lv [.int x] S := fun H locs ls hP hS hl => by
  have hlocks := cx.2.2.2.2.2.2.2.2
  refine W.widen hc (Nat.mul_le_mul_left 6 hc) (vx_ret (W.zret cx.1 cx.2.1 hr hn (fun t ht hW => ⟨?_, hS.F ht⟩) hS.2.2 hd))
  rw [hz]; exact ⟨rfl, rfl, M, hG, by rw [ht]; exact hP⟩
/-- not caught here -/
theorem gl_out (cx : Cx p s m args meth c D ta ad own cc n) (ht : XT c) {H1 : Heap} {locs1 : List Loc} {q : Addr} {ce : Cell} {k : Nat} {M' : Wm} {ls : Array Slot} (hk : ¬ k = 0) (hz : (fin S).1.1 = k ∧ (fin S).2 M') (hc : cells ≤ u ∧ slots ≤ 6 * u) (hP : wP D ta ad M' H1) (hS : va_S (wA ad) s.heap H1 locs1) (h1 : H1[q]? = some ce) (h2 : ce.vm = .none) (h3 : s.vm.findClass (exN k) = some ce.cls) : vx_W p l e R s m args below meth c H1 locs1 cells slots (vx_MQ below (gQx D ta ad (fin S)) (gXx D ta ad (fin S)) args s u (6 * u) (wA ad)) (F0 m pc ls st) q :=
  vx_out (fun x hx => (ht x hx).elim) cx.2.2.2.2.2.2.2.2 h1 h2 h3 (fun t htt hA => ⟨⟨by rw [hz.1]; exact hk, by rw [hz.1], M', hz.2, by rw [htt]; exact hP⟩, hS.F htt⟩) hS.2.2 hc.1 hc.2
theorem cs6 {a b : Nat} (h : cells + a ≤ b) : 6 * cells + 6 * a ≤ 6 * b := by omega
/-- a call of a method of the class: what it throws goes on -/
theorem gl_callV (cx : Cx p s m args meth c D ta ad own cc n) (hzx : wZx ad s s.heap) (ht : XT c) {y : MethodName} {C : String} {cy : ByteArray} {ny d0 ix k0 g ci u0 : Nat} {ret : Option FieldType} {i : Int32} {fs As : List Value} {rc : vw_C} {r : Nat × Int32} {M' : Wm} {st0 : List Value} (hM : MX l D ta ad y cy ny ret d0 u0 (.ref (ad k0 g i) :: As) M (fxi (r, M'))) (hw : CV own ix y C cy ny ret As.length) (he : wcell ta ad k0 g i (M k0 g i) = .inr (ci, fs)) (hc : wcl[ci]? = some rc) (hrC : rc.1 = C) (hi : vp_in i (wcnt k0 g)) (hR : d0 + 1 ≤ d ∧ 8 + (ny + 11) + 40 * d0 ≤ 40 * d) (hcu : cb + u0 ≤ u) (h8 : (st.map fun v => v.category).sum ≤ 8) (hst : st0 = As.reverse ++ .ref (ad k0 g i) :: st) (hB : ¬ r.1 = 0 → (fin B).1.1 = r.1 ∧ (fin B).2 M') (hd : decode cc pc = .ok (.invokevirtual ix, 3)) (hq : pc + 3 = q)
    (k : r.1 = 0 → mw p l e (rmx d u) s m args below meth c (cb + u0) (6 * (cb + u0)) (fun S => vx_MQ below (gQx D ta ad (fin S)) (gXx D ta ad (fin S)) args s u (6 * u) (wA ad)) D ta ad n M' q lv (.int r.2 :: st) A) : mw p l e (rmx d u) s m args below meth c cb (6 * cb) (fun S => vx_MQ below (gQx D ta ad (fin S)) (gXx D ta ad (fin S)) args s u (6 * u) (wA ad)) D ta ad n M pc lv st0 (if r.1 = 0 then A else B) := by
  by_cases h : r.1 = 0
  · rw [if_pos h]
    refine mx_callV cx hzx hM hw he hc hrC hi hR ⟨hcu, cs6 hcu⟩ h8 hst (st1 := .int r.2 :: st) rfl rfl hd hq (fun h0 => absurd h h0) (fun h0 => ?_)
    rw [← Nat.mul_add]; exact k h
  · rw [if_neg h]
    exact mx_callV cx hzx hM hw he hc hrC hi hR ⟨hcu, cs6 hcu⟩ h8 hst (st1 := .int r.2 :: st) rfl rfl hd hq (fun h0 ls hl H1 locs1 q9 ce a1 a2 a3 a4 a5 => gl_out cx ht h (hB h) ⟨hcu, by have := cs6 hcu; omega⟩ a1 a2 a3 a4 a5) (fun h0 => absurd h0 h)
/-- behind a call of one of the law's own methods -/
theorem gl_run {H : Heap} {locs : List Loc} {ls : Array Slot} {avs : Array Value} {st0 : List Value} {u0 : Nat} (hr : vx_Run p l e R s m args below meth c H locs cells slots u0 (6 * u0) (F0 m pc ls st0) st (gQx D ta ad z avs) (gXx D ta ad z) (wA ad)) (hS : va_S (wA ad) s.heap H locs) (hl : lv_has ls n lv) (k0 : z.1.1 = 0 → ∀ M' : Wm, z.2 M' → mw p l e R s m args below meth c (cells + u0) (slots + 6 * u0) Q D ta ad n M' (pc + 3) lv (.int z.1.2 :: st) S)
    (kx : ¬ z.1.1 = 0 → ∀ M' : Wm, z.2 M' → ∀ (H1 : Heap) (locs1 : List Loc) (q : Addr) (ce : Cell), wP D ta ad M' H1 → va_S (wA ad) s.heap H1 locs1 → H1[q]? = some ce → ce.vm = .none → s.vm.findClass (exN z.1.1) = some ce.cls → vx_W p l e R s m args below meth c H1 locs1 (cells + u0) (slots + 6 * u0) (Q S) (F0 m pc ls st) q) : W p l e R s m args below meth c H locs cells slots (Q S) (F0 m pc ls st0) := by
  intro T hT X
  rcases hr T hT X with ⟨v, st₀, t, T', L, h0, X', hL, e1, e2, ⟨⟨h0z, hv, M', hG, hb⟩, hz, hk⟩, stp⟩ | ⟨q, st₀, t, T', L, E, ce, h0, X', hL, e1, e2, ⟨⟨h0z, hE, M', hG, hb⟩, hz, hk⟩, hce, hcv, hcl, stp⟩
  · cases hv
    rw [h0] at hz hk
    obtain ⟨t2, a1, b1⟩ := k0 h0z M' hG T'.heap (locs ++ L) ls (by rw [e1]; exact hb) ⟨Nat.le_trans hS.1 (by rw [e1]; exact hz), fun q h1 h2 => by rw [e1, hk q (Nat.lt_of_lt_of_le h1 hS.1) h2]; exact hS.2.1 q h1 h2, fun q hq => by
      rcases List.mem_append.mp hq with h | h
      · exact hS.2.2 q h
      · exact hL q h⟩ hl T' rfl X'
    exact ⟨t2, stp t2 a1, b1⟩
  · subst hE
    rw [h0] at hz hk
    obtain ⟨t2, a1, b1⟩ := kx h0z M' hG T'.heap (locs ++ L) q ce (by rw [e1]; exact hb) ⟨Nat.le_trans hS.1 (by rw [e1]; exact hz), fun q h1 h2 => by rw [e1, hk q (Nat.lt_of_lt_of_le h1 hS.1) h2]; exact hS.2.1 q h1 h2, fun q hq => by
      rcases List.mem_append.mp hq with h | h
      · exact hS.2.2 q h
      · exact hL q h⟩ (by rw [e1]; exact hce) hcv hcl T' rfl X'
    exact ⟨t2, stp.trans a1, b1⟩
theorem Gh_blind {avs : List Value} : FrameBlind (va_Pc avs (gPh D ta ad Γ)) := fun a U g mk q => by
  obtain ⟨q0, ⟨M, qG, qP⟩, qK, qI, qS, qZ, qC⟩ := q
  exact ⟨q0, ⟨M, qG, qP⟩, va_K.moved (u := U) (U := U.calling g mk a) (Vm.Alike.refl U.vm) qK, qI, wSt.same (u := U) (U := U.calling g mk a) rfl qS, wZx.same (u := U) (U := U.calling g mk a) rfl qZ, wCx.moved (u := U) (U := U.calling g mk a) (Vm.Alike.refl U.vm) qC⟩
theorem Gh_at (cx : Cx p s m args meth c D ta ad own cc n) (hzx : wZx ad s s.heap) (hcx : wCx s) (hG : Γ M) {avs : List Value} {H : Heap} {locs : List Loc} (hP : wP D ta ad M H) (hS : va_S (wA ad) s.heap H locs) : ∀ U : State, U.heap = H → s.WarmedH U.vm → va_Pc avs (gPh D ta ad Γ) avs.toArray U := fun U hU hW => by
  obtain ⟨a, b1, b2, b3, b4, b5⟩ := Px_at (avs := avs) cx hzx hP hS U hU hW
  exact ⟨a, ⟨M, hG, b1⟩, b2, b3, b4, b5, wCx.moved hW.alike hcx⟩
/-- calls of the law's own methods -/
theorem gl_callS0 (cx : Cx p s m args meth c D ta ad own cc n) (hzx : wZx ad s s.heap) (hcx : wCx s) {y : MethodName} {cy : ByteArray} {ny d0 ix u0 : Nat} {ret : Option FieldType} {As : List Value} {st0 : List Value} (hM : ML l D ta ad y (.code y cy ny ret) d0 u0 As Γ z) (hG : Γ M) (hw : CS own ix y cy ny ret As.length) (hR : d0 + 1 ≤ R.frames ∧ 8 + (ny + 11) + 40 * d0 ≤ R.locals) (hcs : cells + u0 ≤ R.cells ∧ slots + 6 * u0 ≤ R.slots) (h8 : (st.map fun v => v.category).sum ≤ 8) (hst : st0 = As.reverse ++ st) (hd : decode cc pc = .ok (.invokestatic ix, 3)) (hq : pc + 3 = q)
    (kx : ¬ z.1.1 = 0 → ∀ M' : Wm, z.2 M' → ∀ (ls : Array Slot), lv_has ls n lv → ∀ (H1 : Heap) (locs1 : List Loc) (q : Addr) (ce : Cell), wP D ta ad M' H1 → va_S (wA ad) s.heap H1 locs1 → H1[q]? = some ce → ce.vm = .none → s.vm.findClass (exN z.1.1) = some ce.cls → vx_W p l e R s m args below meth c H1 locs1 (cells + u0) (slots + 6 * u0) (Q S) (F0 m pc ls st) q)
    (k : z.1.1 = 0 → ∀ M' : Wm, z.2 M' → mw p l e R s m args below meth c (cells + u0) (slots + 6 * u0) Q D ta ad n M' q lv (.int z.1.2 :: st) S) : mw p l e R s m args below meth c cells slots Q D ta ad n M pc lv st0 S := fun H locs ls hP hS hl => by
  subst hq
  obtain ⟨⟨w1, w2, w4, w5⟩, hd4⟩ := hw
  have hGI : GoodIn BG (va_wsS own ix y (.code y cy ny ret :: BG)) := fun w h => by
    unfold va_wsS at h
    rcases List.mem_append.mp h with h | h
    · simp only [List.mem_cons, List.not_mem_nil, or_false] at h
      rcases h with rfl | rfl | rfl
      · exact BG_good _ w1
      · exact BG_good _ w2
      · exact BG_good _ w4
    · exact BG_codes w5 w h
  have hrun := vx_runS (l := l) (e := e) (R := R) (below := below) (meth := meth) (locs := locs) (cells := cells) (slots := slots) (As := As) (rest := st) (g := F0 m pc ls st0) ⟨cx.1, cx.2.1, cx.2.2.1, cx.2.2.2.1, cx.2.2.2.2.1⟩ hM (va_cwS As.length cx.2.2.2.2.1 hGI rfl rfl rfl hd4 hR) ⟨Gh_blind, Gh_at cx hzx hcx hG hP hS⟩ rfl rfl hl.1 hst (by show 2 * 0 + _ ≤ 8; omega) hd hcs
  exact gl_run hrun hS hl k (fun h0 M' hg => kx h0 M' hg ls hl)
theorem gl_callH0 (cx : Cx p s m args meth c D ta ad own cc n) (hzx : wZx ad s s.heap) (hcx : wCx s) {y : MethodName} {cy : ByteArray} {ny d0 ix u0 : Nat} {ret : Option FieldType} {hh : List (Nat × Nat × Nat × Nat)} {As : List Value} {st0 : List Value} (hM : ML l D ta ad y (.codeWith y cy ny ret hh) d0 u0 As Γ z) (hG : Γ M) (hw : CSh own ix y cy ny ret hh As.length) (hR : d0 + 1 ≤ R.frames ∧ 8 + (ny + 11) + 40 * d0 ≤ R.locals) (hcs : cells + u0 ≤ R.cells ∧ slots + 6 * u0 ≤ R.slots) (h8 : (st.map fun v => v.category).sum ≤ 8) (hst : st0 = As.reverse ++ st) (h0 : z.1.1 = 0) (hd : decode cc pc = .ok (.invokestatic ix, 3)) (hq : pc + 3 = q)
    (k : ∀ M' : Wm, z.2 M' → mw p l e R s m args below meth c (cells + u0) (slots + 6 * u0) Q D ta ad n M' q lv (.int z.1.2 :: st) S) : mw p l e R s m args below meth c cells slots Q D ta ad n M pc lv st0 S := fun H locs ls hP hS hl => by
  subst hq
  obtain ⟨⟨w1, w2, w4, w5⟩, hd4⟩ := hw
  have hGI : GoodIn BG (va_wsS own ix y (.codeWith y cy ny ret hh :: BG)) := fun w h => by
    unfold va_wsS at h
    rcases List.mem_append.mp h with h | h
    · simp only [List.mem_cons, List.not_mem_nil, or_false] at h
      rcases h with rfl | rfl | rfl
      · exact BG_good _ w1
      · exact BG_good _ w2
      · exact BG_good _ w4
    · exact (List.mem_cons.mp h).elim (fun e => e ▸ BG_good _ w5) (BG_good w)
  have hrun := vx_runSX (l := l) (e := e) (R := R) (below := below) (meth := meth) (locs := locs) (cells := cells) (slots := slots) (As := As) (rest := st) (g := F0 m pc ls st0) ⟨cx.1, cx.2.1, cx.2.2.1, cx.2.2.2.1, cx.2.2.2.2.1⟩ hM (vx_cwSW As.length cx.2.2.2.2.1 hGI rfl rfl rfl hd4 hR) ⟨Gh_blind, Gh_at cx hzx hcx hG hP hS⟩ rfl rfl hl.1 hst (by show 2 * 0 + _ ≤ 8; omega) hd hcs
  exact gl_run hrun hS hl (fun _ => k) (fun hne => absurd h0 hne)
/-- one that may throw -/
theorem gl_callS (cx : Cx p s m args meth c D ta ad own cc n) (hzx : wZx ad s s.heap) (hcx : wCx s) (ht : XT c) {y : MethodName} {cy : ByteArray} {ny d0 ix u0 : Nat} {ret : Option FieldType} {As : List Value} {r : Nat × Int32} {Γ' : Wm → Prop} {st0 : List Value} (hM : ML l D ta ad y (.code y cy ny ret) d0 u0 As Γ (r, Γ')) (hG : Γ M) (hw : CS own ix y cy ny ret As.length) (hR : d0 + 1 ≤ d ∧ 8 + (ny + 11) + 40 * d0 ≤ 40 * d) (hcu : cb + u0 ≤ u) (h8 : (st.map fun v => v.category).sum ≤ 8) (hst : st0 = As.reverse ++ st) (hB : ¬ r.1 = 0 → (fin B).1.1 = r.1 ∧ (fin B).2 = Γ') (hd : decode cc pc = .ok (.invokestatic ix, 3)) (hq : pc + 3 = q)
    (k : r.1 = 0 → ∀ M' : Wm, Γ' M' → mw p l e (rmx d u) s m args below meth c (cb + u0) (6 * (cb + u0)) (fun S => vx_MQ below (gQx D ta ad (fin S)) (gXx D ta ad (fin S)) args s u (6 * u) (wA ad)) D ta ad n M' q lv (.int r.2 :: st) A) : mw p l e (rmx d u) s m args below meth c cb (6 * cb) (fun S => vx_MQ below (gQx D ta ad (fin S)) (gXx D ta ad (fin S)) args s u (6 * u) (wA ad)) D ta ad n M pc lv st0 (if r.1 = 0 then A else B) := by
  by_cases h : r.1 = 0
  · rw [if_pos h]
    refine gl_callS0 cx hzx hcx hM hG hw hR ⟨hcu, cs6 hcu⟩ h8 hst hd hq (fun h0 => absurd h h0) (fun h0 M' hg => ?_)
    rw [← Nat.mul_add]; exact k h M' hg
  · rw [if_neg h]
    exact gl_callS0 cx hzx hcx hM hG hw hR ⟨hcu, cs6 hcu⟩ h8 hst hd hq (fun h0 M' hg ls hl H1 locs1 q9 ce a1 a2 a3 a4 a5 => gl_out cx ht h ⟨(hB h).1, by rw [(hB h).2]; exact hg⟩ ⟨hcu, by have := cs6 hcu; omega⟩ a1 a2 a3 a4 a5) (fun h0 => absurd h0 h)
/-- one that catches all -/
theorem gl_callH (cx : Cx p s m args meth c D ta ad own cc n) (hzx : wZx ad s s.heap) (hcx : wCx s) {y : MethodName} {cy : ByteArray} {ny d0 ix u0 : Nat} {ret : Option FieldType} {hh : List (Nat × Nat × Nat × Nat)} {As : List Value} {x : Int32} {Γ' : Wm → Prop} {st0 : List Value} (hM : ML l D ta ad y (.codeWith y cy ny ret hh) d0 u0 As Γ ((0, x), Γ')) (hG : Γ M) (hw : CSh own ix y cy ny ret hh As.length) (hR : d0 + 1 ≤ d ∧ 8 + (ny + 11) + 40 * d0 ≤ 40 * d) (hcu : cb + u0 ≤ u) (h8 : (st.map fun v => v.category).sum ≤ 8) (hst : st0 = As.reverse ++ st) (hd : decode cc pc = .ok (.invokestatic ix, 3)) (hq : pc + 3 = q)
    (k : ∀ M' : Wm, Γ' M' → mw p l e (rmx d u) s m args below meth c (cb + u0) (6 * (cb + u0)) Q D ta ad n M' q lv (.int x :: st) S) : mw p l e (rmx d u) s m args below meth c cb (6 * cb) Q D ta ad n M pc lv st0 S := by
  refine gl_callH0 cx hzx hcx hM hG hw hR ⟨hcu, cs6 hcu⟩ h8 hst rfl hd hq (fun M' hg => ?_)
  rw [← Nat.mul_add]; exact k M' hg
/-- a join, a loop: the world is any of which so much is told -/
theorem gl_jn {α : Type} {K : α → σ} {T : (α → σ) → σ} (Γj : α → Wm → Prop) (cj pj : Nat) (lj : α → List (Nat × Value)) (sj : α → List Value) (hJ : ∀ (v : α) (M' : Wm), Γj v M' → mw p l e R s m args below meth c cj (6 * cj) Q D ta ad n M' pj (lj v) (sj v) (K v)) (hT : ∀ K' : α → σ, (∀ (v : α) (M' : Wm), Γj v M' → mw p l e R s m args below meth c cj (6 * cj) Q D ta ad n M' pj (lj v) (sj v) (K' v)) → mw p l e R s m args below meth c cb (6 * cb) Q D ta ad n M pc lv st (T K')) : mw p l e R s m args below meth c cb (6 * cb) Q D ta ad n M pc lv st (jn K T) := hT K hJ
theorem gl_w {c2 : Nat} (h : cb ≤ c2) (k : mw p l e R s m args below meth c c2 (6 * c2) Q D ta ad n M pc lv st S) : mw p l e R s m args below meth c cb (6 * cb) Q D ta ad n M pc lv st S := mw_widen ⟨h, Nat.mul_le_mul_left 6 h⟩ k
theorem gl_loop {X : Type} (F : Nat → X → σ) (I : X → Prop) (μ : X → Nat) (Γx : X → Wm → Prop) (px : Nat) (lx : X → List (Nat × Value)) (per N : Nat) (hs : ∀ (k : Nat) (x : X) (M : Wm) (cl : Nat), cl + per ≤ cb + per * N → Γx x M → I x → (∀ (y : X) (M' : Wm), Γx y M' → I y → μ y < μ x → mw p l e R s m args below meth c (cl + per) (6 * (cl + per)) Q D ta ad n M' px (lx y) [] (F k y)) → mw p l e R s m args below meth c cl (6 * cl) Q D ta ad n M px (lx x) [] (F (k + 1) x)) : ∀ (k : Nat) (x : X) (M : Wm), Γx x M → I x → μ x < k → μ x < N → mw p l e R s m args below meth c cb (6 * cb) Q D ta ad n M px (lx x) [] (F k x) := by
  have key : ∀ (k : Nat) (x : X) (M : Wm) (cl : Nat), cl + per * (μ x + 1) ≤ cb + per * N → Γx x M → I x → μ x < k → mw p l e R s m args below meth c cl (6 * cl) Q D ta ad n M px (lx x) [] (F k x) := by
    intro k
    induction k with
    | zero => intro x M cl _ _ _ h; exact absurd h (Nat.not_lt_zero _)
    | succ k ih =>
      intro x M cl hc hG hI hm
      refine hs k x M cl (Nat.le_trans (Nat.add_le_add_left (Nat.le_mul_of_pos_right per (Nat.succ_pos _)) cl) hc) hG hI (fun y M' hy hIy hlt => ih y M' (cl + per) ?_ hy hIy (by omega))
      refine Nat.le_trans ?_ hc
      rw [Nat.add_assoc]
      refine Nat.add_le_add_left ?_ cl
      rw [show per + per * (μ y + 1) = per * (μ y + 1 + 1) by rw [Nat.mul_add per (μ y + 1), Nat.mul_one, Nat.add_comm]]
      exact Nat.mul_le_mul_left per (by omega)
  exact fun k x M hG hI hm hN => key k x M cb (Nat.add_le_add_left (Nat.mul_le_mul_left per hN) cb) hG hI hm
theorem mh_catch (cx : Cx p s m args meth c D ta ad own cc n) (hzx : wZx ad s s.heap) (hcx : wCx s) {k : Nat} (hk : k = 1 ∨ k = 2 ∨ k = 3) {hh : List (Nat × Nat × Nat × Nat)} (ht : c.exceptionTable.toList = tableOf hh) (pre : List (Nat × Nat × Nat × Nat)) (x : Nat × Nat × Nat × Nat) (suf : List (Nat × Nat × Nat × Nat)) (hsp : hh = pre ++ x :: suf) (hpass : ∀ z ∈ pre, ¬ z.2.2.2 = 0 ∧ ∃ j : Nat, (j = 1 ∨ j = 2 ∨ j = 3) ∧ ¬ k = j ∧ Cond.classLink own z.2.2.2 (exN j) ∈ BG) (hx : covers ⟨x.1, x.2.1, x.2.2.1, x.2.2.2⟩ pc = true) (h0 : x.2.2.2 ≠ 0) (hlink : Cond.classLink own x.2.2.2 (exN k) ∈ BG) (hcast : Cond.castable (exN k) (exN k) ∈ NX) {H1 : Heap} {locs1 : List Loc} {q : Addr} {ce : Cell} {ls : Array Slot} (hl : lv_has ls n lv) (a1 : wP D ta ad M H1) (a2 : va_S (wA ad) s.heap H1 locs1) (a3 : H1[q]? = some ce) (a4 : ce.vm = .none) (a5 : s.vm.findClass (exN k) = some ce.cls) (kk : mw p l e R s m args below meth c cells slots Q D ta ad n M x.2.2.1 lv [.ref q] S) : vx_W p l e R s m args below meth c H1 locs1 cells slots (Q S) (F0 m pc ls st) q := by
  refine vx_catch cx.2.2.2.1 (tableOf pre) ⟨x.1, x.2.1, x.2.2.1, x.2.2.2⟩ (tableOf suf) (by rw [ht, hsp]; unfold tableOf; rw [List.map_append, List.map_cons]) (fun z hz => ?_) hx h0 (cx.2.2.2.2.1 _ hlink) (NX_use hzx.2.2 _ hcast) a3 a4 a5 (kk H1 locs1 ls a1 a2 hl)
  unfold tableOf at hz
  obtain ⟨y, hy, rfl⟩ := List.mem_map.mp hz
  obtain ⟨b1, j, b2, b3, b4⟩ := hpass y hy
  exact Or.inr ⟨b1, exN j, cx.2.2.2.2.1 _ b4, hcx k j hk b2 b3⟩
end GL
