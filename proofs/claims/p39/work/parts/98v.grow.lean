/-! CONSTRUCTORS: a world that grows, cell behind cell from a base on -/
def gP (D : va_G) (bs : Nat) (L : List va_E) (H : Heap) : Prop := H.size = bs + L.length ∧ ∀ (j : Nat) (x : va_E), L[j]? = some x → va_at D wcl (bs + j, x) H
def gA (bs : Nat) : Nat → Prop := fun q => bs ≤ q
def gO (U : State) : Prop := va_AOA .int U ∧ va_AO "RationLisp$Order" U
theorem gO.moved {u U : State} (h : u.vm.Alike U.vm) (k : gO u) : gO U := ⟨over_moved h k.1, va_AO.moved h k.2⟩
def GCx (p : Program) (s : State) (m : MethodId) (args : Array Value) (meth : Method) (c : Code) (D : va_G) (ta : wTa) (bs : Nat) (own : String) (cc : ByteArray) (n : Nat) : Prop :=
  (p.tables.exec = Jvm.exec) ∧ (c.code = cc) ∧ (c.maxLocals = n) ∧ (s.vm.findClass own = some m.cls) ∧ (∀ w ∈ BG, w.before args s = true) ∧ (va_K D wcl (wtys ta) s) ∧ (∀ w ∈ NG, va_Nw w s) ∧ (meth.locks = false) ∧ (bs ≤ s.heap.size) ∧ (gO s)
theorem GCx.ex {p : Program} {s : State} {m : MethodId} {args : Array Value} {meth : Method} {c : Code} {D : va_G} {ta : wTa} {bs : Nat} {own : String} {cc : ByteArray} {n : Nat} (h : GCx p s m args meth c D ta bs own cc n) : p.tables.exec = Jvm.exec := h.1
theorem GCx.cb {p : Program} {s : State} {m : MethodId} {args : Array Value} {meth : Method} {c : Code} {D : va_G} {ta : wTa} {bs : Nat} {own : String} {cc : ByteArray} {n : Nat} (h : GCx p s m args meth c D ta bs own cc n) : c.code = cc := h.2.1
theorem GCx.ml {p : Program} {s : State} {m : MethodId} {args : Array Value} {meth : Method} {c : Code} {D : va_G} {ta : wTa} {bs : Nat} {own : String} {cc : ByteArray} {n : Nat} (h : GCx p s m args meth c D ta bs own cc n) : c.maxLocals = n := h.2.2.1
theorem GCx.ow {p : Program} {s : State} {m : MethodId} {args : Array Value} {meth : Method} {c : Code} {D : va_G} {ta : wTa} {bs : Nat} {own : String} {cc : ByteArray} {n : Nat} (h : GCx p s m args meth c D ta bs own cc n) : s.vm.findClass own = some m.cls := h.2.2.2.1
theorem GCx.ts {p : Program} {s : State} {m : MethodId} {args : Array Value} {meth : Method} {c : Code} {D : va_G} {ta : wTa} {bs : Nat} {own : String} {cc : ByteArray} {n : Nat} (h : GCx p s m args meth c D ta bs own cc n) : ∀ w ∈ BG, w.before args s = true := h.2.2.2.2.1
theorem GCx.K {p : Program} {s : State} {m : MethodId} {args : Array Value} {meth : Method} {c : Code} {D : va_G} {ta : wTa} {bs : Nat} {own : String} {cc : ByteArray} {n : Nat} (h : GCx p s m args meth c D ta bs own cc n) : va_K D wcl (wtys ta) s := h.2.2.2.2.2.1
theorem GCx.ng {p : Program} {s : State} {m : MethodId} {args : Array Value} {meth : Method} {c : Code} {D : va_G} {ta : wTa} {bs : Nat} {own : String} {cc : ByteArray} {n : Nat} (h : GCx p s m args meth c D ta bs own cc n) : ∀ w ∈ NG, va_Nw w s := h.2.2.2.2.2.2.1
theorem GCx.lk {p : Program} {s : State} {m : MethodId} {args : Array Value} {meth : Method} {c : Code} {D : va_G} {ta : wTa} {bs : Nat} {own : String} {cc : ByteArray} {n : Nat} (h : GCx p s m args meth c D ta bs own cc n) : meth.locks = false := h.2.2.2.2.2.2.2.1
theorem GCx.le {p : Program} {s : State} {m : MethodId} {args : Array Value} {meth : Method} {c : Code} {D : va_G} {ta : wTa} {bs : Nat} {own : String} {cc : ByteArray} {n : Nat} (h : GCx p s m args meth c D ta bs own cc n) : bs ≤ s.heap.size := h.2.2.2.2.2.2.2.2.1
theorem GCx.ov {p : Program} {s : State} {m : MethodId} {args : Array Value} {meth : Method} {c : Code} {D : va_G} {ta : wTa} {bs : Nat} {own : String} {cc : ByteArray} {n : Nat} (h : GCx p s m args meth c D ta bs own cc n) : gO s := h.2.2.2.2.2.2.2.2.2
def gw (p : Program) (l : Launch) (e : Env) (R : Room) (s : State) (m : MethodId) (args : Array Value) (below : List Frame) (meth : Method) (c : Code) (cells slots : Nat) (Q : State → Prop) (D : va_G) (bs n : Nat) (L : List va_E) (pc : Nat) (lv : List (Nat × Value)) (st : List Value) : Prop :=
  ∀ (H : Heap) (locs : List Loc) (ls : Array Slot), gP D bs L H → va_S (gA bs) s.heap H locs → lv_has ls n lv → W p l e R s m args below meth c H locs cells slots Q (F0 m pc ls st)
section GROW
variable {p : Program} {l : Launch} {e : Env} {R : Room} {s : State} {m : MethodId} {args : Array Value} {below : List Frame} {meth : Method} {c : Code} {cells slots : Nat} {Q : State → Prop} {D : va_G} {ta : wTa} {bs n : Nat} {L L' : List va_E} {pc q : Nat} {lv lv' : List (Nat × Value)} {st : List Value} {own : String} {cc : ByteArray}
theorem gP.push {H H1 : Heap} (h : gP D bs L H) (z : H1.size = H.size + 1) (o : ∀ q, q < H.size → H1[q]? = H[q]?) {x : va_E} (e : va_at D wcl (H.size, x) H1) : gP D bs (L ++ [x]) H1 := by
  obtain ⟨h1, h2⟩ := h
  refine ⟨by rw [z, h1, List.length_append]; rfl, fun j y hy => ?_⟩
  by_cases c : j < L.length
  · rw [List.getElem?_append_left c] at hy
    exact (h2 j y hy).kept (o _ (by show bs + j < H.size; omega))
  · rw [List.getElem?_append_right (by omega)] at hy
    have hz : j - L.length < 1 := (List.getElem?_eq_some_iff.mp hy).1
    rw [show j - L.length = 0 by omega] at hy
    cases hy
    rw [show bs + j = H.size by omega]; exact e
theorem gP.set {H H1 : Heap} (h : gP D bs L H) (z : H1.size = H.size) {j : Nat} (o : ∀ q, q ≠ bs + j → H1[q]? = H[q]?) {x : va_E} (e : va_at D wcl (bs + j, x) H1) : gP D bs (L.set j x) H1 := by
  obtain ⟨h1, h2⟩ := h
  refine ⟨by rw [z, h1, List.length_set], fun i y hy => ?_⟩
  by_cases c : j = i
  · subst c
    rw [List.getElem?_set] at hy
    simp only [if_true] at hy
    split at hy
    · cases hy; exact e
    · cases hy
  · rw [List.getElem?_set_ne c] at hy
    exact (h2 i y hy).kept (o _ (by show bs + i ≠ bs + j; omega))
theorem gP.one {H : Heap} (h : gP D bs L H) {j : Nat} {x : va_E} (hx : L[j]? = some x) : va_P D wcl [(bs + j, x)] H := by
  intro k y hy
  cases k with
  | zero => cases hy; exact h.2 j x hx
  | succ k => simp at hy
theorem gS_push {H H1 : Heap} {locs : List Loc} (hS : va_S (gA bs) s.heap H locs) (z : H.size ≤ H1.size) (o : ∀ q, q < H.size → H1[q]? = H[q]?) : va_S (gA bs) s.heap H1 locs := ⟨Nat.le_trans hS.1 z, fun x h1 h2 => (o x (Nat.lt_of_lt_of_le h1 hS.1)).trans (hS.2.1 x h1 h2), hS.2.2⟩
theorem g_eqL (h : L = L') (k : gw p l e R s m args below meth c cells slots Q D bs n L' pc lv st) : gw p l e R s m args below meth c cells slots Q D bs n L pc lv st := h ▸ k
theorem g_eqs {st' : List Value} (h : st = st') (k : gw p l e R s m args below meth c cells slots Q D bs n L pc lv st') : gw p l e R s m args below meth c cells slots Q D bs n L pc lv st := h ▸ k
theorem g_iconst (cx : GCx p s m args meth c D ta bs own cc n) {z : Int} {v : Int32} (hd : decode cc pc = .ok (.iconst z, 1)) (hq : pc + 1 = q) (hv : Int32.ofInt z = v) (k : gw p l e R s m args below meth c cells slots Q D bs n L q lv (.int v :: st)) : gw p l e R s m args below meth c cells slots Q D bs n L pc lv st := fun H locs ls hP hS hl => by
  subst hq; exact lv_iconst cx.ex cx.cb hd hv (k H locs ls hP hS hl)
theorem g_bipush (cx : GCx p s m args meth c D ta bs own cc n) {z : Int} {v : Int32} (hd : decode cc pc = .ok (.bipush z, 2)) (hq : pc + 2 = q) (hv : (Int8.ofInt z).toInt32 = v) (k : gw p l e R s m args below meth c cells slots Q D bs n L q lv (.int v :: st)) : gw p l e R s m args below meth c cells slots Q D bs n L pc lv st := fun H locs ls hP hS hl => by
  subst hq; exact lv_bipush cx.ex cx.cb hd hv (k H locs ls hP hS hl)
theorem g_sipush (cx : GCx p s m args meth c D ta bs own cc n) {z : Int} {v : Int32} (hd : decode cc pc = .ok (.sipush z, 3)) (hq : pc + 3 = q) (hv : (Int16.ofInt z).toInt32 = v) (k : gw p l e R s m args below meth c cells slots Q D bs n L q lv (.int v :: st)) : gw p l e R s m args below meth c cells slots Q D bs n L pc lv st := fun H locs ls hP hS hl => by
  subst hq; exact lv_sipush cx.ex cx.cb hd hv (k H locs ls hP hS hl)
theorem g_ldc (cx : GCx p s m args meth c D ta bs own cc n) {ix : Nat} {v : Int32} (hd : decode cc pc = .ok (.ldc ix, 2)) (hq : pc + 2 = q) (hw : Cond.constant own ix v ∈ BG) (k : gw p l e R s m args below meth c cells slots Q D bs n L q lv (.int v :: st)) : gw p l e R s m args below meth c cells slots Q D bs n L pc lv st := fun H locs ls hP hS hl => by
  subst hq; exact lv_ldc cx.ex cx.cb cx.ow (cx.ts _ hw) hd (k H locs ls hP hS hl)
theorem g_dup (cx : GCx p s m args meth c D ta bs own cc n) {va : Value} (hd : decode cc pc = .ok (.dup, 1)) (hq : pc + 1 = q) (hva : va.category = 1) (k : gw p l e R s m args below meth c cells slots Q D bs n L q lv (va :: va :: st)) : gw p l e R s m args below meth c cells slots Q D bs n L pc lv (va :: st) := fun H locs ls hP hS hl => by
  subst hq; exact lv_dup cx.ex cx.cb hd hva (k H locs ls hP hS hl)
theorem g_aload_n (cx : GCx p s m args meth c D ta bs own cc n) {f : Fin 4} {i : Nat} {x : Nat} (j : Nat) (hj : lv[j]? = some (i, .ref x)) (hi : (f : Nat) = i) (hd : decode cc pc = .ok (.aload_n f, 1)) (hq : pc + 1 = q) (k : gw p l e R s m args below meth c cells slots Q D bs n L q lv (.ref x :: st)) : gw p l e R s m args below meth c cells slots Q D bs n L pc lv st := fun H locs ls hP hS hl => by
  subst hq; exact lv_aload_n cx.ex cx.cb hd hi (lv_at hl j hj) (k H locs ls hP hS hl)
theorem g_aload (cx : GCx p s m args meth c D ta bs own cc n) {i : Nat} {x : Nat} (j : Nat) (hj : lv[j]? = some (i, .ref x)) (hd : decode cc pc = .ok (.aload i, 2)) (hq : pc + 2 = q) (k : gw p l e R s m args below meth c cells slots Q D bs n L q lv (.ref x :: st)) : gw p l e R s m args below meth c cells slots Q D bs n L pc lv st := fun H locs ls hP hS hl => by
  subst hq; exact lv_aload cx.ex cx.cb hd (lv_at hl j hj) (k H locs ls hP hS hl)
theorem g_iload_n (cx : GCx p s m args meth c D ta bs own cc n) {f : Fin 4} {i : Nat} {x : Int32} (j : Nat) (hj : lv[j]? = some (i, .int x)) (hi : (f : Nat) = i) (hd : decode cc pc = .ok (.iload_n f, 1)) (hq : pc + 1 = q) (k : gw p l e R s m args below meth c cells slots Q D bs n L q lv (.int x :: st)) : gw p l e R s m args below meth c cells slots Q D bs n L pc lv st := fun H locs ls hP hS hl => by
  subst hq; exact lv_iload_n cx.ex cx.cb hd hi (lv_at hl j hj) (k H locs ls hP hS hl)
theorem g_goto (cx : GCx p s m args meth c D ta bs own cc n) {off : Int} {tgt : Nat} (hd : decode cc pc = .ok (.goto off, 3)) (ht : (pc : Int) + off = (tgt : Int)) (k : gw p l e R s m args below meth c cells slots Q D bs n L tgt lv st) : gw p l e R s m args below meth c cells slots Q D bs n L pc lv st := fun H locs ls hP hS hl => lv_goto cx.ex cx.cb hd ht (k H locs ls hP hS hl)
theorem g_icmp_ge (cx : GCx p s m args meth c D ta bs own cc n) {x y : Int32} {off : Int} {tgt : Nat} (hd : decode cc pc = .ok (.if_icmp .ge off, 3)) (ht : (pc : Int) + off = (tgt : Int)) (hq : pc + 3 = q) (kt : y ≤ x → gw p l e R s m args below meth c cells slots Q D bs n L tgt lv st) (kf : ¬ y ≤ x → gw p l e R s m args below meth c cells slots Q D bs n L q lv st) : gw p l e R s m args below meth c cells slots Q D bs n L pc lv (.int y :: .int x :: st) := fun H locs ls hP hS hl => by
  subst hq; exact lv_icmp_ge cx.ex cx.cb hd ht (fun h => kt h H locs ls hP hS hl) (fun h => kf h H locs ls hP hS hl)
theorem g_sub (ks : List Nat) (h : lv_pick lv ks = lv') (k : gw p l e R s m args below meth c cells slots Q D bs n L pc lv' st) : gw p l e R s m args below meth c cells slots Q D bs n L pc lv st := fun H locs ls hP hS hl => k H locs ls hP hS (lv_sub hl ks h)
theorem g_istore_n (cx : GCx p s m args meth c D ta bs own cc n) {f : Fin 4} {i : Nat} {x : Int32} (hl2 : (i, Value.int x) :: lv.filter (fun q => !(q.1 == i) && !(q.1 + 1 == i && q.2.category == 2)) = lv') (hi : (f : Nat) = i) (hn : i < n) (hd : decode cc pc = .ok (.istore_n f, 1)) (hq : pc + 1 = q) (k : gw p l e R s m args below meth c cells slots Q D bs n L q lv' st) : gw p l e R s m args below meth c cells slots Q D bs n L pc lv (.int x :: st) := fun H locs ls hP hS hl => by
  subst hq; exact lv_istore_n cx.ex cx.cb hd hi hl hn hl2 (fun ls hl => k H locs ls hP hS hl)
theorem g_astore_n (cx : GCx p s m args meth c D ta bs own cc n) {f : Fin 4} {i : Nat} {x : Nat} (hl2 : (i, Value.ref x) :: lv.filter (fun q => !(q.1 == i) && !(q.1 + 1 == i && q.2.category == 2)) = lv') (hi : (f : Nat) = i) (hn : i < n) (hd : decode cc pc = .ok (.astore_n f, 1)) (hq : pc + 1 = q) (k : gw p l e R s m args below meth c cells slots Q D bs n L q lv' st) : gw p l e R s m args below meth c cells slots Q D bs n L pc lv (.ref x :: st) := fun H locs ls hP hS hl => by
  subst hq; exact lv_astore_n cx.ex cx.cb hd hi hl hn hl2 (fun ls hl => k H locs ls hP hS hl)
theorem g_istore (cx : GCx p s m args meth c D ta bs own cc n) {i : Nat} {x : Int32} (hl2 : (i, Value.int x) :: lv.filter (fun q => !(q.1 == i) && !(q.1 + 1 == i && q.2.category == 2)) = lv') (hn : i < n) (hd : decode cc pc = .ok (.istore i, 2)) (hq : pc + 2 = q) (k : gw p l e R s m args below meth c cells slots Q D bs n L q lv' st) : gw p l e R s m args below meth c cells slots Q D bs n L pc lv (.int x :: st) := fun H locs ls hP hS hl => by
  subst hq; exact lv_istore cx.ex cx.cb hd hl hn hl2 (fun ls hl => k H locs ls hP hS hl)
theorem g_iinc (cx : GCx p s m args meth c D ta bs own cc n) {i : Nat} {z : Int} {x v : Int32} (j : Nat) (hj : lv[j]? = some (i, .int x)) (hv : x + Int32.ofInt z = v) (hl2 : (i, Value.int v) :: lv.filter (fun q => !(q.1 == i) && !(q.1 + 1 == i && q.2.category == 2)) = lv') (hn : i < n) (hd : decode cc pc = .ok (.iinc i z, 3)) (hq : pc + 3 = q) (k : gw p l e R s m args below meth c cells slots Q D bs n L q lv' st) : gw p l e R s m args below meth c cells slots Q D bs n L pc lv st := fun H locs ls hP hS hl => by
  subst hq; exact lv_iinc cx.ex cx.cb hd hl hj hv hn hl2 (fun ls hl => k H locs ls hP hS hl)
/-- Object's constructor -/
theorem g_obj (cx : GCx p s m args meth c D ta bs own cc n) {ix a : Nat} (w1 : Cond.methodLink own ix Lib.objectInit ∈ BG) (w2 : Cond.instanceMethod Lib.objectInit ∈ BG) (w3 : Cond.code Lib.objectInit ⟨#[0xb1]⟩ 1 none ∈ BG) (hR : 1 ≤ R.frames ∧ (st.map fun v => v.category).sum + 12 ≤ R.locals) (hd : decode cc pc = .ok (.invokespecial ix, 3)) (hq : pc + 3 = q) (k : gw p l e R s m args below meth c cells slots Q D bs n L q lv st) : gw p l e R s m args below meth c cells slots Q D bs n L pc lv (.ref a :: st) := fun H locs ls hP hS hl => by
  subst hq
  exact W.objInit cx.ex cx.cb cx.ow (cx.ts _ w1) (cx.ts _ w2) (cx.ts _ w3) rfl (hl.1.trans cx.ml.symm) rfl hd hR.1 (by show 2 * 0 + _ + 12 ≤ R.locals; omega) (k H locs ls hP hS hl)
/-- new rows of numbers -/
theorem g_newa (cx : GCx p s m args meth c D ta bs own cc n) {atype : ArrayType} {ty : FieldType} {t0 N : Nat} {a0 : vp_A} {x : Int32} (hty : newarray.typeOf atype = ty) (hw : Cond.arrayClass (newarray.typeOf atype) ∈ BG) (ht : (wtys ta)[t0]? = some (ta t0, ty)) (hra : ∀ U cA, va_RA U cA ty → U.vm.findClass ("[" ++ ty.toString) = some cA) (ha : ∀ cA : ClassId, vp_cell cA a0 = arrV cA N (fun _ => defaultValue ty)) (hn : ¬ x < 0) (hN : x.toNatClampNeg = N) (hb : N * componentBytes ty ≤ 536870912) (hcs : cells + 1 ≤ R.cells ∧ slots + N ≤ R.slots) (hd : decode cc pc = .ok (.newarray atype, 2)) (hq : pc + 2 = q) (k : gw p l e R s m args below meth c (cells + 1) (slots + N) Q D bs n (L ++ [.inl (ta t0, a0)]) q lv (.ref (bs + L.length) :: st)) : gw p l e R s m args below meth c cells slots Q D bs n L pc lv (.int x :: st) := fun H locs ls hP hS hl => by
  subst hq; subst hty
  refine va_newaK cx.ex cx.cb (cx.ts _ hw) rfl hd rfl hn hN hb hcs.1 hcs.2 rfl fun H1 cA e1 z1 o1 hAr hNm => ?_
  have hc := hra _ _ (cx.K.2 t0 _ ht).2
  cases hc.symm.trans hNm
  have kk := k H1 locs ls (hP.push z1 o1 (by show H1[H.size]? = some (vp_cell _ _); rw [ha]; exact e1)) (gS_push hS (by omega) o1) hl
  rw [← hP.1] at kk
  exact kk
/-- a new row of objects -/
theorem g_anew (cx : GCx p s m args meth c D ta bs own cc n) {C : String} {ix t0 N : Nat} {x : Int32} (w1 : Cond.classLink own ix C ∈ BG) (w2 : va_AO C s) (ht : (wtys ta)[t0]? = some (ta t0, .object C)) (hn : ¬ x < 0) (hN : x.toNatClampNeg = N) (hb : N * 4 ≤ 536870912) (hcs : cells + 1 ≤ R.cells ∧ slots + N ≤ R.slots) (hd : decode cc pc = .ok (.anewarray ix, 3)) (hq : pc + 3 = q) (k : gw p l e R s m args below meth c (cells + 1) (slots + N) Q D bs n (L ++ [.inl (ta t0, N, .inr (.inr (.inr (.inr (fun _ => none)))))]) q lv (.ref (bs + L.length) :: st)) : gw p l e R s m args below meth c cells slots Q D bs n L pc lv (.int x :: st) := fun H locs ls hP hS hl => by
  subst hq; subst hN
  refine W.anew cx.ex cx.cb cx.ow (cx.ts _ w1) (va_AO.use w2) rfl hd rfl hn hb hcs.1 hcs.2 fun cA kA comp h1 h2 h3 h4 => ?_
  obtain ⟨kA', comp', g1, g2, g3, g4⟩ := (cx.K.2 t0 _ ht).2
  cases g4.symm.trans h1
  have o1 : ∀ q, q < H.size → (H.push { cls := ta t0, slots := Array.replicate x.toNatClampNeg .null, vm := .none })[q]? = H[q]? := fun q hq => by rw [Array.getElem?_push, if_neg (Nat.ne_of_lt hq)]
  have kk := k _ locs ls (hP.push (by simp) o1 (by
    show (H.push _)[H.size]? = some (vp_cell _ _)
    rw [vp_cell_q]
    have e : arrV (ta t0) x.toNatClampNeg (fun i => va_rf ((fun _ : Nat => (none : Option Nat)) i)) = { cls := ta t0, slots := Array.replicate x.toNatClampNeg .null, vm := .none } := by
      rw [arrV_new]; rfl
    rw [e]; simp)) (gS_push hS (by simp) o1) hl
  rw [← hP.1] at kk
  exact kk
/-- a new row of rows -/
theorem g_mna (cx : GCx p s m args meth c D ta bs own cc n) {ix t1 t0 N K' : Nat} {x y : Int32} {ty : FieldType} (w1 : Cond.classLink own ix ("[" ++ (FieldType.array ty).toString) ∈ BG) (w2 : va_AOA ty s) (w3 : Cond.arrayClass ty ∈ BG) (ht1 : (wtys ta)[t1]? = some (ta t1, .array ty)) (ht0 : (wtys ta)[t0]? = some (ta t0, ty)) (hr1 : ∀ U cA, va_RA U cA (.array ty) → U.vm.findClass ("[" ++ (FieldType.array ty).toString) = some cA) (hr0 : ∀ U cA, va_RA U cA ty → U.vm.findClass (FieldType.array ty).toString = some cA) (hn : ¬ x < 0) (hk : ¬ y < 0) (hN : x.toNatClampNeg = N) (hM : y.toNatClampNeg = K') (hb1 : N * 4 ≤ 536870912) (hb2 : K' * componentBytes ty ≤ 536870912) (hb3 : K' ≤ 536870912) (hdf : fits ty (defaultValue ty) = true) (hdd : (defaultValue ty).isDefault = true) (hcs : cells + (1 + N) ≤ R.cells ∧ slots + (N + N * K') ≤ R.slots) {z : vp_A} (hz : ∀ c : ClassId, Jvm.Free.Multi.innerC c K' (defaultValue ty) = vp_cell c z) (hd : decode cc pc = .ok (.multianewarray ix 2, 4)) (hq : pc + 4 = q) (k : gw p l e R s m args below meth c (cells + 1 + N) (slots + N + N * K') Q D bs n (L ++ [.inl (ta t1, N, .inr (.inr (.inr (.inr (fun i => if i < N then some (bs + L.length + 1 + i) else none)))))] ++ List.replicate N (.inl (ta t0, z))) q lv (.ref (bs + L.length) :: st)) : gw p l e R s m args below meth c cells slots Q D bs n L pc lv (.int y :: .int x :: st) := fun H locs ls hP hS hl => by
  subst hq; subst hN; subst hM
  intro T hT Xs
  obtain ⟨vm₁, cA, comp, -, fA, fC, hO, -, X', step⟩ := Xs.multianewarray2F cx.ex cx.ow (cx.ts _ w1) (va_AOA.use w2) (cx.ts _ w3) (g := F0 m pc ls (.int y :: .int x :: st)) rfl (by rw [cx.cb]; exact hd) rfl hn hk hb1 hb2 hb3 hdf hdd hcs.1 hcs.2
  cases (hr1 _ _ (cx.K.2 t1 _ ht1).2).symm.trans fA
  cases (hr0 _ _ (cx.K.2 t0 _ ht0).2).symm.trans fC
  generalize hF : Jvm.Free.Multi.fill (T.setVm vm₁) (ta t1, FieldType.array ty).1 (ta t0, ty).1 x.toNatClampNeg y.toNatClampNeg (defaultValue ty) x.toNatClampNeg = F at X' step
  have hTh : (T.setVm vm₁).heap = H := hT
  obtain ⟨f1, f2, -, -⟩ := Jvm.Free.Multi.fill_facts (T.setVm vm₁) (ta t1, FieldType.array ty).1 (ta t0, ty).1 x.toNatClampNeg y.toNatClampNeg (defaultValue ty) x.toNatClampNeg
  rw [hF, hTh] at f1 f2
  have hold : ∀ a : Nat, a < H.size → F.heap[a]? = H[a]? := fun a ha => by
    have := Jvm.Free.Multi.fill_old (T.setVm vm₁) (ta t1, FieldType.array ty).1 (ta t0, ty).1 x.toNatClampNeg y.toNatClampNeg (defaultValue ty) (a := a) (by rw [hTh]; exact ha) x.toNatClampNeg
    rw [hF, hTh] at this
    exact this
  have hrow : ∀ j : Nat, j < x.toNatClampNeg → F.heap[H.size + 1 + j]? = some (vp_cell (ta t0) z) := fun j hj => by
    have := Jvm.Free.Multi.fill_inner (T.setVm vm₁) (ta t1, FieldType.array ty).1 (ta t0, ty).1 x.toNatClampNeg y.toNatClampNeg (defaultValue ty) x.toNatClampNeg j hj
    rw [hF, hTh, hz] at this
    exact this
  have hout : Jvm.Free.Multi.outerC (ta t1) x.toNatClampNeg H.size x.toNatClampNeg = vp_cell (ta t1) (x.toNatClampNeg, .inr (.inr (.inr (.inr (fun i => if i < x.toNatClampNeg then some (H.size + 1 + i) else none))))) := by
    rw [vp_cell_q]
    exact vr_outer (ta t1) x.toNatClampNeg H.size x.toNatClampNeg
  have hsz := hP.1
  have gp : gP D bs (L ++ [.inl (ta t1, x.toNatClampNeg, .inr (.inr (.inr (.inr (fun i => if i < x.toNatClampNeg then some (bs + L.length + 1 + i) else none)))))] ++ List.replicate x.toNatClampNeg (.inl (ta t0, z))) F.heap := by
    refine ⟨by rw [f1, hsz]; simp; omega, fun j w hw => ?_⟩
    by_cases c1 : j < L.length
    · rw [List.append_assoc, List.getElem?_append_left c1] at hw
      exact (hP.2 j w hw).kept (hold _ (by show bs + j < H.size; omega))
    · by_cases c2 : j = L.length
      · subst c2
        rw [List.append_assoc, List.getElem?_append_right (Nat.le_refl _), Nat.sub_self] at hw
        cases hw
        show F.heap[bs + L.length]? = some (vp_cell _ _)
        rw [← hsz, f2]
        exact congrArg some hout
      · rw [List.getElem?_append_right (by simp; omega)] at hw
        rw [List.getElem?_replicate] at hw
        split at hw
        · rename_i h9
          cases hw
          simp only [List.length_append, List.length_cons, List.length_nil] at h9
          have := hrow (j - (L.length + 1)) (by omega)
          show F.heap[bs + j]? = some (vp_cell _ _)
          rw [← this]
          congr 1; omega
        · cases hw
  have kk := k F.heap locs ls gp (gS_push hS (by omega) hold) hl F rfl X'
  obtain ⟨t, a1, b1⟩ := kk
  refine ⟨t, step t ?_, b1⟩
  have e : T.heap.size = bs + L.length := by rw [hT]; exact hsz
  rw [e]
  exact a1
/-- a new object -/
theorem g_new (cx : GCx p s m args meth c D ta bs own cc n) {C : String} {T : u_T} {N ci ix : Nat} (hin : ∀ w ∈ u_ws C T N, w ∈ BG) (ty : Nat → FieldType) (hty : ∀ k, k < N → parseFieldDescriptor (T k).2.2.1 = some (ty k)) (w1 : Cond.classLink own ix C ∈ BG) (w2 : Cond.instantiable C N ∈ BG) (w3 : Cond.initialized C ∈ BG) (hc : wcl[ci]? = some (C, T, N)) {fs : List Value} (hfs : ∀ j, j < N → defaultValue (ty j) = vp_V fs j) (hcs : cells + 1 ≤ R.cells ∧ slots + N ≤ R.slots) (hd : decode cc pc = .ok (.new ix, 3)) (hq : pc + 3 = q) (k : gw p l e R s m args below meth c (cells + 1) (slots + N) Q D bs n (L ++ [.inr (ci, fs)]) q lv (.ref (bs + L.length) :: st)) : gw p l e R s m args below meth c cells slots Q D bs n L pc lv st := fun H locs ls hP hS hl => by
  subst hq
  have hKn := cx.K.1 ci _ hc
  refine W.newcK cx.ex cx.cb cx.ow (cx.ts _ w1) (cx.ts _ w2) (cx.ts _ w3) rfl hd hcs.1 hcs.2 hKn.2.1 rfl fun H1 kC hkC e1 z1 o1 => ?_
  have kk := k H1 locs ls (hP.push z1 o1 ⟨_, hc, (u_born ty cx.ts hin hKn hkC e1 hty).to hfs⟩) (gS_push hS (by omega) o1) hl
  rw [← hP.1] at kk
  exact kk
/-- a field written: not final, final -/
theorem g_put (cx : GCx p s m args meth c D ta bs own cc n) {ix ci f j : Nat} {fs : List Value} {ty : FieldType} {v : Value} (hf : GF own ix ci f) (hp : PF ci f ty) (hty : narrow ty v = v ∧ fits ty v = true) (he : L[j]? = some (.inr (ci, fs))) (hl9 : f < fs.length) (hd : decode cc pc = .ok (.putfield ix, 3)) (hq : pc + 3 = q) (k : gw p l e R s m args below meth c cells slots Q D bs n (L.set j (.inr (ci, fs.set f v))) q lv st) : gw p l e R s m args below meth c cells slots Q D bs n L pc lv (v :: .ref (bs + j) :: st) := fun H locs ls hP hS hl2 => by
  subst hq
  obtain ⟨C, T, N, h1, h2, h3, h4⟩ := hf
  obtain ⟨C2, T2, N2, tyf, g1, g2, g3, g4, g5⟩ := hp
  cases h2.symm.trans g1
  have hK := cx.K
  have hap := va_apart (own := own) cx.ts h1 tyf g2 g3 hK h2
  obtain ⟨r, hr1, cell, q1, q2, q3, q4⟩ := (hP.one he) 0 _ rfl
  have hr : r = (C, T, N) := Option.some.inj (hr1.symm.trans h2)
  subst hr
  obtain ⟨hSl, hfc, kC, hkC, hkind⟩ := hK.1 ci _ h2
  obtain ⟨cf, kf, fi9, f9, hi9, hsl⟩ := hSl f h3
  have hlay := cx.ts _ (h1 _ (u_in_lay h3))
  unfold u_lay at hlay
  rw [if_neg (by rw [g4]; decide)] at hlay
  have hst := (u_facts hfc hkC (u_lays cx.ts h1 h3) hi9).1
  have h6 := u_store hfc hkC hkind hlay hi9 g5 hty.1 hty.2
  refine W.putK cx.ex cx.cb (f := f9) ⟨cx.ow, cx.ts _ h4, ⟨_, _, _, hi9⟩, hst⟩ (by rw [q2]; exact h6) q1 q3 (by rw [hsl]; exact k2_hasslot (q4 f h3)) rfl rfl hd fun H' e1 e2 e3 => ?_
  rw [hsl] at e1 ⊢
  exact k H' _ ls (hP.set e2 e3 ⟨_, h2, t_OB.to (V := updV (vp_V fs) f v) ⟨_, e1, q2, q3, t_set q4 hap h3 v⟩ (fun j _ => vp_updV_set hl9 v j)⟩) (hS.put e2 e3 (Nat.le_add_right _ _)) hl2
def PFf (own : String) (ci f : Nat) (ty : FieldType) : Prop := ∃ (C : String) (T : u_T) (N : Nat) (tyf : Nat → FieldType), wcl[ci]? = some (C, T, N) ∧ (∀ k, k < N → parseFieldDescriptor (T k).2.2.1 = some (tyf k)) ∧ (∀ a, a < N → ∀ b, b < N → a ≠ b → (T a).2.1 ≠ (T b).2.1) ∧ (T f).2.2.2 = true ∧ parseFieldDescriptor (T f).2.2.1 = some ty ∧ (T f).1 = own
theorem g_putF (cx : GCx p s m args meth c D ta bs own cc n) (hin2 : meth.name = "<init>") {ix ci f j : Nat} {fs : List Value} {ty : FieldType} {v : Value} (hf : GF own ix ci f) (hp : PFf own ci f ty) (hty : narrow ty v = v ∧ fits ty v = true) (he : L[j]? = some (.inr (ci, fs))) (hl9 : f < fs.length) (hd : decode cc pc = .ok (.putfield ix, 3)) (hq : pc + 3 = q) (k : gw p l e R s m args below meth c cells slots Q D bs n (L.set j (.inr (ci, fs.set f v))) q lv st) : gw p l e R s m args below meth c cells slots Q D bs n L pc lv (v :: .ref (bs + j) :: st) := fun H locs ls hP hS hl2 => by
  subst hq
  obtain ⟨C, T, N, h1, h2, h3, h4⟩ := hf
  obtain ⟨C2, T2, N2, tyf, g1, g2, g3, g4, g5, hdecl⟩ := hp
  cases h2.symm.trans g1
  have hK := cx.K
  have hown := cx.ow
  have hap := va_apart (own := own) cx.ts h1 tyf g2 g3 hK h2
  obtain ⟨r, hr1, cell, q1, q2, q3, q4⟩ := (hP.one he) 0 _ rfl
  have hr : r = (C, T, N) := Option.some.inj (hr1.symm.trans h2)
  subst hr
  obtain ⟨hSl, hfc, kC, hkC, hkind⟩ := hK.1 ci _ h2
  obtain ⟨cf, kf, fi9, f9, hi9, hsl⟩ := hSl f h3
  have hlay := cx.ts _ (h1 _ (u_in_lay h3))
  unfold u_lay at hlay
  rw [if_pos g4] at hlay
  have hst := (u_facts hfc hkC (u_lays cx.ts h1 h3) hi9).1
  have hcf : m.cls = cf := by
    obtain ⟨_, _, c', _, _, _, -, -, hf', -, -, -, hown2, -⟩ := Cond.laysFinal_spec hlay
    have e1 : c' = cf := by have := hi9.symm.trans hf'; simp at this; exact this.1.symm
    rw [hdecl] at hown2
    rw [← e1]; exact Option.some.inj (hown.symm.trans hown2)
  have h6 := u_fits hfc hkC hkind (Or.inr hlay) hi9 g5 hty.1 hty.2
  refine W.putFinK cx.ex cx.cb hown (cx.ts _ h4) hi9 hst hcf hin2 (by rw [q2]; exact h6) q1 q3 (by rw [hsl]; exact k2_hasslot (q4 f h3)) rfl rfl hd fun H' e1 e2 e3 => ?_
  rw [hsl] at e1 ⊢
  exact k H' _ ls (hP.set e2 e3 ⟨_, h2, t_OB.to (V := updV (vp_V fs) f v) ⟨_, e1, q2, q3, t_set q4 hap h3 v⟩ (fun j _ => vp_updV_set hl9 v j)⟩) (hS.put e2 e3 (Nat.le_add_right _ _)) hl2
/-- a field read -/
theorem g_get (cx : GCx p s m args meth c D ta bs own cc n) {ix ci f j : Nat} {fs : List Value} {v : Value} (hf : GF own ix ci f) (he : L[j]? = some (.inr (ci, fs))) (hv : fs[f]? = some v) (hd : decode cc pc = .ok (.getfield ix, 3)) (hq : pc + 3 = q) (k : gw p l e R s m args below meth c cells slots Q D bs n L q lv (v :: st)) : gw p l e R s m args below meth c cells slots Q D bs n L pc lv (.ref (bs + j) :: st) := fun H locs ls hP hS hl2 => by
  subst hq
  obtain ⟨C, T, N, h1, h2, h3, h4⟩ := hf
  exact va_get (v := v) cx.ex cx.cb cx.ts h1 cx.ow cx.K (hP.one he) 0 rfl h2 f h3 (cx.ts _ h4) (fun _ h9 => h9) hv hd (k H locs ls hP hS hl2)
/-- a number into a row -/
theorem g_iast (cx : GCx p s m args meth c D ta bs own cc n) {j N : Nat} {f : Nat → Int32} {i x : Int32} (he : L[j]? = some (.inl (ta 0, N, .inl f))) (hin : vp_in i N) (hd : decode cc pc = .ok (.iastore, 1)) (hq : pc + 1 = q) (k : gw p l e R s m args below meth c cells slots Q D bs n (L.set j (.inl (ta 0, N, .inl (upd f i.toNatClampNeg x)))) q lv st) : gw p l e R s m args below meth c cells slots Q D bs n L pc lv (.int x :: .int i :: .ref (bs + j) :: st) := fun H locs ls hP hS hl2 => by
  subst hq
  refine W.iast cx.ex cx.cb ((hP.one he) 0 _ rfl) ((cx.K.2 0 _ rfl).1 N (fun j => .int (f j))) (fun q => by cases q) (by show ¬ (i < 0 ∨ (arrV _ _ _).slots.size ≤ _); rw [arrV_size]; exact hin) rfl rfl hd fun H1 e z oq => ?_
  refine k H1 _ ls (hP.set z oq ?_) (hS.put z oq (Nat.le_add_right _ _)) hl2
  show H1[bs + j]? = some (vp_cell _ _)
  rw [e]
  rw [vp_cell_i, vp_cell_i, arrV_store]
  congr 2
  funext q
  by_cases hq : q = i.toNatClampNeg
  · subst hq
    simp [updV, upd]
  · simp [updV, upd, hq]
/-- an object into a row -/
theorem g_aast (cx : GCx p s m args meth c D ta bs own cc n) {j N t0 ci v : Nat} {f : Nat → Option Nat} {vs : List Value} {r : vw_C} {i : Int32} (he : L[j]? = some (.inl (ta t0, N, .inr (.inr (.inr (.inr f)))))) (ht : (wtys ta)[t0]? = some (ta t0, .object r.1)) (hv : L[v]? = some (.inr (ci, vs))) (hc : wcl[ci]? = some r) (hin : vp_in i N) (hd : decode cc pc = .ok (.aastore, 1)) (hq : pc + 1 = q) (k : gw p l e R s m args below meth c cells slots Q D bs n (L.set j (.inl (ta t0, N, .inr (.inr (.inr (.inr (va_up f i.toNatClampNeg (some (bs + v))))))))) q lv st) : gw p l e R s m args below meth c cells slots Q D bs n L pc lv (.ref (bs + v) :: .int i :: .ref (bs + j) :: st) := fun H locs ls hP hS hl2 => by
  subst hq
  have hlt : i.toNatClampNeg < N := Nat.not_le.mp fun q => hin (Or.inr q)
  have h0 : ¬ i < 0 := fun q => hin (Or.inl q)
  obtain ⟨r', hr', cellV, g1, g2, g3, -⟩ := (hP.one hv) 0 _ rfl
  have hcls := (cx.K.1 ci r hc).2
  obtain ⟨kA, comp, k1, k2, k3, -⟩ := (cx.K.2 t0 _ ht).2
  have hcomp : comp = D.1 ci := Option.some.inj (k3.symm.trans hcls.1)
  subst hcomp
  obtain ⟨kC, hkC, -⟩ := hcls.2
  refine W.aast cx.ex cx.cb ((hP.one he) 0 _ rfl) (fun q h => by cases h) (fun h => by cases h) k1 k2 rfl hkC ⟨h0, by show _ < (arrV _ _ _).slots.size; rw [arrV_size]; exact hlt⟩ g1 (fun q h => by rw [g3] at h; cases h) (by rw [g2]; exact hkC) (by rw [g2]; exact va_assign hcls) rfl rfl hd fun H1 e z oq => ?_
  refine k H1 _ ls (hP.set z oq ?_) (hS.put z oq (Nat.le_add_right _ _)) hl2
  show H1[bs + j]? = some (vp_cell _ _)
  rw [e]
  rw [vp_cell_q, vp_cell_q, arrV_store]
  congr 2
  funext q
  by_cases hq : q = i.toNatClampNeg
  · subst hq
    simp [updV, va_up, va_rf]
  · simp [updV, va_up, hq]
/-- a constructor's contract -/
def rmg (d mc ms : Nat) : Room := { frames := d, cells := mc, slots := ms, locals := 40 * d }
def gPc (D : va_G) (ta : wTa) (bs : Nat) (L : List va_E) (U : State) : Prop := gP D bs L U.heap ∧ va_K D wcl (wtys ta) U ∧ (∀ w ∈ NG, va_Nw w U) ∧ bs ≤ U.heap.size ∧ gO U
def gQ (D : va_G) (bs : Nat) (L' : List va_E) : Array Value → State → Outcome → State → Prop := fun _ st oc t => (oc = .returned none ∧ gP D bs L' t.heap) ∧ va_F (gA bs) st t
def GC (l : Launch) (D : va_G) (ta : wTa) (bs : Nat) (y : MethodName) (cc : ByteArray) (n d mc ms : Nat) (avs : List Value) (L L' : List va_E) : Prop :=
  Met l y (.code y cc n none :: BG) (rmg d mc ms) (va_Pc avs (gPc D ta bs L)) (gQ D bs L') mc ms (gA bs)
theorem GC.of {y : MethodName} {d mc ms : Nat} {avs : List Value} (hy : plainName y.cls = true) (hn : (lg_sl avs).length ≤ n)
    (body : ∀ (p : Program) (e : Env) (s : State) (m : MethodId) (args : Array Value) (below : List Frame) (meth : Method) (c : Code), GCx p s m args meth c D ta bs y.cls cc n → meth.sig.returnType = none → (y.name = meth.name) → gw p l e (rmg d mc ms) s m args below meth c 0 0 (MQ below (gQ D bs L') args s mc ms (gA bs)) D bs n L 0 (lv_args 0 avs) []) : GC l D ta bs y cc n d mc ms avs L L' := by
  refine Met.ofW (cc := cc) (maxL := n) (ret := none) hy rfl ?_
  intro p e s m args below meth c s₁ B hml hv
  obtain ⟨rfl, hP, hK, hN, hle, hov⟩ := hv
  have hts := atoms_spec (ws := .code y cc n none :: BG) B.pre
  have hown : s.vm.findClass y.cls = some m.cls := findClass_of_methodNamed B.named
  have hl := lv_entry avs (n := n) hn
  rw [lg_entry_eq]
  exact body p e s m avs.toArray below meth c ⟨B.exec, B.bytes, hml, hown, fun w h => hts w (List.mem_cons_of_mem _ h), hK, hN, B.notSynchronized, hle, hov⟩ B.returns (name_of_methodNamed B.named B.method).1.symm s.heap [] _ hP va_S.rf hl
theorem g_vret (cx : GCx p s m args meth c D ta bs own cc n) {mc ms : Nat} (hr : meth.sig.returnType = none) (hL : L = L') (hc : cells ≤ mc ∧ slots ≤ ms) (hd : decode cc pc = .ok (.return_, 1)) : gw p l e R s m args below meth c cells slots (MQ below (gQ D bs L') args s mc ms (gA bs)) D bs n L pc lv [] := fun H locs ls hP hS hl => by
  have hlocks := cx.lk
  subst hL
  refine W.widen hc.1 hc.2 ?_
  exact W.vret cx.ex cx.cb hr (fun t ht hW => ⟨⟨rfl, by rw [ht]; exact hP⟩, hS.F ht⟩) hS.2.2 hd
/-- a constructor is called -/
theorem g_run {H : Heap} {locs : List Loc} {ls : Array Slot} {avs : Array Value} {st0 : List Value} {mc ms : Nat} (hr : va_Run p l e R s m args below meth c H locs cells slots mc ms (F0 m pc ls st0) st (gQ D bs L' avs) (gA bs)) (hS : va_S (gA bs) s.heap H locs) (hl : lv_has ls n lv) (k : gw p l e R s m args below meth c (cells + mc) (slots + ms) Q D bs n L' (pc + 3) lv st) : W p l e R s m args below meth c H locs cells slots Q (F0 m pc ls st0) := by
  intro T hT X
  obtain ⟨v, st₀, t, T', L9, h0, X', hL, e1, e2, ⟨⟨hv, hb⟩, hz, hk⟩, stp⟩ := hr T hT X
  cases hv
  rw [h0] at hz hk
  obtain ⟨t2, a1, b1⟩ := k T'.heap (locs ++ L9) ls (by rw [e1]; exact hb) ⟨Nat.le_trans hS.1 (by rw [e1]; exact hz), fun q h1 h2 => by rw [e1, hk q (Nat.lt_of_lt_of_le h1 hS.1) h2]; exact hS.2.1 q h1 h2, fun q hq => by
      rcases List.mem_append.mp hq with h | h
      · exact hS.2.2 q h
      · exact hL q h⟩ hl T' rfl X'
  exact ⟨t2, stp t2 a1, b1⟩
theorem gPc_blind {avs : List Value} : FrameBlind (va_Pc avs (gPc D ta bs L)) := fun a U g mk q => by
  obtain ⟨q0, qP, qK, qN, qL, qO⟩ := q
  exact ⟨q0, qP, va_K.moved (u := U) (U := U.calling g mk a) (Vm.Alike.refl U.vm) qK, NG_same (s := U) (U := U.calling g mk a) rfl qN, qL, gO.moved (u := U) (U := U.calling g mk a) (Vm.Alike.refl U.vm) qO⟩
theorem gPc_at (cx : GCx p s m args meth c D ta bs own cc n) {avs : List Value} {H : Heap} {locs : List Loc} (hP : gP D bs L H) (hS : va_S (gA bs) s.heap H locs) : ∀ U : State, U.heap = H → s.WarmedH U.vm → va_Pc avs (gPc D ta bs L) avs.toArray U := fun U hU hW => ⟨rfl, by rw [hU]; exact hP, va_K.moved hW.alike cx.K, NG_warm hW cx.ng, by rw [hU]; exact Nat.le_trans cx.le hS.1, gO.moved hW.alike cx.ov⟩
def CI (own : String) (ix : Nat) (y : MethodName) (cy : ByteArray) (n k : Nat) : Prop := (Cond.methodLink own ix y ∈ BG ∧ Cond.instanceMethod y ∈ BG ∧ Cond.initialized y.cls ∈ BG ∧ Cond.code y cy n none ∈ BG) ∧ y.name = "<init>" ∧ y.cls ≠ "java/lang/invoke/MethodHandle" ∧ y.cls ≠ "java/lang/invoke/VarHandle" ∧ (parseMethodDescriptor y.desc).map (fun d => d.parameters.length) = some k
def CIN (own : String) (ix : Nat) (y : MethodName) (cy : ByteArray) (n k : Nat) : Prop := (∃ host : String, Cond.methodLinkNest own ix y host ∈ NG) ∧ Cond.instanceMethod y ∈ BG ∧ Cond.initialized y.cls ∈ BG ∧ Cond.code y cy n none ∈ BG ∧ y.name = "<init>" ∧ y.cls ≠ "java/lang/invoke/MethodHandle" ∧ y.cls ≠ "java/lang/invoke/VarHandle" ∧ (parseMethodDescriptor y.desc).map (fun d => d.parameters.length) = some k
theorem g_call (cx : GCx p s m args meth c D ta bs own cc n) {y : MethodName} {cy : ByteArray} {ny d mc ms ix a : Nat} {As : List Value} {st0 : List Value} (hM : GC l D ta bs y cy ny d mc ms (.ref a :: As) L L') (hw : CI own ix y cy ny As.length) (hR : d + 1 ≤ R.frames ∧ 8 + (ny + 11) + 40 * d ≤ R.locals) (hcs : cells + mc ≤ R.cells ∧ slots + ms ≤ R.slots) (h8 : (st.map fun v => v.category).sum ≤ 8) (hst : st0 = As.reverse ++ .ref a :: st) (hd : decode cc pc = .ok (.invokespecial ix, 3)) (hq : pc + 3 = q) (k : gw p l e R s m args below meth c (cells + mc) (slots + ms) Q D bs n L' q lv st) : gw p l e R s m args below meth c cells slots Q D bs n L pc lv st0 := fun H locs ls hP hS hl => by
  subst hq
  obtain ⟨⟨w1, w2, w4, w5⟩, hy1, hd4⟩ := hw
  have hrun := va_runI (l := l) (e := e) (R := R) (below := below) (meth := meth) (locs := locs) (cells := cells) (slots := slots) (As := As) (rest := st) (b := a) (g := F0 m pc ls st0) ⟨cx.ex, cx.cb, cx.ml, cx.ow, cx.ts⟩ hM (cwI As.length cx.ts (BG_codes w5) rfl rfl rfl (cx.ts _ w4) (cx.ts _ w1) (cx.ts _ w2) hy1 hd4 hR) ⟨gPc_blind, gPc_at cx hP hS⟩ rfl rfl hl.1 hst (by show 2 * 0 + _ ≤ 8; omega) hd hcs
  exact g_run hrun hS hl k
theorem g_callN (cx : GCx p s m args meth c D ta bs own cc n) {y : MethodName} {cy : ByteArray} {ny d mc ms ix a : Nat} {As : List Value} {st0 : List Value} (hM : GC l D ta bs y cy ny d mc ms (.ref a :: As) L L') (hw : CIN own ix y cy ny As.length) (hR : d + 1 ≤ R.frames ∧ 8 + (ny + 11) + 40 * d ≤ R.locals) (hcs : cells + mc ≤ R.cells ∧ slots + ms ≤ R.slots) (h8 : (st.map fun v => v.category).sum ≤ 8) (hst : st0 = As.reverse ++ .ref a :: st) (hd : decode cc pc = .ok (.invokespecial ix, 3)) (hq : pc + 3 = q) (k : gw p l e R s m args below meth c (cells + mc) (slots + ms) Q D bs n L' q lv st) : gw p l e R s m args below meth c cells slots Q D bs n L pc lv st0 := fun H locs ls hP hS hl => by
  subst hq
  obtain ⟨⟨host, w1⟩, w2, w4, w5, hy1, hd4⟩ := hw
  have hrun := va_runIN (l := l) (e := e) (R := R) (below := below) (meth := meth) (locs := locs) (cells := cells) (slots := slots) (As := As) (rest := st) (b := a) (g := F0 m pc ls st0) ⟨cx.ex, cx.cb, cx.ml, cx.ow, cx.ts⟩ hM ⟨va_cnB As.length cx.ts (BG_codes w5) rfl rfl rfl (cx.ng _ w1) (cx.ts _ w4) hd4 hR, hy1, cx.ts _ w2⟩ ⟨gPc_blind, gPc_at cx hP hS⟩ rfl rfl hl.1 hst (by show 2 * 0 + _ ≤ 8; omega) hd hcs
  exact g_run hrun hS hl k
end GROW
