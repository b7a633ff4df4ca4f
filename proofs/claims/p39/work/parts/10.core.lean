/-! THE JUDGEMENT mw: the machine in a method's body, over the one world: M what its cells hold, lv the locals, st the operand stack, S what the method is said to come to -/
def wP (D : va_G) (ta : wTa) (ad : wAd) (M : Wm) (H : Heap) : Prop := ∀ (c g : Nat) (i : Int32), vp_in i (wcnt c g) → va_at D wcl (ad c g i, wcell ta ad c g i (M c g i)) H
def wA (ad : wAd) : Nat → Prop := fun q => ∃ (c g : Nat) (i : Int32), c ≠ 10 ∧ vp_in i (wcnt c g) ∧ q = ad c g i
def wI (ad : wAd) : Prop := ∀ (c g : Nat) (i : Int32) (c2 g2 : Nat) (i2 : Int32), vp_in i (wcnt c g) → vp_in i2 (wcnt c2 g2) → ad c g i = ad c2 g2 i2 → c = c2 ∧ g = g2 ∧ i = i2
/-- what is static and only read: fields, the 26 words, their forms, two rows -/
def wSt (ad : wAd) (U : State) (H : Heap) : Prop :=
  (va_Z "RationLisp$Word" "ALL" "[LRationLisp$Word;" (.ref (ad 10 2 0)) (wA ad) U H ∧ va_Z "RationLisp$1" "$SwitchMap$RationLisp$Word" "[I" (.ref (ad 10 3 0)) (wA ad) U H ∧ va_Z "RationLisp$Word" "IF" "LRationLisp$Word;" (.ref (ad 10 0 12)) (wA ad) U H ∧ va_Z "RationLisp$Word" "AND" "LRationLisp$Word;" (.ref (ad 10 0 10)) (wA ad) U H ∧ va_Z "java/lang/String" "COMPACT_STRINGS" "Z" (.int 1) (wA ad) U H ∧ (∃ r : Option Nat, va_Z "jdk/internal/util/Preconditions" "SIOOBE_FORMATTER" "Ljava/util/function/BiFunction;" (va_rf r) (wA ad) U H)) ∧
  (∀ w : Int32, vp_in w 26 → va_O "RationLisp$Word" (ad 10 0 w) (wA ad) U H ∧ va_OF "RationLisp$Word" "code" "I" (.int (wdCode w)) (ad 10 0 w) (wA ad) U H ∧ va_OF "RationLisp$Word" "form" "Ljava/lang/String;" (.ref (ad 10 1 (wdForm w))) (ad 10 0 w) (wA ad) U H ∧ va_OF "RationLisp$Word" "goesOn" "Z" (.int (wdOn w)) (ad 10 0 w) (wA ad) U H ∧ va_OF "java/lang/Enum" "ordinal" "I" (.int w) (ad 10 0 w) (wA ad) U H) ∧
  (∀ i : Int32, vp_in i 9 → va_O "java/lang/String" (ad 10 1 i) (wA ad) U H ∧ va_OF "java/lang/String" "value" "[B" (.ref (ad 10 4 i)) (ad 10 1 i) (wA ad) U H ∧ va_OF "java/lang/String" "coder" "B" (.int 0) (ad 10 1 i) (wA ad) U H ∧ va_T .byte (ad 10 4 i) (stLen i) (fun j => .int (stByte i (nI j))) (wA ad) U H) ∧
  va_T (.object "RationLisp$Word") (ad 10 2 0) 26 (fun j => .ref (ad 10 0 (nI j))) (wA ad) U H ∧ va_T .int (ad 10 3 0) 26 (fun j => .int (wdSw (nI j))) (wA ad) U H ∧
  (∀ w w2 : Int32, vp_in w 26 → vp_in w2 26 → ad 10 0 w = ad 10 0 w2 → w = w2) ∧ ∀ w ∈ NG, va_Nw w U
theorem wSt.alike {ad : wAd} {u U : State} {H : Heap} (hA : u.vm.Alike U.vm) (hN : (∀ w ∈ NG, va_Nw w u) → ∀ w ∈ NG, va_Nw w U) (h : wSt ad u H) : wSt ad U H := by
  obtain ⟨⟨h1, h2, h3, h4, h5, ⟨r, h6⟩⟩, h7, h8, h9, h10, h11, h12⟩ := h
  refine ⟨⟨h1.moved hA, h2.moved hA, h3.moved hA, h4.moved hA, h5.moved hA, ⟨r, h6.moved hA⟩⟩, fun w hw => ?_, fun i hi => ?_, h9.moved hA, h10.moved hA, h11, hN h12⟩
  · obtain ⟨a1, a2, a3, a4, a5⟩ := h7 w hw
    exact ⟨a1.moved hA, a2.moved hA, a3.moved hA, a4.moved hA, a5.moved hA⟩
  · obtain ⟨a1, a2, a3, a4⟩ := h8 i hi
    exact ⟨a1.moved hA, a2.moved hA, a3.moved hA, a4.moved hA⟩
theorem wSt.warm {ad : wAd} {u U : State} {H : Heap} (hW : u.WarmedH U.vm) (h : wSt ad u H) : wSt ad U H := h.alike hW.alike (NG_warm hW)
theorem wSt.same {ad : wAd} {u U : State} {H : Heap} (hv : u.vm = U.vm) (h : wSt ad u H) : wSt ad U H := h.alike (hv ▸ Vm.Alike.refl u.vm) (NG_same hv)
theorem wSt.kept {ad : wAd} {U : State} {H H1 : Heap} (h : wSt ad U H) (hq : ∀ a : Nat, a < H.size → ¬ wA ad a → H1[a]? = H[a]?) : wSt ad U H1 := by
  obtain ⟨⟨h1, h2, h3, h4, h5, ⟨r, h6⟩⟩, h7, h8, h9, h10, h11, h12⟩ := h
  refine ⟨⟨h1.kept hq, h2.kept hq, h3.kept hq, h4.kept hq, h5.kept hq, ⟨r, h6.kept hq⟩⟩, fun w hw => ?_, fun i hi => ?_, h9.kept hq, h10.kept hq, h11, h12⟩
  · obtain ⟨a1, a2, a3, a4, a5⟩ := h7 w hw
    exact ⟨a1.kept hq, a2.kept hq, a3.kept hq, a4.kept hq, a5.kept hq⟩
  · obtain ⟨a1, a2, a3, a4⟩ := h8 i hi
    exact ⟨a1.kept hq, a2.kept hq, a3.kept hq, a4.kept hq⟩
def Cx (p : Program) (s : State) (m : MethodId) (args : Array Value) (meth : Method) (c : Code) (D : va_G) (ta : wTa) (ad : wAd) (own : String) (cc : ByteArray) (n : Nat) : Prop :=
  p.tables.exec = Jvm.exec ∧ c.code = cc ∧ c.maxLocals = n ∧ s.vm.findClass own = some m.cls ∧ (∀ w ∈ BG, w.before args s = true) ∧ va_K D wcl (wtys ta) s ∧ wI ad ∧ wSt ad s s.heap ∧ meth.locks = false
def mw {σ : Type} (p : Program) (l : Launch) (e : Env) (R : Room) (s : State) (m : MethodId) (args : Array Value) (below : List Frame) (meth : Method) (c : Code) (cells slots : Nat) (Q : σ → State → Prop) (D : va_G) (ta : wTa) (ad : wAd) (n : Nat) (M : Wm) (pc : Nat) (lv : List (Nat × Value)) (st : List Value) (S : σ) : Prop :=
  ∀ (H : Heap) (locs : List Loc) (ls : Array Slot), wP D ta ad M H → va_S (wA ad) s.heap H locs → lv_has ls n lv → W p l e R s m args below meth c H locs cells slots (Q S) (F0 m pc ls st)
def rmd (d : Nat) : Room := { frames := d, cells := 0, slots := 0, locals := 40 * d }
/-- behind a method: its answer, and the world -/
def mQ (D : va_G) (ta : wTa) (ad : wAd) (z : Option Value × Wm) : Array Value → State → Outcome → State → Prop := fun _ st oc t => (oc = .returned z.1 ∧ wP D ta ad z.2 t.heap) ∧ va_F (wA ad) st t
/-- a method's contract: with the world M it returns z.1 and leaves the world z.2 -/
def MC (l : Launch) (D : va_G) (ta : wTa) (ad : wAd) (y : MethodName) (cc : ByteArray) (n : Nat) (ret : Option FieldType) (d : Nat) (avs : List Value) (M : Wm) (z : Option Value × Wm) : Prop :=
  Met l y (.code y cc n ret :: BG) (rmd d) (va_Pc avs (fun U => wP D ta ad M U.heap ∧ va_K D wcl (wtys ta) U ∧ wI ad ∧ wSt ad U U.heap)) (mQ D ta ad z) 0 0 (wA ad)
/-- a let, a join -/
def bnd {α σ : Type} (x : α) (K : α → σ) : σ := K x
def jn {α σ : Type} (K : α → σ) (T : (α → σ) → σ) : σ := T K
/-- what a spec stands for -/
def fi (x : Int32 × Wm) : Option Value × Wm := (some (.int x.1), x.2)
def fv (x : Wm) : Option Value × Wm := (none, x)
def fr (x : Value × Wm) : Option Value × Wm := (some x.1, x.2)
def fic (M : Wm) (k : Nat) (x : Int32 × Cm) : Option Value × Wm := (some (.int x.1), uW M k x.2)
def fvc (M : Wm) (k : Nat) (x : Cm) : Option Value × Wm := (none, uW M k x)
def b2i (b : Bool) : Int32 := if b = true then 1 else 0
theorem b2i_nar (b : Bool) : narrow .boolean (.int (b2i b)) = .int (b2i b) := by cases b <;> rfl
theorem b2i_fit (b : Bool) : narrow .boolean (.int (b2i b)) = .int (b2i b) ∧ fits .boolean (.int (b2i b)) = true := by cases b <;> exact ⟨rfl, rfl⟩
theorem int_fit (x : Int32) : narrow .int (.int x) = .int x ∧ fits .int (.int x) = true := ⟨rfl, rfl⟩
def fz (x : Bool × Wm) : Option Value × Wm := (some (.int (b2i x.1)), x.2)
def fzc (M : Wm) (k : Nat) (x : Bool × Cm) : Option Value × Wm := (some (.int (b2i x.1)), uW M k x.2)
def fzp (M : Wm) (x : Bool) : Option Value × Wm := (some (.int (b2i x)), M)
def fip (M : Wm) (x : Int32) : Option Value × Wm := (some (.int x), M)
def frp (M : Wm) (x : Value) : Option Value × Wm := (some x, M)
section CORE
variable {σ : Type} {p : Program} {l : Launch} {e : Env} {R : Room} {s : State} {m : MethodId} {args : Array Value} {below : List Frame} {meth : Method} {c : Code} {cells slots : Nat} {Q : σ → State → Prop} {D : va_G} {ta : wTa} {ad : wAd} {n : Nat} {M : Wm} {pc q : Nat} {lv lv' : List (Nat × Value)} {st : List Value} {S A B : σ} {own : String} {cc : ByteArray}
theorem wP.one {M : Wm} {H : Heap} (h : wP D ta ad M H) {k g : Nat} {i : Int32} (hi : vp_in i (wcnt k g)) {e : va_E} (he : wcell ta ad k g i (M k g i) = e) : va_P D wcl [(ad k g i, e)] H := by
  intro j q hq
  cases j with
  | zero => cases hq; rw [← he]; exact h k g i hi
  | succ j => simp at hq
theorem nI_tn {i : Int32} {n : Nat} (h : vp_in i n) : nI i.toNatClampNeg = i := by
  have h0 : ¬ i < 0 := fun z => h (Or.inl z)
  obtain ⟨j, hj, rfl⟩ := nI_of h0
  rw [nI_clamp hj]
theorem nI_ij {j : Nat} {i : Int32} {n N : Nat} (h : vp_in i n) (hj : j < N) (hN : N ≤ 2147483648) : j = i.toNatClampNeg ↔ nI j = i := by
  have h0 : ¬ i < 0 := fun z => h (Or.inl z)
  obtain ⟨k, hk, rfl⟩ := nI_of h0
  rw [nI_clamp hk, nI_eq (by omega) hk]
/-- one cell changes -/
theorem wP.set {M : Wm} {H H1 : Heap} (h : wP D ta ad M H) (hI : wI ad) {k g : Nat} {i j x : Int32} (hi : vp_in i (wcnt k g)) (h1 : va_at D wcl (ad k g i, wcell ta ad k g i (fI (M k g i) j x)) H1) (ho : ∀ q : Nat, q ≠ ad k g i → H1[q]? = H[q]?) : wP D ta ad (uW M k (u3 (M k) g i j x)) H1 := by
  intro c2 g2 i2 h2
  by_cases e : c2 = k ∧ g2 = g ∧ i2 = i
  · obtain ⟨rfl, rfl, rfl⟩ := e
    have : uW M c2 (u3 (M c2) g2 i2 j x) c2 g2 i2 = fI (M c2 g2 i2) j x := by simp [uW, u3]
    rw [this]; exact h1
  · have : uW M k (u3 (M k) g i j x) c2 g2 i2 = M c2 g2 i2 := by
      unfold uW
      by_cases e1 : c2 = k
      · rw [if_pos e1]; subst e1
        unfold u3
        rw [if_neg (fun z => e ⟨rfl, z⟩)]
      · rw [if_neg e1]
    rw [this]
    exact (h c2 g2 i2 h2).kept (ho _ (fun z => e (hI _ _ _ _ _ _ h2 hi z)))
theorem mw_eqS (h : A = B) (k : mw p l e R s m args below meth c cells slots Q D ta ad n M pc lv st B) : mw p l e R s m args below meth c cells slots Q D ta ad n M pc lv st A := h ▸ k
theorem mw_eqM {M' : Wm} (h : M = M') (k : mw p l e R s m args below meth c cells slots Q D ta ad n M' pc lv st S) : mw p l e R s m args below meth c cells slots Q D ta ad n M pc lv st S := h ▸ k
theorem mw_eqs {st' : List Value} (h : st = st') (k : mw p l e R s m args below meth c cells slots Q D ta ad n M pc lv st' S) : mw p l e R s m args below meth c cells slots Q D ta ad n M pc lv st S := h ▸ k
/-- fewer locals, by places -/
theorem mw_sub (ks : List Nat) (h : lv_pick lv ks = lv') (k : mw p l e R s m args below meth c cells slots Q D ta ad n M pc lv' st S) : mw p l e R s m args below meth c cells slots Q D ta ad n M pc lv st S :=
  fun H locs ls hP hS hl => k H locs ls hP hS (lv_sub hl ks h)
theorem mw_bnd {α : Type} {x : α} {K : α → σ} (k : ∀ v : α, v = x → mw p l e R s m args below meth c cells slots Q D ta ad n M pc lv st (K v)) : mw p l e R s m args below meth c cells slots Q D ta ad n M pc lv st (bnd x K) := k x rfl

theorem mw_iadd (cx : Cx p s m args meth c D ta ad own cc n) {x y : Int32} (hd : decode cc pc = .ok (.iadd, 1)) (hq : pc + 1 = q) (k : mw p l e R s m args below meth c cells slots Q D ta ad n M q lv (.int (x + y) :: st) S) : mw p l e R s m args below meth c cells slots Q D ta ad n M pc lv (.int y :: .int x :: st) S := fun H locs ls hP hS hl => by
  subst hq
  exact lv_iadd cx.1 cx.2.1 hd (k H locs ls hP hS hl)
theorem mw_isub (cx : Cx p s m args meth c D ta ad own cc n) {x y : Int32} (hd : decode cc pc = .ok (.isub, 1)) (hq : pc + 1 = q) (k : mw p l e R s m args below meth c cells slots Q D ta ad n M q lv (.int (x - y) :: st) S) : mw p l e R s m args below meth c cells slots Q D ta ad n M pc lv (.int y :: .int x :: st) S := fun H locs ls hP hS hl => by
  subst hq
  exact lv_isub cx.1 cx.2.1 hd (k H locs ls hP hS hl)
theorem mw_imul (cx : Cx p s m args meth c D ta ad own cc n) {x y : Int32} (hd : decode cc pc = .ok (.imul, 1)) (hq : pc + 1 = q) (k : mw p l e R s m args below meth c cells slots Q D ta ad n M q lv (.int (x * y) :: st) S) : mw p l e R s m args below meth c cells slots Q D ta ad n M pc lv (.int y :: .int x :: st) S := fun H locs ls hP hS hl => by
  subst hq
  exact lv_imul cx.1 cx.2.1 hd (k H locs ls hP hS hl)
theorem mw_iand (cx : Cx p s m args meth c D ta ad own cc n) {x y : Int32} (hd : decode cc pc = .ok (.iand, 1)) (hq : pc + 1 = q) (k : mw p l e R s m args below meth c cells slots Q D ta ad n M q lv (.int (x &&& y) :: st) S) : mw p l e R s m args below meth c cells slots Q D ta ad n M pc lv (.int y :: .int x :: st) S := fun H locs ls hP hS hl => by
  subst hq
  exact lv_iand cx.1 cx.2.1 hd (k H locs ls hP hS hl)
theorem mw_idiv (cx : Cx p s m args meth c D ta ad own cc n) {x y : Int32} (hd : decode cc pc = .ok (.idiv, 1)) (hq : pc + 1 = q) (hne : ¬ y = 0) (k : mw p l e R s m args below meth c cells slots Q D ta ad n M q lv (.int (x / y) :: st) S) : mw p l e R s m args below meth c cells slots Q D ta ad n M pc lv (.int y :: .int x :: st) S := fun H locs ls hP hS hl => by
  subst hq
  exact lv_idiv cx.1 cx.2.1 hd hne (k H locs ls hP hS hl)
theorem mw_irem (cx : Cx p s m args meth c D ta ad own cc n) {x y : Int32} (hd : decode cc pc = .ok (.irem, 1)) (hq : pc + 1 = q) (hne : ¬ y = 0) (k : mw p l e R s m args below meth c cells slots Q D ta ad n M q lv (.int (x - x / y * y) :: st) S) : mw p l e R s m args below meth c cells slots Q D ta ad n M pc lv (.int y :: .int x :: st) S := fun H locs ls hP hS hl => by
  subst hq
  exact lv_irem cx.1 cx.2.1 hd hne (k H locs ls hP hS hl)
theorem mw_ineg (cx : Cx p s m args meth c D ta ad own cc n) {x : Int32} (hd : decode cc pc = .ok (.ineg, 1)) (hq : pc + 1 = q) (k : mw p l e R s m args below meth c cells slots Q D ta ad n M q lv (.int (-x) :: st) S) : mw p l e R s m args below meth c cells slots Q D ta ad n M pc lv (.int x :: st) S := fun H locs ls hP hS hl => by
  subst hq
  exact lv_ineg cx.1 cx.2.1 hd (k H locs ls hP hS hl)
theorem mw_iconst (cx : Cx p s m args meth c D ta ad own cc n) {z : Int} {v : Int32} (hd : decode cc pc = .ok (.iconst z, 1)) (hq : pc + 1 = q) (hv : Int32.ofInt z = v) (k : mw p l e R s m args below meth c cells slots Q D ta ad n M q lv (.int v :: st) S) : mw p l e R s m args below meth c cells slots Q D ta ad n M pc lv st S := fun H locs ls hP hS hl => by
  subst hq
  exact lv_iconst cx.1 cx.2.1 hd hv (k H locs ls hP hS hl)
theorem mw_bipush (cx : Cx p s m args meth c D ta ad own cc n) {z : Int} {v : Int32} (hd : decode cc pc = .ok (.bipush z, 2)) (hq : pc + 2 = q) (hv : (Int8.ofInt z).toInt32 = v) (k : mw p l e R s m args below meth c cells slots Q D ta ad n M q lv (.int v :: st) S) : mw p l e R s m args below meth c cells slots Q D ta ad n M pc lv st S := fun H locs ls hP hS hl => by
  subst hq
  exact lv_bipush cx.1 cx.2.1 hd hv (k H locs ls hP hS hl)
theorem mw_sipush (cx : Cx p s m args meth c D ta ad own cc n) {z : Int} {v : Int32} (hd : decode cc pc = .ok (.sipush z, 3)) (hq : pc + 3 = q) (hv : (Int16.ofInt z).toInt32 = v) (k : mw p l e R s m args below meth c cells slots Q D ta ad n M q lv (.int v :: st) S) : mw p l e R s m args below meth c cells slots Q D ta ad n M pc lv st S := fun H locs ls hP hS hl => by
  subst hq
  exact lv_sipush cx.1 cx.2.1 hd hv (k H locs ls hP hS hl)
theorem mw_dup (cx : Cx p s m args meth c D ta ad own cc n) {va : Value} (hd : decode cc pc = .ok (.dup, 1)) (hq : pc + 1 = q) (hva : va.category = 1) (k : mw p l e R s m args below meth c cells slots Q D ta ad n M q lv (va :: va :: st) S) : mw p l e R s m args below meth c cells slots Q D ta ad n M pc lv (va :: st) S := fun H locs ls hP hS hl => by
  subst hq
  exact lv_dup cx.1 cx.2.1 hd hva (k H locs ls hP hS hl)
theorem mw_pop (cx : Cx p s m args meth c D ta ad own cc n) {va : Value} (hd : decode cc pc = .ok (.pop, 1)) (hq : pc + 1 = q) (hva : va.category = 1) (k : mw p l e R s m args below meth c cells slots Q D ta ad n M q lv st S) : mw p l e R s m args below meth c cells slots Q D ta ad n M pc lv (va :: st) S := fun H locs ls hP hS hl => by
  subst hq
  exact lv_pop cx.1 cx.2.1 hd hva (k H locs ls hP hS hl)
theorem mw_dup2 (cx : Cx p s m args meth c D ta ad own cc n) {va vb : Value} (hd : decode cc pc = .ok (.dup2, 1)) (hq : pc + 1 = q) (hva : va.category = 1) (hvb : vb.category = 1) (k : mw p l e R s m args below meth c cells slots Q D ta ad n M q lv (va :: vb :: va :: vb :: st) S) : mw p l e R s m args below meth c cells slots Q D ta ad n M pc lv (va :: vb :: st) S := fun H locs ls hP hS hl => by
  subst hq
  exact lv_dup2_11 cx.1 cx.2.1 hd hva hvb (k H locs ls hP hS hl)
theorem mw_null (cx : Cx p s m args meth c D ta ad own cc n)  (hd : decode cc pc = .ok (.aconst_null, 1)) (hq : pc + 1 = q) (k : mw p l e R s m args below meth c cells slots Q D ta ad n M q lv (.null :: st) S) : mw p l e R s m args below meth c cells slots Q D ta ad n M pc lv st S := fun H locs ls hP hS hl => by
  subst hq
  exact lv_null cx.1 cx.2.1 hd (k H locs ls hP hS hl)
theorem mw_ldc (cx : Cx p s m args meth c D ta ad own cc n) {ix : Nat} {v : Int32} (hd : decode cc pc = .ok (.ldc ix, 2)) (hq : pc + 2 = q) (hw : Cond.constant own ix v ∈ BG) (k : mw p l e R s m args below meth c cells slots Q D ta ad n M q lv (.int v :: st) S) : mw p l e R s m args below meth c cells slots Q D ta ad n M pc lv st S := fun H locs ls hP hS hl => by
  subst hq
  exact lv_ldc cx.1 cx.2.1 cx.2.2.2.1 (cx.2.2.2.2.1 _ hw) hd (k H locs ls hP hS hl)
theorem mw_iload_n (cx : Cx p s m args meth c D ta ad own cc n) {f : Fin 4} {i : Nat} {x : Int32} (j : Nat) (hj : lv[j]? = some (i, .int x)) (hi : (f : Nat) = i) (hd : decode cc pc = .ok (.iload_n f, 1)) (hq : pc + 1 = q) (k : mw p l e R s m args below meth c cells slots Q D ta ad n M q lv (.int x :: st) S) : mw p l e R s m args below meth c cells slots Q D ta ad n M pc lv st S := fun H locs ls hP hS hl => by
  subst hq
  exact lv_iload_n cx.1 cx.2.1 hd hi (lv_at hl j hj) (k H locs ls hP hS hl)
theorem mw_iload (cx : Cx p s m args meth c D ta ad own cc n) {i : Nat} {x : Int32} (j : Nat) (hj : lv[j]? = some (i, .int x)) (hd : decode cc pc = .ok (.iload i, 2)) (hq : pc + 2 = q) (k : mw p l e R s m args below meth c cells slots Q D ta ad n M q lv (.int x :: st) S) : mw p l e R s m args below meth c cells slots Q D ta ad n M pc lv st S := fun H locs ls hP hS hl => by
  subst hq
  exact lv_iload cx.1 cx.2.1 hd (lv_at hl j hj) (k H locs ls hP hS hl)
theorem mw_aload_n (cx : Cx p s m args meth c D ta ad own cc n) {f : Fin 4} {i : Nat} {x : Nat} (j : Nat) (hj : lv[j]? = some (i, .ref x)) (hi : (f : Nat) = i) (hd : decode cc pc = .ok (.aload_n f, 1)) (hq : pc + 1 = q) (k : mw p l e R s m args below meth c cells slots Q D ta ad n M q lv (.ref x :: st) S) : mw p l e R s m args below meth c cells slots Q D ta ad n M pc lv st S := fun H locs ls hP hS hl => by
  subst hq
  exact lv_aload_n cx.1 cx.2.1 hd hi (lv_at hl j hj) (k H locs ls hP hS hl)
theorem mw_aload (cx : Cx p s m args meth c D ta ad own cc n) {i : Nat} {x : Nat} (j : Nat) (hj : lv[j]? = some (i, .ref x)) (hd : decode cc pc = .ok (.aload i, 2)) (hq : pc + 2 = q) (k : mw p l e R s m args below meth c cells slots Q D ta ad n M q lv (.ref x :: st) S) : mw p l e R s m args below meth c cells slots Q D ta ad n M pc lv st S := fun H locs ls hP hS hl => by
  subst hq
  exact lv_aload cx.1 cx.2.1 hd (lv_at hl j hj) (k H locs ls hP hS hl)
theorem mw_istore_n (cx : Cx p s m args meth c D ta ad own cc n) {f : Fin 4} {i : Nat} {x : Int32} (hl2 : (i, Value.int x) :: lv.filter (fun q => !(q.1 == i) && !(q.1 + 1 == i && q.2.category == 2)) = lv') (hi : (f : Nat) = i) (hn : i < n) (hd : decode cc pc = .ok (.istore_n f, 1)) (hq : pc + 1 = q) (k : mw p l e R s m args below meth c cells slots Q D ta ad n M q lv' st S) : mw p l e R s m args below meth c cells slots Q D ta ad n M pc lv (.int x :: st) S := fun H locs ls hP hS hl => by
  subst hq
  exact lv_istore_n cx.1 cx.2.1 hd hi hl hn hl2 (fun ls hl => k H locs ls hP hS hl)
theorem mw_istore (cx : Cx p s m args meth c D ta ad own cc n) {i : Nat} {x : Int32} (hl2 : (i, Value.int x) :: lv.filter (fun q => !(q.1 == i) && !(q.1 + 1 == i && q.2.category == 2)) = lv') (hn : i < n) (hd : decode cc pc = .ok (.istore i, 2)) (hq : pc + 2 = q) (k : mw p l e R s m args below meth c cells slots Q D ta ad n M q lv' st S) : mw p l e R s m args below meth c cells slots Q D ta ad n M pc lv (.int x :: st) S := fun H locs ls hP hS hl => by
  subst hq
  exact lv_istore cx.1 cx.2.1 hd hl hn hl2 (fun ls hl => k H locs ls hP hS hl)
theorem mw_astore_n (cx : Cx p s m args meth c D ta ad own cc n) {f : Fin 4} {i : Nat} {x : Nat} (hl2 : (i, Value.ref x) :: lv.filter (fun q => !(q.1 == i) && !(q.1 + 1 == i && q.2.category == 2)) = lv') (hi : (f : Nat) = i) (hn : i < n) (hd : decode cc pc = .ok (.astore_n f, 1)) (hq : pc + 1 = q) (k : mw p l e R s m args below meth c cells slots Q D ta ad n M q lv' st S) : mw p l e R s m args below meth c cells slots Q D ta ad n M pc lv (.ref x :: st) S := fun H locs ls hP hS hl => by
  subst hq
  exact lv_astore_n cx.1 cx.2.1 hd hi hl hn hl2 (fun ls hl => k H locs ls hP hS hl)
theorem mw_astore (cx : Cx p s m args meth c D ta ad own cc n) {i : Nat} {x : Nat} (hl2 : (i, Value.ref x) :: lv.filter (fun q => !(q.1 == i) && !(q.1 + 1 == i && q.2.category == 2)) = lv') (hn : i < n) (hd : decode cc pc = .ok (.astore i, 2)) (hq : pc + 2 = q) (k : mw p l e R s m args below meth c cells slots Q D ta ad n M q lv' st S) : mw p l e R s m args below meth c cells slots Q D ta ad n M pc lv (.ref x :: st) S := fun H locs ls hP hS hl => by
  subst hq
  exact lv_astore cx.1 cx.2.1 hd hl hn hl2 (fun ls hl => k H locs ls hP hS hl)
theorem mw_iinc (cx : Cx p s m args meth c D ta ad own cc n) {i : Nat} {z : Int} {x v : Int32} (j : Nat) (hj : lv[j]? = some (i, .int x)) (hv : x + Int32.ofInt z = v) (hl2 : (i, Value.int v) :: lv.filter (fun q => !(q.1 == i) && !(q.1 + 1 == i && q.2.category == 2)) = lv') (hn : i < n) (hd : decode cc pc = .ok (.iinc i z, 3)) (hq : pc + 3 = q) (k : mw p l e R s m args below meth c cells slots Q D ta ad n M q lv' st S) : mw p l e R s m args below meth c cells slots Q D ta ad n M pc lv st S := fun H locs ls hP hS hl => by
  subst hq
  exact lv_iinc cx.1 cx.2.1 hd hl hj hv hn hl2 (fun ls hl => k H locs ls hP hS hl)
theorem mw_goto (cx : Cx p s m args meth c D ta ad own cc n) {off : Int} {tgt : Nat} (hd : decode cc pc = .ok (.goto off, 3)) (ht : (pc : Int) + off = (tgt : Int)) (k : mw p l e R s m args below meth c cells slots Q D ta ad n M tgt lv st S) : mw p l e R s m args below meth c cells slots Q D ta ad n M pc lv st S := fun H locs ls hP hS hl => lv_goto cx.1 cx.2.1 hd ht (k H locs ls hP hS hl)
theorem mw_if_eq (cx : Cx p s m args meth c D ta ad own cc n) {x : Int32} {off : Int} {tgt : Nat} (hd : decode cc pc = .ok (.ifCond .eq off, 3)) (ht : (pc : Int) + off = (tgt : Int)) (hq : pc + 3 = q) (kt : x = 0 → mw p l e R s m args below meth c cells slots Q D ta ad n M tgt lv st A) (kf : ¬ x = 0 → mw p l e R s m args below meth c cells slots Q D ta ad n M q lv st B) : mw p l e R s m args below meth c cells slots Q D ta ad n M pc lv (.int x :: st) (if x = 0 then A else B) := fun H locs ls hP hS hl => by
  subst hq
  exact lv_if_eq cx.1 cx.2.1 hd ht (fun h => by rw [if_pos h]; exact kt h H locs ls hP hS hl) (fun h => by rw [if_neg h]; exact kf h H locs ls hP hS hl)
theorem mw_if_eq_k (cx : Cx p s m args meth c D ta ad own cc n) {x : Int32} {off : Int} {tgt : Nat} (hd : decode cc pc = .ok (.ifCond .eq off, 3)) (ht : (pc : Int) + off = (tgt : Int)) (hq : pc + 3 = q) (kt : x = 0 → mw p l e R s m args below meth c cells slots Q D ta ad n M tgt lv st S) (kf : ¬ x = 0 → mw p l e R s m args below meth c cells slots Q D ta ad n M q lv st S) : mw p l e R s m args below meth c cells slots Q D ta ad n M pc lv (.int x :: st) S := fun H locs ls hP hS hl => by
  subst hq
  exact lv_if_eq cx.1 cx.2.1 hd ht (fun h => kt h H locs ls hP hS hl) (fun h => kf h H locs ls hP hS hl)
theorem mw_icmp_eq (cx : Cx p s m args meth c D ta ad own cc n) {x y : Int32} {off : Int} {tgt : Nat} (hd : decode cc pc = .ok (.if_icmp .eq off, 3)) (ht : (pc : Int) + off = (tgt : Int)) (hq : pc + 3 = q) (kt : x = y → mw p l e R s m args below meth c cells slots Q D ta ad n M tgt lv st A) (kf : ¬ x = y → mw p l e R s m args below meth c cells slots Q D ta ad n M q lv st B) : mw p l e R s m args below meth c cells slots Q D ta ad n M pc lv (.int y :: .int x :: st) (if x = y then A else B) := fun H locs ls hP hS hl => by
  subst hq
  exact lv_icmp_eq cx.1 cx.2.1 hd ht (fun h => by rw [if_pos h]; exact kt h H locs ls hP hS hl) (fun h => by rw [if_neg h]; exact kf h H locs ls hP hS hl)
theorem mw_icmp_eq_k (cx : Cx p s m args meth c D ta ad own cc n) {x y : Int32} {off : Int} {tgt : Nat} (hd : decode cc pc = .ok (.if_icmp .eq off, 3)) (ht : (pc : Int) + off = (tgt : Int)) (hq : pc + 3 = q) (kt : x = y → mw p l e R s m args below meth c cells slots Q D ta ad n M tgt lv st S) (kf : ¬ x = y → mw p l e R s m args below meth c cells slots Q D ta ad n M q lv st S) : mw p l e R s m args below meth c cells slots Q D ta ad n M pc lv (.int y :: .int x :: st) S := fun H locs ls hP hS hl => by
  subst hq
  exact lv_icmp_eq cx.1 cx.2.1 hd ht (fun h => kt h H locs ls hP hS hl) (fun h => kf h H locs ls hP hS hl)
theorem mw_if_ne (cx : Cx p s m args meth c D ta ad own cc n) {x : Int32} {off : Int} {tgt : Nat} (hd : decode cc pc = .ok (.ifCond .ne off, 3)) (ht : (pc : Int) + off = (tgt : Int)) (hq : pc + 3 = q) (kt : ¬ x = 0 → mw p l e R s m args below meth c cells slots Q D ta ad n M tgt lv st B) (kf : x = 0 → mw p l e R s m args below meth c cells slots Q D ta ad n M q lv st A) : mw p l e R s m args below meth c cells slots Q D ta ad n M pc lv (.int x :: st) (if x = 0 then A else B) := fun H locs ls hP hS hl => by
  subst hq
  exact lv_if_ne cx.1 cx.2.1 hd ht (fun h => by rw [if_neg h]; exact kt h H locs ls hP hS hl) (fun h => by rw [if_pos h]; exact kf h H locs ls hP hS hl)
theorem mw_if_ne_k (cx : Cx p s m args meth c D ta ad own cc n) {x : Int32} {off : Int} {tgt : Nat} (hd : decode cc pc = .ok (.ifCond .ne off, 3)) (ht : (pc : Int) + off = (tgt : Int)) (hq : pc + 3 = q) (kt : ¬ x = 0 → mw p l e R s m args below meth c cells slots Q D ta ad n M tgt lv st S) (kf : x = 0 → mw p l e R s m args below meth c cells slots Q D ta ad n M q lv st S) : mw p l e R s m args below meth c cells slots Q D ta ad n M pc lv (.int x :: st) S := fun H locs ls hP hS hl => by
  subst hq
  exact lv_if_ne cx.1 cx.2.1 hd ht (fun h => kt h H locs ls hP hS hl) (fun h => kf h H locs ls hP hS hl)
theorem mw_icmp_ne (cx : Cx p s m args meth c D ta ad own cc n) {x y : Int32} {off : Int} {tgt : Nat} (hd : decode cc pc = .ok (.if_icmp .ne off, 3)) (ht : (pc : Int) + off = (tgt : Int)) (hq : pc + 3 = q) (kt : ¬ x = y → mw p l e R s m args below meth c cells slots Q D ta ad n M tgt lv st B) (kf : x = y → mw p l e R s m args below meth c cells slots Q D ta ad n M q lv st A) : mw p l e R s m args below meth c cells slots Q D ta ad n M pc lv (.int y :: .int x :: st) (if x = y then A else B) := fun H locs ls hP hS hl => by
  subst hq
  exact lv_icmp_ne cx.1 cx.2.1 hd ht (fun h => by rw [if_neg h]; exact kt h H locs ls hP hS hl) (fun h => by rw [if_pos h]; exact kf h H locs ls hP hS hl)
theorem mw_icmp_ne_k (cx : Cx p s m args meth c D ta ad own cc n) {x y : Int32} {off : Int} {tgt : Nat} (hd : decode cc pc = .ok (.if_icmp .ne off, 3)) (ht : (pc : Int) + off = (tgt : Int)) (hq : pc + 3 = q) (kt : ¬ x = y → mw p l e R s m args below meth c cells slots Q D ta ad n M tgt lv st S) (kf : x = y → mw p l e R s m args below meth c cells slots Q D ta ad n M q lv st S) : mw p l e R s m args below meth c cells slots Q D ta ad n M pc lv (.int y :: .int x :: st) S := fun H locs ls hP hS hl => by
  subst hq
  exact lv_icmp_ne cx.1 cx.2.1 hd ht (fun h => kt h H locs ls hP hS hl) (fun h => kf h H locs ls hP hS hl)
theorem mw_if_lt (cx : Cx p s m args meth c D ta ad own cc n) {x : Int32} {off : Int} {tgt : Nat} (hd : decode cc pc = .ok (.ifCond .lt off, 3)) (ht : (pc : Int) + off = (tgt : Int)) (hq : pc + 3 = q) (kt : x < 0 → mw p l e R s m args below meth c cells slots Q D ta ad n M tgt lv st A) (kf : ¬ x < 0 → mw p l e R s m args below meth c cells slots Q D ta ad n M q lv st B) : mw p l e R s m args below meth c cells slots Q D ta ad n M pc lv (.int x :: st) (if x < 0 then A else B) := fun H locs ls hP hS hl => by
  subst hq
  exact lv_if_lt cx.1 cx.2.1 hd ht (fun h => by rw [if_pos h]; exact kt h H locs ls hP hS hl) (fun h => by rw [if_neg h]; exact kf h H locs ls hP hS hl)
theorem mw_if_lt_k (cx : Cx p s m args meth c D ta ad own cc n) {x : Int32} {off : Int} {tgt : Nat} (hd : decode cc pc = .ok (.ifCond .lt off, 3)) (ht : (pc : Int) + off = (tgt : Int)) (hq : pc + 3 = q) (kt : x < 0 → mw p l e R s m args below meth c cells slots Q D ta ad n M tgt lv st S) (kf : ¬ x < 0 → mw p l e R s m args below meth c cells slots Q D ta ad n M q lv st S) : mw p l e R s m args below meth c cells slots Q D ta ad n M pc lv (.int x :: st) S := fun H locs ls hP hS hl => by
  subst hq
  exact lv_if_lt cx.1 cx.2.1 hd ht (fun h => kt h H locs ls hP hS hl) (fun h => kf h H locs ls hP hS hl)
theorem mw_icmp_lt (cx : Cx p s m args meth c D ta ad own cc n) {x y : Int32} {off : Int} {tgt : Nat} (hd : decode cc pc = .ok (.if_icmp .lt off, 3)) (ht : (pc : Int) + off = (tgt : Int)) (hq : pc + 3 = q) (kt : x < y → mw p l e R s m args below meth c cells slots Q D ta ad n M tgt lv st A) (kf : ¬ x < y → mw p l e R s m args below meth c cells slots Q D ta ad n M q lv st B) : mw p l e R s m args below meth c cells slots Q D ta ad n M pc lv (.int y :: .int x :: st) (if x < y then A else B) := fun H locs ls hP hS hl => by
  subst hq
  exact lv_icmp_lt cx.1 cx.2.1 hd ht (fun h => by rw [if_pos h]; exact kt h H locs ls hP hS hl) (fun h => by rw [if_neg h]; exact kf h H locs ls hP hS hl)
theorem mw_icmp_lt_k (cx : Cx p s m args meth c D ta ad own cc n) {x y : Int32} {off : Int} {tgt : Nat} (hd : decode cc pc = .ok (.if_icmp .lt off, 3)) (ht : (pc : Int) + off = (tgt : Int)) (hq : pc + 3 = q) (kt : x < y → mw p l e R s m args below meth c cells slots Q D ta ad n M tgt lv st S) (kf : ¬ x < y → mw p l e R s m args below meth c cells slots Q D ta ad n M q lv st S) : mw p l e R s m args below meth c cells slots Q D ta ad n M pc lv (.int y :: .int x :: st) S := fun H locs ls hP hS hl => by
  subst hq
  exact lv_icmp_lt cx.1 cx.2.1 hd ht (fun h => kt h H locs ls hP hS hl) (fun h => kf h H locs ls hP hS hl)
theorem mw_if_ge (cx : Cx p s m args meth c D ta ad own cc n) {x : Int32} {off : Int} {tgt : Nat} (hd : decode cc pc = .ok (.ifCond .ge off, 3)) (ht : (pc : Int) + off = (tgt : Int)) (hq : pc + 3 = q) (kt : 0 ≤ x → mw p l e R s m args below meth c cells slots Q D ta ad n M tgt lv st A) (kf : ¬ 0 ≤ x → mw p l e R s m args below meth c cells slots Q D ta ad n M q lv st B) : mw p l e R s m args below meth c cells slots Q D ta ad n M pc lv (.int x :: st) (if 0 ≤ x then A else B) := fun H locs ls hP hS hl => by
  subst hq
  exact lv_if_ge cx.1 cx.2.1 hd ht (fun h => by rw [if_pos h]; exact kt h H locs ls hP hS hl) (fun h => by rw [if_neg h]; exact kf h H locs ls hP hS hl)
theorem mw_if_ge_k (cx : Cx p s m args meth c D ta ad own cc n) {x : Int32} {off : Int} {tgt : Nat} (hd : decode cc pc = .ok (.ifCond .ge off, 3)) (ht : (pc : Int) + off = (tgt : Int)) (hq : pc + 3 = q) (kt : 0 ≤ x → mw p l e R s m args below meth c cells slots Q D ta ad n M tgt lv st S) (kf : ¬ 0 ≤ x → mw p l e R s m args below meth c cells slots Q D ta ad n M q lv st S) : mw p l e R s m args below meth c cells slots Q D ta ad n M pc lv (.int x :: st) S := fun H locs ls hP hS hl => by
  subst hq
  exact lv_if_ge cx.1 cx.2.1 hd ht (fun h => kt h H locs ls hP hS hl) (fun h => kf h H locs ls hP hS hl)
theorem mw_icmp_ge (cx : Cx p s m args meth c D ta ad own cc n) {x y : Int32} {off : Int} {tgt : Nat} (hd : decode cc pc = .ok (.if_icmp .ge off, 3)) (ht : (pc : Int) + off = (tgt : Int)) (hq : pc + 3 = q) (kt : y ≤ x → mw p l e R s m args below meth c cells slots Q D ta ad n M tgt lv st A) (kf : ¬ y ≤ x → mw p l e R s m args below meth c cells slots Q D ta ad n M q lv st B) : mw p l e R s m args below meth c cells slots Q D ta ad n M pc lv (.int y :: .int x :: st) (if y ≤ x then A else B) := fun H locs ls hP hS hl => by
  subst hq
  exact lv_icmp_ge cx.1 cx.2.1 hd ht (fun h => by rw [if_pos h]; exact kt h H locs ls hP hS hl) (fun h => by rw [if_neg h]; exact kf h H locs ls hP hS hl)
theorem mw_icmp_ge_k (cx : Cx p s m args meth c D ta ad own cc n) {x y : Int32} {off : Int} {tgt : Nat} (hd : decode cc pc = .ok (.if_icmp .ge off, 3)) (ht : (pc : Int) + off = (tgt : Int)) (hq : pc + 3 = q) (kt : y ≤ x → mw p l e R s m args below meth c cells slots Q D ta ad n M tgt lv st S) (kf : ¬ y ≤ x → mw p l e R s m args below meth c cells slots Q D ta ad n M q lv st S) : mw p l e R s m args below meth c cells slots Q D ta ad n M pc lv (.int y :: .int x :: st) S := fun H locs ls hP hS hl => by
  subst hq
  exact lv_icmp_ge cx.1 cx.2.1 hd ht (fun h => kt h H locs ls hP hS hl) (fun h => kf h H locs ls hP hS hl)
theorem mw_if_gt (cx : Cx p s m args meth c D ta ad own cc n) {x : Int32} {off : Int} {tgt : Nat} (hd : decode cc pc = .ok (.ifCond .gt off, 3)) (ht : (pc : Int) + off = (tgt : Int)) (hq : pc + 3 = q) (kt : 0 < x → mw p l e R s m args below meth c cells slots Q D ta ad n M tgt lv st A) (kf : ¬ 0 < x → mw p l e R s m args below meth c cells slots Q D ta ad n M q lv st B) : mw p l e R s m args below meth c cells slots Q D ta ad n M pc lv (.int x :: st) (if 0 < x then A else B) := fun H locs ls hP hS hl => by
  subst hq
  exact lv_if_gt cx.1 cx.2.1 hd ht (fun h => by rw [if_pos h]; exact kt h H locs ls hP hS hl) (fun h => by rw [if_neg h]; exact kf h H locs ls hP hS hl)
theorem mw_if_gt_k (cx : Cx p s m args meth c D ta ad own cc n) {x : Int32} {off : Int} {tgt : Nat} (hd : decode cc pc = .ok (.ifCond .gt off, 3)) (ht : (pc : Int) + off = (tgt : Int)) (hq : pc + 3 = q) (kt : 0 < x → mw p l e R s m args below meth c cells slots Q D ta ad n M tgt lv st S) (kf : ¬ 0 < x → mw p l e R s m args below meth c cells slots Q D ta ad n M q lv st S) : mw p l e R s m args below meth c cells slots Q D ta ad n M pc lv (.int x :: st) S := fun H locs ls hP hS hl => by
  subst hq
  exact lv_if_gt cx.1 cx.2.1 hd ht (fun h => kt h H locs ls hP hS hl) (fun h => kf h H locs ls hP hS hl)
theorem mw_icmp_gt (cx : Cx p s m args meth c D ta ad own cc n) {x y : Int32} {off : Int} {tgt : Nat} (hd : decode cc pc = .ok (.if_icmp .gt off, 3)) (ht : (pc : Int) + off = (tgt : Int)) (hq : pc + 3 = q) (kt : y < x → mw p l e R s m args below meth c cells slots Q D ta ad n M tgt lv st A) (kf : ¬ y < x → mw p l e R s m args below meth c cells slots Q D ta ad n M q lv st B) : mw p l e R s m args below meth c cells slots Q D ta ad n M pc lv (.int y :: .int x :: st) (if y < x then A else B) := fun H locs ls hP hS hl => by
  subst hq
  exact lv_icmp_gt cx.1 cx.2.1 hd ht (fun h => by rw [if_pos h]; exact kt h H locs ls hP hS hl) (fun h => by rw [if_neg h]; exact kf h H locs ls hP hS hl)
theorem mw_icmp_gt_k (cx : Cx p s m args meth c D ta ad own cc n) {x y : Int32} {off : Int} {tgt : Nat} (hd : decode cc pc = .ok (.if_icmp .gt off, 3)) (ht : (pc : Int) + off = (tgt : Int)) (hq : pc + 3 = q) (kt : y < x → mw p l e R s m args below meth c cells slots Q D ta ad n M tgt lv st S) (kf : ¬ y < x → mw p l e R s m args below meth c cells slots Q D ta ad n M q lv st S) : mw p l e R s m args below meth c cells slots Q D ta ad n M pc lv (.int y :: .int x :: st) S := fun H locs ls hP hS hl => by
  subst hq
  exact lv_icmp_gt cx.1 cx.2.1 hd ht (fun h => kt h H locs ls hP hS hl) (fun h => kf h H locs ls hP hS hl)
theorem mw_if_le (cx : Cx p s m args meth c D ta ad own cc n) {x : Int32} {off : Int} {tgt : Nat} (hd : decode cc pc = .ok (.ifCond .le off, 3)) (ht : (pc : Int) + off = (tgt : Int)) (hq : pc + 3 = q) (kt : x ≤ 0 → mw p l e R s m args below meth c cells slots Q D ta ad n M tgt lv st A) (kf : ¬ x ≤ 0 → mw p l e R s m args below meth c cells slots Q D ta ad n M q lv st B) : mw p l e R s m args below meth c cells slots Q D ta ad n M pc lv (.int x :: st) (if x ≤ 0 then A else B) := fun H locs ls hP hS hl => by
  subst hq
  exact lv_if_le cx.1 cx.2.1 hd ht (fun h => by rw [if_pos h]; exact kt h H locs ls hP hS hl) (fun h => by rw [if_neg h]; exact kf h H locs ls hP hS hl)
theorem mw_if_le_k (cx : Cx p s m args meth c D ta ad own cc n) {x : Int32} {off : Int} {tgt : Nat} (hd : decode cc pc = .ok (.ifCond .le off, 3)) (ht : (pc : Int) + off = (tgt : Int)) (hq : pc + 3 = q) (kt : x ≤ 0 → mw p l e R s m args below meth c cells slots Q D ta ad n M tgt lv st S) (kf : ¬ x ≤ 0 → mw p l e R s m args below meth c cells slots Q D ta ad n M q lv st S) : mw p l e R s m args below meth c cells slots Q D ta ad n M pc lv (.int x :: st) S := fun H locs ls hP hS hl => by
  subst hq
  exact lv_if_le cx.1 cx.2.1 hd ht (fun h => kt h H locs ls hP hS hl) (fun h => kf h H locs ls hP hS hl)
theorem mw_icmp_le (cx : Cx p s m args meth c D ta ad own cc n) {x y : Int32} {off : Int} {tgt : Nat} (hd : decode cc pc = .ok (.if_icmp .le off, 3)) (ht : (pc : Int) + off = (tgt : Int)) (hq : pc + 3 = q) (kt : x ≤ y → mw p l e R s m args below meth c cells slots Q D ta ad n M tgt lv st A) (kf : ¬ x ≤ y → mw p l e R s m args below meth c cells slots Q D ta ad n M q lv st B) : mw p l e R s m args below meth c cells slots Q D ta ad n M pc lv (.int y :: .int x :: st) (if x ≤ y then A else B) := fun H locs ls hP hS hl => by
  subst hq
  exact lv_icmp_le cx.1 cx.2.1 hd ht (fun h => by rw [if_pos h]; exact kt h H locs ls hP hS hl) (fun h => by rw [if_neg h]; exact kf h H locs ls hP hS hl)
theorem mw_icmp_le_k (cx : Cx p s m args meth c D ta ad own cc n) {x y : Int32} {off : Int} {tgt : Nat} (hd : decode cc pc = .ok (.if_icmp .le off, 3)) (ht : (pc : Int) + off = (tgt : Int)) (hq : pc + 3 = q) (kt : x ≤ y → mw p l e R s m args below meth c cells slots Q D ta ad n M tgt lv st S) (kf : ¬ x ≤ y → mw p l e R s m args below meth c cells slots Q D ta ad n M q lv st S) : mw p l e R s m args below meth c cells slots Q D ta ad n M pc lv (.int y :: .int x :: st) S := fun H locs ls hP hS hl => by
  subst hq
  exact lv_icmp_le cx.1 cx.2.1 hd ht (fun h => kt h H locs ls hP hS hl) (fun h => kf h H locs ls hP hS hl)
theorem mw_ifnonnull (cx : Cx p s m args meth c D ta ad own cc n) {x : Nat} {off : Int} {tgt : Nat} (hd : decode cc pc = .ok (.ifnonnull off, 3)) (ht : (pc : Int) + off = (tgt : Int)) (k : mw p l e R s m args below meth c cells slots Q D ta ad n M tgt lv st S) : mw p l e R s m args below meth c cells slots Q D ta ad n M pc lv (.ref x :: st) S := fun H locs ls hP hS hl => lv_ifnonnull cx.1 cx.2.1 hd ht (k H locs ls hP hS hl)
theorem mw_ifnonnullN (cx : Cx p s m args meth c D ta ad own cc n) {off : Int} (hd : decode cc pc = .ok (.ifnonnull off, 3)) (hq : pc + 3 = q) (k : mw p l e R s m args below meth c cells slots Q D ta ad n M q lv st S) : mw p l e R s m args below meth c cells slots Q D ta ad n M pc lv (.null :: st) S := fun H locs ls hP hS hl => by
  subst hq
  exact lv_ifnonnullN cx.1 cx.2.1 hd (k H locs ls hP hS hl)
theorem mw_tableIn (cx : Cx p s m args meth c D ta ad own cc n) {dflt lo hi : Int} {offs : Array Int} {len : Nat} {x : Int32} {off : Int} {tgt : Nat} (hd : decode cc pc = .ok (.tableswitch dflt lo hi offs, len)) (h1 : ¬ x.toInt < lo) (h2 : ¬ hi < x.toInt) (ho : offs[(x.toInt - lo).toNat]? = some off) (ht : (pc : Int) + off = (tgt : Int)) (k : mw p l e R s m args below meth c cells slots Q D ta ad n M tgt lv st S) : mw p l e R s m args below meth c cells slots Q D ta ad n M pc lv (.int x :: st) S := fun H locs ls hP hS hl => lv_tableIn cx.1 cx.2.1 hd h1 h2 ho ht (k H locs ls hP hS hl)
theorem mw_tableOut (cx : Cx p s m args meth c D ta ad own cc n) {dflt lo hi : Int} {offs : Array Int} {len : Nat} {x : Int32} {tgt : Nat} (hd : decode cc pc = .ok (.tableswitch dflt lo hi offs, len)) (h : x.toInt < lo ∨ hi < x.toInt) (ht : (pc : Int) + dflt = (tgt : Int)) (k : mw p l e R s m args below meth c cells slots Q D ta ad n M tgt lv st S) : mw p l e R s m args below meth c cells slots Q D ta ad n M pc lv (.int x :: st) S := fun H locs ls hP hS hl => lv_tableOut cx.1 cx.2.1 hd h ht (k H locs ls hP hS hl)
theorem mw_lookup (cx : Cx p s m args meth c D ta ad own cc n) {dflt : Int} {ps : Array (Int × Int)} {len : Nat} {x : Int32} {off : Int} {tgt : Nat} (hd : decode cc pc = .ok (.lookupswitch dflt ps, len)) (hp : (ps.toList.zip (ps.toList.drop 1)).all (fun (a, next) => a.1 < next.1) = true) (ho : Op.lookupswitch.offset ps.toList dflt x.toInt = off) (ht : (pc : Int) + off = (tgt : Int)) (k : mw p l e R s m args below meth c cells slots Q D ta ad n M tgt lv st S) : mw p l e R s m args below meth c cells slots Q D ta ad n M pc lv (.int x :: st) S := fun H locs ls hP hS hl => lv_lookup cx.1 cx.2.1 hd hp ho ht (k H locs ls hP hS hl)
theorem mw_get (cx : Cx p s m args meth c D ta ad own cc n) {ix ci f k0 g : Nat} {i : Int32} {fs : List Value} {v : Value} (hf : GF own ix ci f) (he : wcell ta ad k0 g i (M k0 g i) = .inr (ci, fs)) (hv : fs[f]? = some v) (hi : vp_in i (wcnt k0 g)) (hd : decode cc pc = .ok (.getfield ix, 3)) (hq : pc + 3 = q) (k : mw p l e R s m args below meth c cells slots Q D ta ad n M q lv (v :: st) S) : mw p l e R s m args below meth c cells slots Q D ta ad n M pc lv (.ref (ad k0 g i) :: st) S := fun H locs ls hP hS hl => by
  subst hq
  obtain ⟨C, T, N, h1, h2, h3, h4⟩ := hf
  exact va_get cx.1 cx.2.1 cx.2.2.2.2.1 h1 cx.2.2.2.1 cx.2.2.2.2.2.1 (hP.one hi he) 0 rfl h2 f h3 (cx.2.2.2.2.1 _ h4) (fun _ h => h) hv hd (k H locs ls hP hS hl)
theorem mw_getN (cx : Cx p s m args meth c D ta ad own cc n) {ix ci f k0 g : Nat} {i : Int32} {fs : List Value} {v : Value} (hf : GFN own ix ci f) (he : wcell ta ad k0 g i (M k0 g i) = .inr (ci, fs)) (hv : fs[f]? = some v) (hi : vp_in i (wcnt k0 g)) (hd : decode cc pc = .ok (.getfield ix, 3)) (hq : pc + 3 = q) (k : mw p l e R s m args below meth c cells slots Q D ta ad n M q lv (v :: st) S) : mw p l e R s m args below meth c cells slots Q D ta ad n M pc lv (.ref (ad k0 g i) :: st) S := fun H locs ls hP hS hl => by
  subst hq
  obtain ⟨C, T, N, host, h1, h2, h3, h4⟩ := hf
  exact va_getN cx.1 cx.2.1 cx.2.2.2.2.1 h1 cx.2.2.2.1 cx.2.2.2.2.2.1 (hP.one hi he) 0 rfl h2 f h3 (va_Nw.use rfl (cx.2.2.2.2.2.2.2.1.2.2.2.2.2.2 _ h4)) (fun _ h => h) hv hd (k H locs ls hP hS hl)
theorem mw_put_aux (hI : wI ad) {k0 g : Nat} {i j x : Int32} {ci f : Nat} {fs : List Value} (hk0 : k0 ≠ 10) (he2 : wcell ta ad k0 g i (fI (M k0 g i) j x) = .inr (ci, fs.set f (.int x))) (hi : vp_in i (wcnt k0 g)) {H H1 : Heap} {locs1 : List Loc} (hP : wP D ta ad M H) (h1 : va_P D wcl ([(ad k0 g i, Sum.inr (ci, fs))].set 0 (ad k0 g i, .inr (ci, fs.set f (.int x)))) H1) (ho : ∀ q : Nat, q ≠ ad k0 g i → H1[q]? = H[q]?) : wP D ta ad (uW M k0 (u3 (M k0) g i j x)) H1 :=
  hP.set hI hi (by rw [he2]; exact h1 0 _ rfl) ho

theorem mw_put (cx : Cx p s m args meth c D ta ad own cc n) {ix ci f k0 g : Nat} {i x : Int32} {fs : List Value} {ty : FieldType} (j : Int32) (hf : GF own ix ci f) (hp : PF ci f ty) (hty : narrow ty (.int x) = .int x ∧ fits ty (.int x) = true) (he : wcell ta ad k0 g i (M k0 g i) = .inr (ci, fs)) (hl : f < fs.length) (he2 : wcell ta ad k0 g i (fI (M k0 g i) j x) = .inr (ci, fs.set f (.int x))) (hi : vp_in i (wcnt k0 g)) (hk0 : k0 ≠ 10) (hd : decode cc pc = .ok (.putfield ix, 3)) (hq : pc + 3 = q) (k : mw p l e R s m args below meth c cells slots Q D ta ad n (uW M k0 (u3 (M k0) g i j x)) q lv st S) : mw p l e R s m args below meth c cells slots Q D ta ad n M pc lv (.int x :: .ref (ad k0 g i) :: st) S := fun H locs ls hP hS hl2 => by
  subst hq
  obtain ⟨C, T, N, h1, h2, h3, h4⟩ := hf
  obtain ⟨C2, T2, N2, tyf, g1, g2, g3, g4, g5⟩ := hp
  cases h2.symm.trans g1
  have hK := cx.2.2.2.2.2.1
  have hap := va_apart (own := own) cx.2.2.2.2.1 h1 tyf g2 g3 hK h2
  obtain ⟨r, hr1, cell, q1, q2, q3, q4⟩ := (hP.one hi he) 0 _ rfl
  have hr : r = (C, T, N) := Option.some.inj (hr1.symm.trans h2)
  subst hr
  obtain ⟨hSl, hfc, kC, hkC, hkind⟩ := hK.1 ci _ h2
  obtain ⟨cf, kf, fi9, f9, hi9, hsl⟩ := hSl f h3
  have hlay := cx.2.2.2.2.1 _ (h1 _ (u_in_lay h3))
  unfold u_lay at hlay
  rw [if_neg (by rw [g4]; decide)] at hlay
  have hst := (u_facts hfc hkC (u_lays cx.2.2.2.2.1 h1 h3) hi9).1
  have h6 := u_store hfc hkC hkind hlay hi9 g5 hty.1 hty.2
  refine W.putK cx.1 cx.2.1 (f := f9) ⟨cx.2.2.2.1, cx.2.2.2.2.1 _ h4, ⟨_, _, _, hi9⟩, hst⟩ (by rw [q2]; exact h6) q1 q3 (by rw [hsl]; exact k2_hasslot (q4 f h3)) rfl rfl hd fun H' e1 e2 e3 => ?_
  rw [hsl] at e1 ⊢
  refine k H' _ ls (hP.set cx.2.2.2.2.2.2.1 hi ?_ e3) (hS.put e2 e3 ⟨k0, g, i, hk0, hi, rfl⟩) hl2
  rw [he2]
  exact ⟨_, h2, t_OB.to (V := updV (vp_V fs) f (.int x)) ⟨_, e1, q2, q3, t_set q4 hap h3 (.int x)⟩ (fun j _ => vp_updV_set hl (.int x) j)⟩
theorem mw_putN (cx : Cx p s m args meth c D ta ad own cc n) {ix ci f k0 g : Nat} {i x : Int32} {fs : List Value} {ty : FieldType} (j : Int32) (hf : GFN own ix ci f) (hp : PF ci f ty) (hty : narrow ty (.int x) = .int x ∧ fits ty (.int x) = true) (he : wcell ta ad k0 g i (M k0 g i) = .inr (ci, fs)) (hl : f < fs.length) (he2 : wcell ta ad k0 g i (fI (M k0 g i) j x) = .inr (ci, fs.set f (.int x))) (hi : vp_in i (wcnt k0 g)) (hk0 : k0 ≠ 10) (hd : decode cc pc = .ok (.putfield ix, 3)) (hq : pc + 3 = q) (k : mw p l e R s m args below meth c cells slots Q D ta ad n (uW M k0 (u3 (M k0) g i j x)) q lv st S) : mw p l e R s m args below meth c cells slots Q D ta ad n M pc lv (.int x :: .ref (ad k0 g i) :: st) S := fun H locs ls hP hS hl2 => by
  subst hq
  obtain ⟨C, T, N, host, h1, h2, h3, h4⟩ := hf
  obtain ⟨C2, T2, N2, tyf, g1, g2, g3, g4, g5⟩ := hp
  cases h2.symm.trans g1
  have hK := cx.2.2.2.2.2.1
  have hap := va_apart (own := own) cx.2.2.2.2.1 h1 tyf g2 g3 hK h2
  obtain ⟨r, hr1, cell, q1, q2, q3, q4⟩ := (hP.one hi he) 0 _ rfl
  have hr : r = (C, T, N) := Option.some.inj (hr1.symm.trans h2)
  subst hr
  obtain ⟨hSl, hfc, kC, hkC, hkind⟩ := hK.1 ci _ h2
  obtain ⟨cf, kf, fi9, f9, hi9, hsl⟩ := hSl f h3
  have hlay := cx.2.2.2.2.1 _ (h1 _ (u_in_lay h3))
  unfold u_lay at hlay
  rw [if_neg (by rw [g4]; decide)] at hlay
  have hst := (u_facts hfc hkC (u_lays cx.2.2.2.2.1 h1 h3) hi9).1
  have h6 := u_store hfc hkC hkind hlay hi9 g5 hty.1 hty.2
  refine va_WputK cx.1 cx.2.1 (f := f9) cx.2.2.2.1 (va_Nw.use rfl (cx.2.2.2.2.2.2.2.1.2.2.2.2.2.2 _ h4)) hi9 hst (by rw [q2]; exact h6) q1 q3 (by rw [hsl]; exact k2_hasslot (q4 f h3)) rfl rfl hd fun H' e1 e2 e3 => ?_
  rw [hsl] at e1 ⊢
  refine k H' _ ls (hP.set cx.2.2.2.2.2.2.1 hi ?_ e3) (hS.put e2 e3 ⟨k0, g, i, hk0, hi, rfl⟩) hl2
  rw [he2]
  exact ⟨_, h2, t_OB.to (V := updV (vp_V fs) f (.int x)) ⟨_, e1, q2, q3, t_set q4 hap h3 (.int x)⟩ (fun j _ => vp_updV_set hl (.int x) j)⟩
/-- rows of ints: of the type of place t in wtys -/
theorem mw_iald (cx : Cx p s m args meth c D ta ad own cc n) {k0 g N : Nat} {i j w : Int32} (hw : M k0 g i j = w) (he : ∀ f : Int32 → Int32, wcell ta ad k0 g i f = .inl (ta 0, N, .inl (fun j => f (nI j)))) (hi : vp_in i (wcnt k0 g)) (hin : vp_in j N) (hd : decode cc pc = .ok (.iaload, 1)) (hq : pc + 1 = q) (k : mw p l e R s m args below meth c cells slots Q D ta ad n M q lv (.int w :: st) S) : mw p l e R s m args below meth c cells slots Q D ta ad n M pc lv (.int j :: .ref (ad k0 g i) :: st) S := fun H locs ls hP hS hl => by
  subst hq; subst hw
  refine va_iald cx.1 cx.2.1 cx.2.2.2.2.2.1 (hP.one hi (he _)) 0 0 rfl rfl hin hd ?_
  rw [nI_tn hin]
  exact k H locs ls hP hS hl
theorem mw_ialdK (cx : Cx p s m args meth c D ta ad own cc n) {k0 g N : Nat} {i j v : Int32} {F : Nat → Int32} (he : wcell ta ad k0 g i (M k0 g i) = .inl (ta 0, N, .inl F)) (hv : F j.toNatClampNeg = v) (hi : vp_in i (wcnt k0 g)) (hin : vp_in j N) (hd : decode cc pc = .ok (.iaload, 1)) (hq : pc + 1 = q) (k : mw p l e R s m args below meth c cells slots Q D ta ad n M q lv (.int v :: st) S) : mw p l e R s m args below meth c cells slots Q D ta ad n M pc lv (.int j :: .ref (ad k0 g i) :: st) S := fun H locs ls hP hS hl => by
  subst hq; subst hv
  exact va_iald cx.1 cx.2.1 cx.2.2.2.2.2.1 (hP.one hi he) 0 0 rfl rfl hin hd (k H locs ls hP hS hl)
theorem mw_zald (cx : Cx p s m args meth c D ta ad own cc n) {k0 g N : Nat} {i j w : Int32} (hw : M k0 g i j = w) (he : ∀ f : Int32 → Int32, wcell ta ad k0 g i f = .inl (ta 1, N, .inl (fun j => f (nI j)))) (hi : vp_in i (wcnt k0 g)) (hin : vp_in j N) (hd : decode cc pc = .ok (.baload, 1)) (hq : pc + 1 = q) (k : mw p l e R s m args below meth c cells slots Q D ta ad n M q lv (.int w :: st) S) : mw p l e R s m args below meth c cells slots Q D ta ad n M pc lv (.int j :: .ref (ad k0 g i) :: st) S := fun H locs ls hP hS hl => by
  subst hq; subst hw
  refine va_zald cx.1 cx.2.1 cx.2.2.2.2.2.1 (hP.one hi (he _)) 0 1 rfl rfl hin hd ?_
  rw [nI_tn hin]
  exact k H locs ls hP hS hl
theorem mw_aald (cx : Cx p s m args meth c D ta ad own cc n) {k0 g N t k2 g2 : Nat} {i j : Int32} {ty : FieldType} (he : ∀ f : Int32 → Int32, wcell ta ad k0 g i f = .inl (ta t, N, .inr (.inr (.inr (.inr (fun j => some (ad k2 g2 (nI j)))))))) (ht : (wtys ta)[t]? = some (ta t, ty)) (hty : ty.isReference = true) (hi : vp_in i (wcnt k0 g)) (hin : vp_in j N) (hd : decode cc pc = .ok (.aaload, 1)) (hq : pc + 1 = q) (k : mw p l e R s m args below meth c cells slots Q D ta ad n M q lv (.ref (ad k2 g2 j) :: st) S) : mw p l e R s m args below meth c cells slots Q D ta ad n M pc lv (.int j :: .ref (ad k0 g i) :: st) S := fun H locs ls hP hS hl => by
  subst hq
  have hlt : j.toNatClampNeg < N := Nat.not_le.mp fun q => hin (Or.inr q)
  refine W.aald (v := .ref (ad k2 g2 j)) (ty := ty) cx.1 cx.2.1 ((hP.one hi (he _)) 0 _ rfl) ((cx.2.2.2.2.2.1.2 t _ ht).1 N (fun j => va_rf (some (ad k2 g2 (nI j))))) hty (fun q => by cases q) (by show ¬ (j < 0 ∨ (arrV _ _ _).slots.size ≤ _); rw [arrV_size]; exact hin) (by show (arrV _ _ _).slots[_]? = _; rw [arrV_read _ _ hlt]; show some (va_rf (some (ad k2 g2 (nI j.toNatClampNeg)))) = _; rw [nI_tn hin]; rfl) rfl rfl hd (k H locs ls hP hS hl)
theorem arrV_ext {c : ClassId} {N : Nat} {f g : Nat → Value} (h : ∀ j, j < N → f j = g j) : arrV c N f = arrV c N g := by
  unfold arrV
  congr 1
  apply Array.ext
  · simp
  · intro i h1 h2
    simp at h1
    simp [h i h1]
theorem mw_iast (cx : Cx p s m args meth c D ta ad own cc n) {k0 g N : Nat} {i j x : Int32} (he : ∀ f : Int32 → Int32, wcell ta ad k0 g i f = .inl (ta 0, N, .inl (fun j => f (nI j)))) (hN : N ≤ 2147483648) (hi : vp_in i (wcnt k0 g)) (hin : vp_in j N) (hk0 : k0 ≠ 10) (hd : decode cc pc = .ok (.iastore, 1)) (hq : pc + 1 = q) (k : mw p l e R s m args below meth c cells slots Q D ta ad n (uW M k0 (u3 (M k0) g i j x)) q lv st S) : mw p l e R s m args below meth c cells slots Q D ta ad n M pc lv (.int x :: .int j :: .ref (ad k0 g i) :: st) S := fun H locs ls hP hS hl => by
  subst hq
  refine W.iast cx.1 cx.2.1 ((hP.one hi (he _)) 0 _ rfl) ((cx.2.2.2.2.2.1.2 0 _ rfl).1 N (fun j => .int (M k0 g i (nI j)))) (fun q => by cases q) (by show ¬ (j < 0 ∨ (arrV _ _ _).slots.size ≤ _); rw [arrV_size]; exact hin) rfl rfl hd fun H1 e z oq => ?_
  refine k H1 _ ls (hP.set cx.2.2.2.2.2.2.1 hi ?_ oq) (hS.put z oq ⟨k0, g, i, hk0, hi, rfl⟩) hl
  rw [he]
  show H1[ad k0 g i]? = some (arrV _ N (fun j2 => .int (fI (M k0 g i) j x (nI j2))))
  rw [e]
  show some ((arrV _ _ _).setSlot _ _) = _
  rw [arrV_store]
  refine congrArg some (arrV_ext fun w hw => ?_)
  by_cases h : nI w = j
  · simp [updV, fI, h, (nI_ij hin hw hN).mpr h, nI_tn hin]
  · simp [updV, fI, h, show ¬ w = j.toNatClampNeg from fun z => h ((nI_ij hin hw hN).mp z)]
theorem mw_zast (cx : Cx p s m args meth c D ta ad own cc n) {k0 g N : Nat} {i j x : Int32} (he : ∀ f : Int32 → Int32, wcell ta ad k0 g i f = .inl (ta 1, N, .inl (fun j => f (nI j)))) (hN : N ≤ 2147483648) (hi : vp_in i (wcnt k0 g)) (hin : vp_in j N) (hk0 : k0 ≠ 10) (hx : narrow .boolean (.int x) = .int x) (hd : decode cc pc = .ok (.bastore, 1)) (hq : pc + 1 = q) (k : mw p l e R s m args below meth c cells slots Q D ta ad n (uW M k0 (u3 (M k0) g i j x)) q lv st S) : mw p l e R s m args below meth c cells slots Q D ta ad n M pc lv (.int x :: .int j :: .ref (ad k0 g i) :: st) S := fun H locs ls hP hS hl => by
  subst hq
  refine W.zast cx.1 cx.2.1 ((hP.one hi (he _)) 0 _ rfl) ((cx.2.2.2.2.2.1.2 1 _ rfl).1 N (fun j => .int (M k0 g i (nI j)))) (fun q => by cases q) (by show ¬ (j < 0 ∨ (arrV _ _ _).slots.size ≤ _); rw [arrV_size]; exact hin) rfl rfl hd fun H1 e z oq => ?_
  rw [hx] at e
  refine k H1 _ ls (hP.set cx.2.2.2.2.2.2.1 hi ?_ oq) (hS.put z oq ⟨k0, g, i, hk0, hi, rfl⟩) hl
  rw [he]
  show H1[ad k0 g i]? = some (arrV _ N (fun j2 => .int (fI (M k0 g i) j x (nI j2))))
  rw [e]
  show some ((arrV _ _ _).setSlot _ _) = _
  rw [arrV_store]
  refine congrArg some (arrV_ext fun w hw => ?_)
  by_cases h : nI w = j
  · simp [updV, fI, h, (nI_ij hin hw hN).mpr h, nI_tn hin]
  · simp [updV, fI, h, show ¬ w = j.toNatClampNeg from fun z => h ((nI_ij hin hw hN).mp z)]
/-- ends -/
theorem mw_iret (cx : Cx p s m args meth c D ta ad own cc n) {fin : σ → Option Value × Wm} {x : Int32} (hr : meth.sig.returnType = some .int) (hz : fin S = (some (.int x), M)) (hd : decode cc pc = .ok (.ireturn, 1)) : mw p l e R s m args below meth c cells slots (fun S => MQ below (mQ D ta ad (fin S)) args s cells slots (wA ad)) D ta ad n M pc lv [.int x] S := fun H locs ls hP hS hl => by
  have hlocks := cx.2.2.2.2.2.2.2.2
  exact W.iret cx.1 cx.2.1 hr (fun t ht hW => ⟨by rw [hz]; exact ⟨rfl, by rw [ht]; exact hP⟩, hS.F ht⟩) hS.2.2 hd
theorem mw_zret (cx : Cx p s m args meth c D ta ad own cc n) {fin : σ → Option Value × Wm} {x : Int32} {ty : FieldType} (hr : meth.sig.returnType = some ty) (hn : narrow ty (.int x) = .int x) (hz : fin S = (some (.int x), M)) (hd : decode cc pc = .ok (.ireturn, 1)) : mw p l e R s m args below meth c cells slots (fun S => MQ below (mQ D ta ad (fin S)) args s cells slots (wA ad)) D ta ad n M pc lv [.int x] S := fun H locs ls hP hS hl => by
  have hlocks := cx.2.2.2.2.2.2.2.2
  exact W.zret cx.1 cx.2.1 hr hn (fun t ht hW => ⟨by rw [hz]; exact ⟨rfl, by rw [ht]; exact hP⟩, hS.F ht⟩) hS.2.2 hd
theorem mw_vret (cx : Cx p s m args meth c D ta ad own cc n) {fin : σ → Option Value × Wm} (hr : meth.sig.returnType = none) (hz : fin S = (none, M)) (hd : decode cc pc = .ok (.return_, 1)) : mw p l e R s m args below meth c cells slots (fun S => MQ below (mQ D ta ad (fin S)) args s cells slots (wA ad)) D ta ad n M pc lv [] S := fun H locs ls hP hS hl => by
  have hlocks := cx.2.2.2.2.2.2.2.2
  exact W.vret cx.1 cx.2.1 hr (fun t ht hW => ⟨by rw [hz]; exact ⟨rfl, by rw [ht]; exact hP⟩, hS.F ht⟩) hS.2.2 hd
theorem mw_aret (cx : Cx p s m args meth c D ta ad own cc n) {fin : σ → Option Value × Wm} {v : Value} {rt : FieldType} (hr : meth.sig.returnType = some rt) (hrt : (∃ n, rt = .object n) ∨ ∃ t, rt = .array t) (hv : v = .null ∨ ∃ a, v = .ref a) (hz : fin S = (some v, M)) (hd : decode cc pc = .ok (.areturn, 1)) : mw p l e R s m args below meth c cells slots (fun S => MQ below (mQ D ta ad (fin S)) args s cells slots (wA ad)) D ta ad n M pc lv [v] S := fun H locs ls hP hS hl => by
  have hlocks := cx.2.2.2.2.2.2.2.2
  exact W.aret cx.1 cx.2.1 hr hrt hv (fun t ht hW => ⟨by rw [hz]; exact ⟨rfl, by rw [ht]; exact hP⟩, hS.F ht⟩) hS.2.2 hd
/-- the start of a method -/
theorem MC.of {y : MethodName} {ret : Option FieldType} {d : Nat} {avs : List Value} {M : Wm} {z : Option Value × Wm} (fin : σ → Option Value × Wm) (S : σ) (hz : fin S = z) (hy : plainName y.cls = true) (hn : (lg_sl avs).length ≤ n)
    (body : ∀ (p : Program) (e : Env) (s : State) (m : MethodId) (args : Array Value) (below : List Frame) (meth : Method) (c : Code), Cx p s m args meth c D ta ad y.cls cc n → meth.sig.returnType = ret → mw p l e (rmd d) s m args below meth c 0 0 (fun S => MQ below (mQ D ta ad (fin S)) args s 0 0 (wA ad)) D ta ad n M 0 (lv_args 0 avs) [] S) : MC l D ta ad y cc n ret d avs M z := by
  subst hz
  refine Met.ofW (cc := cc) (maxL := n) (ret := ret) hy rfl ?_
  intro p e s m args below meth c s₁ B hml hv
  obtain ⟨rfl, hP, hK, hI, hSt⟩ := hv
  have hts := atoms_spec (ws := .code y cc n ret :: BG) B.pre
  have hown : s.vm.findClass y.cls = some m.cls := findClass_of_methodNamed B.named
  have hl := lv_entry avs (n := n) hn
  rw [lg_entry_eq]
  exact body p e s m avs.toArray below meth c ⟨B.exec, B.bytes, hml, hown, fun w h => hts w (List.mem_cons_of_mem _ h), hK, hI, hSt, B.notSynchronized⟩ B.returns s.heap [] _ hP va_S.rf hl
theorem BG_codes {y : MethodName} {cc : ByteArray} {n : Nat} {ret : Option FieldType} (h : Cond.code y cc n ret ∈ BG) : GoodIn BG (.code y cc n ret :: BG) := fun w hw => (List.mem_cons.mp hw).elim (fun e => e ▸ BG_good _ h) (BG_good w)
theorem Pc_blind {avs : List Value} : FrameBlind (va_Pc avs (fun U => wP D ta ad M U.heap ∧ va_K D wcl (wtys ta) U ∧ wI ad ∧ wSt ad U U.heap)) := fun a U g mk q => by
  obtain ⟨q0, qP, qK, qI, qS⟩ := q
  exact ⟨q0, qP, va_K.moved (u := U) (U := U.calling g mk a) (Vm.Alike.refl U.vm) qK, qI, wSt.same (u := U) (U := U.calling g mk a) rfl qS⟩
theorem Pc_at (cx : Cx p s m args meth c D ta ad own cc n) {avs : List Value} {H : Heap} {locs : List Loc} (hP : wP D ta ad M H) (hS : va_S (wA ad) s.heap H locs) : ∀ U : State, U.heap = H → s.WarmedH U.vm → va_Pc avs (fun U => wP D ta ad M U.heap ∧ va_K D wcl (wtys ta) U ∧ wI ad ∧ wSt ad U U.heap) avs.toArray U := fun U hU hW => ⟨rfl, by rw [hU]; exact hP, va_K.moved hW.alike cx.2.2.2.2.2.1, cx.2.2.2.2.2.2.1, (wSt.kept cx.2.2.2.2.2.2.2.1 (H1 := U.heap) (fun a h1 h2 => by rw [hU]; exact hS.2.1 a h1 h2)).warm hW⟩
theorem mw_run {H : Heap} {locs : List Loc} {ls : Array Slot} {z : Option Value × Wm} {avs : Array Value} {st0 : List Value} (hr : va_Run p l e R s m args below meth c H locs cells slots 0 0 (F0 m pc ls st0) st (mQ D ta ad z avs) (wA ad)) (hS : va_S (wA ad) s.heap H locs) (hl : lv_has ls n lv) (k : mw p l e R s m args below meth c cells slots Q D ta ad n z.2 (pc + 3) lv (z.1.toList ++ st) S) : W p l e R s m args below meth c H locs cells slots (Q S) (F0 m pc ls st0) := by
  intro T hT X
  obtain ⟨v, st₀, t, T', L, h0, X', hL, e1, e2, ⟨⟨hv, hb⟩, hz, hk⟩, stp⟩ := hr T hT X
  cases hv
  rw [h0] at hz hk
  obtain ⟨t2, a1, b1⟩ := k T'.heap (locs ++ L) ls (by rw [e1]; exact hb) ⟨Nat.le_trans hS.1 (by rw [e1]; exact hz), fun q h1 h2 => by rw [e1, hk q (Nat.lt_of_lt_of_le h1 hS.1) h2]; exact hS.2.1 q h1 h2, fun q hq => by
      rcases List.mem_append.mp hq with h | h
      · exact hS.2.2 q h
      · exact hL q h⟩ hl T' rfl X'
  exact ⟨t2, stp t2 a1, b1⟩
theorem mw_callV (cx : Cx p s m args meth c D ta ad own cc n) {y : MethodName} {C : String} {cy : ByteArray} {ny d ix k0 g ci : Nat} {ret : Option FieldType} {i : Int32} {fs As : List Value} {r : vw_C} {z : Option Value × Wm} {st0 : List Value} (hM : MC l D ta ad y cy ny ret d (.ref (ad k0 g i) :: As) M z) (hw : CV own ix y C cy ny ret As.length) (he : wcell ta ad k0 g i (M k0 g i) = .inr (ci, fs)) (hc : wcl[ci]? = some r) (hrC : r.1 = C) (hi : vp_in i (wcnt k0 g)) (hR : d + 1 ≤ R.frames ∧ 8 + (ny + 11) + 40 * d ≤ R.locals) (hcs : cells ≤ R.cells ∧ slots ≤ R.slots) (h8 : (st.map fun v => v.category).sum ≤ 8) (hst : st0 = As.reverse ++ .ref (ad k0 g i) :: st) {st1 : List Value} {M' : Wm} (hz1 : z.1.toList ++ st = st1) (hz2 : z.2 = M') (hd : decode cc pc = .ok (.invokevirtual ix, 3)) (hq : pc + 3 = q) (k : mw p l e R s m args below meth c cells slots Q D ta ad n M' q lv st1 S) : mw p l e R s m args below meth c cells slots Q D ta ad n M pc lv st0 S := fun H locs ls hP hS hl => by
  subst hq; subst hrC; subst hz1; subst hz2
  obtain ⟨⟨w1, w2, w3, w4, w5⟩, hd4⟩ := hw
  have hG : GoodIn BG (wsV own ix r.1 y (.code y cy ny ret :: BG)) := fun w h => by
    unfold wsV at h
    rcases List.mem_append.mp h with h | h
    · simp only [List.mem_cons, List.not_mem_nil, or_false] at h
      rcases h with rfl | rfl | rfl | rfl
      · exact BG_good _ w1
      · exact BG_good _ w2
      · exact BG_good _ w3
      · exact BG_good _ w4
    · exact BG_codes w5 w h
  have hrun := va_runV (l := l) (e := e) (R := R) (below := below) (meth := meth) (locs := locs) (cells := cells) (slots := slots) (As := As) (rest := st) (C := r.1) (b := ad k0 g i) (g := F0 m pc ls st0) ⟨cx.1, cx.2.1, cx.2.2.1, cx.2.2.2.1, cx.2.2.2.2.1⟩ hM (cwV As.length cx.2.2.2.2.1 hG rfl rfl rfl hd4 hR) ⟨Pc_blind, va_recv cx.2.2.2.2.2.1 (hP.one hi he) hc (q0 := 0) rfl, Pc_at cx hP hS⟩ rfl rfl hl.1 hst (by show 2 * 0 + _ ≤ 8; omega) hd ⟨hcs.1, hcs.2⟩
  exact mw_run hrun hS hl k
theorem mw_callS (cx : Cx p s m args meth c D ta ad own cc n) {y : MethodName} {cy : ByteArray} {ny d ix : Nat} {ret : Option FieldType} {As : List Value} {z : Option Value × Wm} {st0 : List Value} (hM : MC l D ta ad y cy ny ret d As M z) (hw : CS own ix y cy ny ret As.length) (hR : d + 1 ≤ R.frames ∧ 8 + (ny + 11) + 40 * d ≤ R.locals) (hcs : cells ≤ R.cells ∧ slots ≤ R.slots) (h8 : (st.map fun v => v.category).sum ≤ 8) (hst : st0 = As.reverse ++ st) {st1 : List Value} {M' : Wm} (hz1 : z.1.toList ++ st = st1) (hz2 : z.2 = M') (hd : decode cc pc = .ok (.invokestatic ix, 3)) (hq : pc + 3 = q) (k : mw p l e R s m args below meth c cells slots Q D ta ad n M' q lv st1 S) : mw p l e R s m args below meth c cells slots Q D ta ad n M pc lv st0 S := fun H locs ls hP hS hl => by
  subst hq; subst hz1; subst hz2
  obtain ⟨⟨w1, w2, w4, w5⟩, hd4⟩ := hw
  have hG : GoodIn BG (va_wsS own ix y (.code y cy ny ret :: BG)) := fun w h => by
    unfold va_wsS at h
    rcases List.mem_append.mp h with h | h
    · simp only [List.mem_cons, List.not_mem_nil, or_false] at h
      rcases h with rfl | rfl | rfl
      · exact BG_good _ w1
      · exact BG_good _ w2
      · exact BG_good _ w4
    · exact BG_codes w5 w h
  have hrun := va_runS (l := l) (e := e) (R := R) (below := below) (meth := meth) (locs := locs) (cells := cells) (slots := slots) (As := As) (rest := st) (g := F0 m pc ls st0) ⟨cx.1, cx.2.1, cx.2.2.1, cx.2.2.2.1, cx.2.2.2.2.1⟩ hM (va_cwS As.length cx.2.2.2.2.1 hG rfl rfl rfl hd4 hR) ⟨Pc_blind, Pc_at cx hP hS⟩ rfl rfl hl.1 hst (by show 2 * 0 + _ ≤ 8; omega) hd ⟨hcs.1, hcs.2⟩
  exact mw_run hrun hS hl k
theorem mw_callSN (cx : Cx p s m args meth c D ta ad own cc n) {y : MethodName} {cy : ByteArray} {ny d ix : Nat} {ret : Option FieldType} {As : List Value} {z : Option Value × Wm} {st0 : List Value} (hM : MC l D ta ad y cy ny ret d As M z) (hw : CSN own ix y cy ny ret As.length) (hR : d + 1 ≤ R.frames ∧ 8 + (ny + 11) + 40 * d ≤ R.locals) (hcs : cells ≤ R.cells ∧ slots ≤ R.slots) (h8 : (st.map fun v => v.category).sum ≤ 8) (hst : st0 = As.reverse ++ st) {st1 : List Value} {M' : Wm} (hz1 : z.1.toList ++ st = st1) (hz2 : z.2 = M') (hd : decode cc pc = .ok (.invokestatic ix, 3)) (hq : pc + 3 = q) (k : mw p l e R s m args below meth c cells slots Q D ta ad n M' q lv st1 S) : mw p l e R s m args below meth c cells slots Q D ta ad n M pc lv st0 S := fun H locs ls hP hS hl => by
  subst hq; subst hz1; subst hz2
  obtain ⟨⟨host, w1⟩, w2, w4, w5, hd4⟩ := hw
  have hts := cx.2.2.2.2.1
  have hrun := va_runSN (l := l) (e := e) (R := R) (below := below) (meth := meth) (locs := locs) (cells := cells) (slots := slots) (As := As) (rest := st) (g := F0 m pc ls st0) ⟨cx.1, cx.2.1, cx.2.2.1, cx.2.2.2.1, hts⟩ hM ⟨va_cnB As.length hts (BG_codes w5) rfl rfl rfl (cx.2.2.2.2.2.2.2.1.2.2.2.2.2.2 _ w1) (hts _ w4) hd4 hR, hts _ w2, trivial⟩ ⟨Pc_blind, Pc_at cx hP hS⟩ rfl rfl hl.1 hst (by show 2 * 0 + _ ≤ 8; omega) hd ⟨hcs.1, hcs.2⟩
  exact mw_run hrun hS hl k
def mnI (x y : Int32) : Int32 := if y < x then y else x
def mxI (x y : Int32) : Int32 := if x < y then y else x
theorem mw_min (cx : Cx p s m args meth c D ta ad own cc n) {x y : Int32} {ix : Nat} (hw : MMw own ix Lib.Math.min.name Lib.Math.min.code) (hR : 1 ≤ R.frames ∧ 21 ≤ R.locals) (hcs : cells ≤ R.cells ∧ slots ≤ R.slots) (h8 : (st.map fun v => v.category).sum ≤ 8) (hd : decode cc pc = .ok (.invokestatic ix, 3)) (hq : pc + 3 = q) (k : mw p l e R s m args below meth c cells slots Q D ta ad n M q lv (.int (mnI x y) :: st) S) : mw p l e R s m args below meth c cells slots Q D ta ad n M pc lv (.int y :: .int x :: st) S := fun H locs ls hP hS hl => by
  subst hq
  obtain ⟨w1, w2, w3, w4⟩ := hw
  have hts := cx.2.2.2.2.1
  exact va_mmin cx.1 cx.2.1 (cx.2.2.1.trans hl.1.symm) cx.2.2.2.1 (hts _ w1) (hts _ w2) (hts _ w3) (hts _ w4) hR.1 (by omega) hcs.1 hcs.2 hd (k H locs ls hP hS hl)
theorem mw_max (cx : Cx p s m args meth c D ta ad own cc n) {x y : Int32} {ix : Nat} (hw : MMw own ix Lib.Math.max.name Lib.Math.max.code) (hR : 1 ≤ R.frames ∧ 21 ≤ R.locals) (hcs : cells ≤ R.cells ∧ slots ≤ R.slots) (h8 : (st.map fun v => v.category).sum ≤ 8) (hd : decode cc pc = .ok (.invokestatic ix, 3)) (hq : pc + 3 = q) (k : mw p l e R s m args below meth c cells slots Q D ta ad n M q lv (.int (mxI x y) :: st) S) : mw p l e R s m args below meth c cells slots Q D ta ad n M pc lv (.int y :: .int x :: st) S := fun H locs ls hP hS hl => by
  subst hq
  obtain ⟨w1, w2, w3, w4⟩ := hw
  have hts := cx.2.2.2.2.1
  exact va_mmax cx.1 cx.2.1 (cx.2.2.1.trans hl.1.symm) cx.2.2.2.1 (hts _ w1) (hts _ w2) (hts _ w3) (hts _ w4) hR.1 (by omega) hcs.1 hcs.2 hd (k H locs ls hP hS hl)
/-- names for what is computed: both in the machine and in the spec -/
theorem mw_bndT {x : Int32} {K : Int32 → σ} (k : ∀ v : Int32, v = x → mw p l e R s m args below meth c cells slots Q D ta ad n M pc lv (.int v :: st) (K v)) : mw p l e R s m args below meth c cells slots Q D ta ad n M pc lv (.int x :: st) (bnd x K) := k x rfl
theorem uW_self (M : Wm) (k : Nat) : M = uW M k (M k) := by
  funext c2
  unfold uW
  by_cases h : c2 = k
  · rw [if_pos h, h]
  · rw [if_neg h]
theorem uW_uW (M : Wm) (k : Nat) (a b : Cm) : uW (uW M k a) k b = uW M k b := by
  funext c2
  unfold uW
  by_cases h : c2 = k
  · rw [if_pos h, if_pos h]
  · rw [if_neg h, if_neg h, if_neg h]
theorem uW_at (M : Wm) (k : Nat) (a : Cm) : uW M k a k = a := by unfold uW; rw [if_pos rfl]
theorem uW_ne (M : Wm) {k k2 : Nat} (a : Cm) (h : k2 ≠ k) : uW M k a k2 = M k2 := by unfold uW; rw [if_neg h]
theorem uW_st (M : Wm) (k : Nat) (m : Cm) (g : Nat) (i j x : Int32) : uW (uW M k m) k (u3 ((uW M k m) k) g i j x) = uW M k (u3 m g i j x) := by rw [uW_uW, uW_at]
theorem mw_jn {α : Type} {K : α → σ} {T : (α → σ) → σ} (Mj : α → Wm) (pj : Nat) (lj : α → List (Nat × Value)) (sj : α → List Value) (hJ : ∀ v : α, mw p l e R s m args below meth c cells slots Q D ta ad n (Mj v) pj (lj v) (sj v) (K v)) (hT : ∀ K' : α → σ, (∀ v : α, mw p l e R s m args below meth c cells slots Q D ta ad n (Mj v) pj (lj v) (sj v) (K' v)) → mw p l e R s m args below meth c cells slots Q D ta ad n M pc lv st (T K')) : mw p l e R s m args below meth c cells slots Q D ta ad n M pc lv st (jn K T) := hT K hJ
theorem mw_loop {X : Type} (F : Nat → X → σ) (I : X → Prop) (μ : X → Nat) (Mx : X → Wm) (px : Nat) (lx : X → List (Nat × Value)) (hs : ∀ (k : Nat) (x : X), I x → (∀ y : X, I y → μ y < μ x → mw p l e R s m args below meth c cells slots Q D ta ad n (Mx y) px (lx y) [] (F k y)) → mw p l e R s m args below meth c cells slots Q D ta ad n (Mx x) px (lx x) [] (F (k + 1) x)) : ∀ (k : Nat) (x : X), I x → μ x < k → mw p l e R s m args below meth c cells slots Q D ta ad n (Mx x) px (lx x) [] (F k x) := by
  intro k
  induction k with
  | zero => intro x _ h; exact absurd h (Nat.not_lt_zero _)
  | succ k ih => intro x hI hm; exact hs k x hI (fun y hy hlt => ih y hy (by omega))
theorem mw_ifb_eq (cx : Cx p s m args meth c D ta ad own cc n) {x : Bool} {off : Int} {tgt : Nat} (hd : decode cc pc = .ok (.ifCond .eq off, 3)) (ht : (pc : Int) + off = (tgt : Int)) (hq : pc + 3 = q) (kt : x = false → mw p l e R s m args below meth c cells slots Q D ta ad n M tgt lv st B) (kf : x = true → mw p l e R s m args below meth c cells slots Q D ta ad n M q lv st A) : mw p l e R s m args below meth c cells slots Q D ta ad n M pc lv (.int (b2i x) :: st) (if x = true then A else B) := mw_if_eq_k cx hd ht hq (fun h => by cases x with | false => exact kt rfl | true => exact absurd h (by decide)) (fun h => by cases x with | true => exact kf rfl | false => exact absurd rfl h)
theorem mw_ifb_ne (cx : Cx p s m args meth c D ta ad own cc n) {x : Bool} {off : Int} {tgt : Nat} (hd : decode cc pc = .ok (.ifCond .ne off, 3)) (ht : (pc : Int) + off = (tgt : Int)) (hq : pc + 3 = q) (kt : x = true → mw p l e R s m args below meth c cells slots Q D ta ad n M tgt lv st A) (kf : x = false → mw p l e R s m args below meth c cells slots Q D ta ad n M q lv st B) : mw p l e R s m args below meth c cells slots Q D ta ad n M pc lv (.int (b2i x) :: st) (if x = true then A else B) := mw_if_ne_k cx hd ht hq (fun h => by cases x with | true => exact kt rfl | false => exact absurd rfl h) (fun h => by cases x with | false => exact kf rfl | true => exact absurd h (by decide))
theorem mw_iastC (cx : Cx p s m args meth c D ta ad own cc n) {k0 g N : Nat} {i j x : Int32} {m0 : Cm} {K : Cm → σ} (he : ∀ f : Int32 → Int32, wcell ta ad k0 g i f = .inl (ta 0, N, .inl (fun j => f (nI j)))) (hN : N ≤ 2147483648) (hi : vp_in i (wcnt k0 g)) (hin : vp_in j N) (hk0 : k0 ≠ 10) (hd : decode cc pc = .ok (.iastore, 1)) (hq : pc + 1 = q) (k : ∀ m' : Cm, m' = u3 m0 g i j x → mw p l e R s m args below meth c cells slots Q D ta ad n (uW M k0 m') q lv st (K m')) : mw p l e R s m args below meth c cells slots Q D ta ad n (uW M k0 m0) pc lv (.int x :: .int j :: .ref (ad k0 g i) :: st) (bnd (u3 m0 g i j x) K) := mw_iast cx he hN hi hin hk0 hd hq (mw_eqM (uW_st M k0 m0 g i j x) (k _ rfl))
theorem mw_iastW (cx : Cx p s m args meth c D ta ad own cc n) {k0 g N : Nat} {i j x : Int32} {K : Wm → σ} (he : ∀ f : Int32 → Int32, wcell ta ad k0 g i f = .inl (ta 0, N, .inl (fun j => f (nI j)))) (hN : N ≤ 2147483648) (hi : vp_in i (wcnt k0 g)) (hin : vp_in j N) (hk0 : k0 ≠ 10) (hd : decode cc pc = .ok (.iastore, 1)) (hq : pc + 1 = q) (k : ∀ M' : Wm, M' = uW M k0 (u3 (M k0) g i j x) → mw p l e R s m args below meth c cells slots Q D ta ad n M' q lv st (K M')) : mw p l e R s m args below meth c cells slots Q D ta ad n M pc lv (.int x :: .int j :: .ref (ad k0 g i) :: st) (bnd (uW M k0 (u3 (M k0) g i j x)) K) := mw_iast cx he hN hi hin hk0 hd hq (k _ rfl)
theorem mw_zastC (cx : Cx p s m args meth c D ta ad own cc n) {k0 g N : Nat} {i j x : Int32} {m0 : Cm} {K : Cm → σ} (he : ∀ f : Int32 → Int32, wcell ta ad k0 g i f = .inl (ta 1, N, .inl (fun j => f (nI j)))) (hN : N ≤ 2147483648) (hi : vp_in i (wcnt k0 g)) (hin : vp_in j N) (hk0 : k0 ≠ 10) (hx : narrow .boolean (.int x) = .int x) (hd : decode cc pc = .ok (.bastore, 1)) (hq : pc + 1 = q) (k : ∀ m' : Cm, m' = u3 m0 g i j x → mw p l e R s m args below meth c cells slots Q D ta ad n (uW M k0 m') q lv st (K m')) : mw p l e R s m args below meth c cells slots Q D ta ad n (uW M k0 m0) pc lv (.int x :: .int j :: .ref (ad k0 g i) :: st) (bnd (u3 m0 g i j x) K) := mw_zast cx he hN hi hin hk0 hx hd hq (mw_eqM (uW_st M k0 m0 g i j x) (k _ rfl))
theorem mw_zastW (cx : Cx p s m args meth c D ta ad own cc n) {k0 g N : Nat} {i j x : Int32} {K : Wm → σ} (he : ∀ f : Int32 → Int32, wcell ta ad k0 g i f = .inl (ta 1, N, .inl (fun j => f (nI j)))) (hN : N ≤ 2147483648) (hi : vp_in i (wcnt k0 g)) (hin : vp_in j N) (hk0 : k0 ≠ 10) (hx : narrow .boolean (.int x) = .int x) (hd : decode cc pc = .ok (.bastore, 1)) (hq : pc + 1 = q) (k : ∀ M' : Wm, M' = uW M k0 (u3 (M k0) g i j x) → mw p l e R s m args below meth c cells slots Q D ta ad n M' q lv st (K M')) : mw p l e R s m args below meth c cells slots Q D ta ad n M pc lv (.int x :: .int j :: .ref (ad k0 g i) :: st) (bnd (uW M k0 (u3 (M k0) g i j x)) K) := mw_zast cx he hN hi hin hk0 hx hd hq (k _ rfl)
theorem mw_putC (cx : Cx p s m args meth c D ta ad own cc n) {ix ci f k0 g : Nat} {i x : Int32} {fs : List Value} {ty : FieldType} {m0 : Cm} {K : Cm → σ} (j : Int32) (hf : GF own ix ci f) (hp : PF ci f ty) (hty : narrow ty (.int x) = .int x ∧ fits ty (.int x) = true) (he : wcell ta ad k0 g i ((uW M k0 m0) k0 g i) = .inr (ci, fs)) (hl : f < fs.length) (he2 : wcell ta ad k0 g i (fI ((uW M k0 m0) k0 g i) j x) = .inr (ci, fs.set f (.int x))) (hi : vp_in i (wcnt k0 g)) (hk0 : k0 ≠ 10) (hd : decode cc pc = .ok (.putfield ix, 3)) (hq : pc + 3 = q) (k : ∀ m' : Cm, m' = u3 m0 g i j x → mw p l e R s m args below meth c cells slots Q D ta ad n (uW M k0 m') q lv st (K m')) : mw p l e R s m args below meth c cells slots Q D ta ad n (uW M k0 m0) pc lv (.int x :: .ref (ad k0 g i) :: st) (bnd (u3 m0 g i j x) K) := mw_put cx j hf hp hty he hl he2 hi hk0 hd hq (mw_eqM (uW_st M k0 m0 g i j x) (k _ rfl))
theorem mw_putW (cx : Cx p s m args meth c D ta ad own cc n) {ix ci f k0 g : Nat} {i x : Int32} {fs : List Value} {ty : FieldType} {K : Wm → σ} (j : Int32) (hf : GF own ix ci f) (hp : PF ci f ty) (hty : narrow ty (.int x) = .int x ∧ fits ty (.int x) = true) (he : wcell ta ad k0 g i (M k0 g i) = .inr (ci, fs)) (hl : f < fs.length) (he2 : wcell ta ad k0 g i (fI (M k0 g i) j x) = .inr (ci, fs.set f (.int x))) (hi : vp_in i (wcnt k0 g)) (hk0 : k0 ≠ 10) (hd : decode cc pc = .ok (.putfield ix, 3)) (hq : pc + 3 = q) (k : ∀ M' : Wm, M' = uW M k0 (u3 (M k0) g i j x) → mw p l e R s m args below meth c cells slots Q D ta ad n M' q lv st (K M')) : mw p l e R s m args below meth c cells slots Q D ta ad n M pc lv (.int x :: .ref (ad k0 g i) :: st) (bnd (uW M k0 (u3 (M k0) g i j x)) K) := mw_put cx j hf hp hty he hl he2 hi hk0 hd hq (k _ rfl)
theorem mw_putNC (cx : Cx p s m args meth c D ta ad own cc n) {ix ci f k0 g : Nat} {i x : Int32} {fs : List Value} {ty : FieldType} {m0 : Cm} {K : Cm → σ} (j : Int32) (hf : GFN own ix ci f) (hp : PF ci f ty) (hty : narrow ty (.int x) = .int x ∧ fits ty (.int x) = true) (he : wcell ta ad k0 g i ((uW M k0 m0) k0 g i) = .inr (ci, fs)) (hl : f < fs.length) (he2 : wcell ta ad k0 g i (fI ((uW M k0 m0) k0 g i) j x) = .inr (ci, fs.set f (.int x))) (hi : vp_in i (wcnt k0 g)) (hk0 : k0 ≠ 10) (hd : decode cc pc = .ok (.putfield ix, 3)) (hq : pc + 3 = q) (k : ∀ m' : Cm, m' = u3 m0 g i j x → mw p l e R s m args below meth c cells slots Q D ta ad n (uW M k0 m') q lv st (K m')) : mw p l e R s m args below meth c cells slots Q D ta ad n (uW M k0 m0) pc lv (.int x :: .ref (ad k0 g i) :: st) (bnd (u3 m0 g i j x) K) := mw_putN cx j hf hp hty he hl he2 hi hk0 hd hq (mw_eqM (uW_st M k0 m0 g i j x) (k _ rfl))
theorem mw_putNW (cx : Cx p s m args meth c D ta ad own cc n) {ix ci f k0 g : Nat} {i x : Int32} {fs : List Value} {ty : FieldType} {K : Wm → σ} (j : Int32) (hf : GFN own ix ci f) (hp : PF ci f ty) (hty : narrow ty (.int x) = .int x ∧ fits ty (.int x) = true) (he : wcell ta ad k0 g i (M k0 g i) = .inr (ci, fs)) (hl : f < fs.length) (he2 : wcell ta ad k0 g i (fI (M k0 g i) j x) = .inr (ci, fs.set f (.int x))) (hi : vp_in i (wcnt k0 g)) (hk0 : k0 ≠ 10) (hd : decode cc pc = .ok (.putfield ix, 3)) (hq : pc + 3 = q) (k : ∀ M' : Wm, M' = uW M k0 (u3 (M k0) g i j x) → mw p l e R s m args below meth c cells slots Q D ta ad n M' q lv st (K M')) : mw p l e R s m args below meth c cells slots Q D ta ad n M pc lv (.int x :: .ref (ad k0 g i) :: st) (bnd (uW M k0 (u3 (M k0) g i j x)) K) := mw_putN cx j hf hp hty he hl he2 hi hk0 hd hq (k _ rfl)
/-! rows over what is static -/
theorem cx_st (cx : Cx p s m args meth c D ta ad own cc n) : wSt ad s s.heap := cx.2.2.2.2.2.2.2.1
theorem mw_gets (cx : Cx p s m args meth c D ta ad own cc n) {C nm ds : String} {ix : Nat} {v : Value} (hZ : va_Z C nm ds v (wA ad) s s.heap) (hw : Cond.fieldLink own ix C nm ds ∈ BG) (hd : decode cc pc = .ok (.getstatic ix, 3)) (hq : pc + 3 = q) (k : mw p l e R s m args below meth c cells slots Q D ta ad n M q lv (v :: st) S) : mw p l e R s m args below meth c cells slots Q D ta ad n M pc lv st S := fun H locs ls hP hS hl => by
  subst hq
  exact va_gets cx.1 cx.2.1 hZ hS cx.2.2.2.1 (cx.2.2.2.2.1 _ hw) (fun _ h => h) hd (k H locs ls hP hS hl)
theorem mw_getK (cx : Cx p s m args meth c D ta ad own cc n) {o nm ds : String} {ix a : Nat} {v : Value} (hF : va_OF o nm ds v a (wA ad) s s.heap) (hw : Cond.fieldLink own ix o nm ds ∈ BG) (hd : decode cc pc = .ok (.getfield ix, 3)) (hq : pc + 3 = q) (k : mw p l e R s m args below meth c cells slots Q D ta ad n M q lv (v :: st) S) : mw p l e R s m args below meth c cells slots Q D ta ad n M pc lv (.ref a :: st) S := fun H locs ls hP hS hl => by
  subst hq
  exact vk_getf cx.1 cx.2.1 hF hS cx.2.2.2.1 (cx.2.2.2.2.1 _ hw) (fun _ h => h) hd (k H locs ls hP hS hl)
theorem mw_getKN (cx : Cx p s m args meth c D ta ad own cc n) {o nm ds host : String} {ix a : Nat} {v : Value} (hF : va_OF o nm ds v a (wA ad) s s.heap) (hw : Cond.fieldLinkNest own ix o nm ds host ∈ NG) (hd : decode cc pc = .ok (.getfield ix, 3)) (hq : pc + 3 = q) (k : mw p l e R s m args below meth c cells slots Q D ta ad n M q lv (v :: st) S) : mw p l e R s m args below meth c cells slots Q D ta ad n M pc lv (.ref a :: st) S := fun H locs ls hP hS hl => by
  subst hq
  obtain ⟨cf, kf, fi9, f9, cell, h1, h2, h3, h4, h5, h6⟩ := hF.kept hS.2.1
  exact va_Wgetf cx.1 cx.2.1 cx.2.2.2.1 (va_Nw.use rfl (cx.2.2.2.2.2.2.2.1.2.2.2.2.2.2 _ hw)) h1 h2 h3 h4 (v := v) h5 rfl rfl hd (k H locs ls hP hS hl)
theorem mw_tq (cx : Cx p s m args meth c D ta ad own cc n) {C : String} {t N : Nat} {F : Nat → Value} {i : Int32} {v : Value} (hT : va_T (.object C) t N F (wA ad) s s.heap) (hin : vp_in i N) (hv : F i.toNatClampNeg = v) (hd : decode cc pc = .ok (.aaload, 1)) (hq : pc + 1 = q) (k : mw p l e R s m args below meth c cells slots Q D ta ad n M q lv (v :: st) S) : mw p l e R s m args below meth c cells slots Q D ta ad n M pc lv (.int i :: .ref t :: st) S := fun H locs ls hP hS hl => by
  subst hq
  exact vb_tq cx.1 cx.2.1 hT hS hin hv hd (k H locs ls hP hS hl)
theorem mw_ti (cx : Cx p s m args meth c D ta ad own cc n) {t N : Nat} {F : Nat → Value} {i : Int32} {v : Value} (hT : va_T .int t N F (wA ad) s s.heap) (hin : vp_in i N) (hv : F i.toNatClampNeg = v) (hd : decode cc pc = .ok (.iaload, 1)) (hq : pc + 1 = q) (k : mw p l e R s m args below meth c cells slots Q D ta ad n M q lv (v :: st) S) : mw p l e R s m args below meth c cells slots Q D ta ad n M pc lv (.int i :: .ref t :: st) S := fun H locs ls hP hS hl => by
  subst hq
  exact va_ti cx.1 cx.2.1 hT hS hin hv hd (k H locs ls hP hS hl)
theorem mw_tb (cx : Cx p s m args meth c D ta ad own cc n) {t N : Nat} {F : Nat → Value} {i : Int32} {v : Value} (hT : va_T .byte t N F (wA ad) s s.heap) (hin : vp_in i N) (hv : F i.toNatClampNeg = v) (hd : decode cc pc = .ok (.baload, 1)) (hq : pc + 1 = q) (k : mw p l e R s m args below meth c cells slots Q D ta ad n M q lv (v :: st) S) : mw p l e R s m args below meth c cells slots Q D ta ad n M pc lv (.int i :: .ref t :: st) S := fun H locs ls hP hS hl => by
  subst hq
  exact va_tb cx.1 cx.2.1 hT hS hin hv hd (k H locs ls hP hS hl)
theorem mw_tlen (cx : Cx p s m args meth c D ta ad own cc n) {ty : FieldType} {t N : Nat} {F : Nat → Value} {v : Int32} (hT : va_T ty t N F (wA ad) s s.heap) (hv : Int32.ofNat N = v) (hd : decode cc pc = .ok (.arraylength, 1)) (hq : pc + 1 = q) (k : mw p l e R s m args below meth c cells slots Q D ta ad n M q lv (.int v :: st) S) : mw p l e R s m args below meth c cells slots Q D ta ad n M pc lv (.ref t :: st) S := fun H locs ls hP hS hl => by
  subst hq
  exact va_tlen cx.1 cx.2.1 hT hS hv hd (k H locs ls hP hS hl)
theorem mw_ishr (cx : Cx p s m args meth c D ta ad own cc n) {x y : Int32} (hd : decode cc pc = .ok (.ishr, 1)) (hq : pc + 1 = q) (k : mw p l e R s m args below meth c cells slots Q D ta ad n M q lv (.int (x >>> (y &&& 31)) :: st) S) : mw p l e R s m args below meth c cells slots Q D ta ad n M pc lv (.int y :: .int x :: st) S := fun H locs ls hP hS hl => by
  subst hq
  exact lv_ishr cx.1 cx.2.1 hd (k H locs ls hP hS hl)
theorem mw_i2c (cx : Cx p s m args meth c D ta ad own cc n) {x v : Int32} (hv : (x.toUInt32 % 65536).toInt32 = v) (hd : decode cc pc = .ok (.i2c, 1)) (hq : pc + 1 = q) (k : mw p l e R s m args below meth c cells slots Q D ta ad n M q lv (.int v :: st) S) : mw p l e R s m args below meth c cells slots Q D ta ad n M pc lv (.int x :: st) S := fun H locs ls hP hS hl => by
  subst hq
  exact lv_i2c cx.1 cx.2.1 hd hv (k H locs ls hP hS hl)
/-- two of the words compared -/
theorem mw_acmp_ne (cx : Cx p s m args meth c D ta ad own cc n) {x y : Int32} {off : Int} {tgt : Nat} (hx : vp_in x 26) (hy : vp_in y 26) (hd : decode cc pc = .ok (.if_acmp .ne off, 3)) (ht : (pc : Int) + off = (tgt : Int)) (hq : pc + 3 = q) (kt : ¬ x = y → mw p l e R s m args below meth c cells slots Q D ta ad n M tgt lv st B) (kf : x = y → mw p l e R s m args below meth c cells slots Q D ta ad n M q lv st A) : mw p l e R s m args below meth c cells slots Q D ta ad n M pc lv (.ref (ad 10 0 y) :: .ref (ad 10 0 x) :: st) (if x = y then A else B) := fun H locs ls hP hS hl => by
  subst hq
  have hinj := cx.2.2.2.2.2.2.2.1.2.2.2.2.2.1
  refine lv_acmp_ne (rx := some (ad 10 0 x)) (ry := some (ad 10 0 y)) cx.1 cx.2.1 hd ht (fun h => ?_) (fun h => ?_)
  · have h2 : ¬ x = y := fun z => h (by rw [z])
    rw [if_neg h2]; exact kt h2 H locs ls hP hS hl
  · have h2 : x = y := hinj x y hx hy (Option.some.inj h)
    rw [if_pos h2]; exact kf h2 H locs ls hP hS hl
theorem mw_aloadN_n (cx : Cx p s m args meth c D ta ad own cc n) {f : Fin 4} {i : Nat} (j : Nat) (hj : lv[j]? = some (i, .null)) (hi : (f : Nat) = i) (hd : decode cc pc = .ok (.aload_n f, 1)) (hq : pc + 1 = q) (k : mw p l e R s m args below meth c cells slots Q D ta ad n M q lv (.null :: st) S) : mw p l e R s m args below meth c cells slots Q D ta ad n M pc lv st S := fun H locs ls hP hS hl => by
  subst hq
  exact lv_aload_nN cx.1 cx.2.1 hd hi (lv_at hl j hj) (k H locs ls hP hS hl)
theorem mw_aloadN (cx : Cx p s m args meth c D ta ad own cc n) {i : Nat} (j : Nat) (hj : lv[j]? = some (i, .null)) (hd : decode cc pc = .ok (.aload i, 2)) (hq : pc + 2 = q) (k : mw p l e R s m args below meth c cells slots Q D ta ad n M q lv (.null :: st) S) : mw p l e R s m args below meth c cells slots Q D ta ad n M pc lv st S := fun H locs ls hP hS hl => by
  subst hq
  exact lv_aloadN cx.1 cx.2.1 hd (lv_at hl j hj) (k H locs ls hP hS hl)
theorem mw_astoreN (cx : Cx p s m args meth c D ta ad own cc n) {i : Nat} (hl2 : (i, Value.null) :: lv.filter (fun q => !(q.1 == i) && !(q.1 + 1 == i && q.2.category == 2)) = lv') (hn : i < n) (hd : decode cc pc = .ok (.astore i, 2)) (hq : pc + 2 = q) (k : mw p l e R s m args below meth c cells slots Q D ta ad n M q lv' st S) : mw p l e R s m args below meth c cells slots Q D ta ad n M pc lv (.null :: st) S := fun H locs ls hP hS hl => by
  subst hq
  exact lv_astoreN cx.1 cx.2.1 hd hl hn hl2 (fun ls hl => k H locs ls hP hS hl)
/-- a call on a static object -/
theorem mw_callVK (cx : Cx p s m args meth c D ta ad own cc n) {y : MethodName} {C : String} {cy : ByteArray} {ny d ix a : Nat} {ret : Option FieldType} {As : List Value} {z : Option Value × Wm} {st0 : List Value} (hM : MC l D ta ad y cy ny ret d (.ref a :: As) M z) (hw : CV own ix y C cy ny ret As.length) (hO : va_O C a (wA ad) s s.heap) (hR : d + 1 ≤ R.frames ∧ 8 + (ny + 11) + 40 * d ≤ R.locals) (hcs : cells ≤ R.cells ∧ slots ≤ R.slots) (h8 : (st.map fun v => v.category).sum ≤ 8) (hst : st0 = As.reverse ++ .ref a :: st) {st1 : List Value} {M' : Wm} (hz1 : z.1.toList ++ st = st1) (hz2 : z.2 = M') (hd : decode cc pc = .ok (.invokevirtual ix, 3)) (hq : pc + 3 = q) (k : mw p l e R s m args below meth c cells slots Q D ta ad n M' q lv st1 S) : mw p l e R s m args below meth c cells slots Q D ta ad n M pc lv st0 S := fun H locs ls hP hS hl => by
  subst hq; subst hz1; subst hz2
  obtain ⟨⟨w1, w2, w3, w4, w5⟩, hd4⟩ := hw
  have hG : GoodIn BG (wsV own ix C y (.code y cy ny ret :: BG)) := fun w h => by
    unfold wsV at h
    rcases List.mem_append.mp h with h | h
    · simp only [List.mem_cons, List.not_mem_nil, or_false] at h
      rcases h with rfl | rfl | rfl | rfl
      · exact BG_good _ w1
      · exact BG_good _ w2
      · exact BG_good _ w3
      · exact BG_good _ w4
    · exact BG_codes w5 w h
  obtain ⟨cell, g1, g2, g3, -⟩ := hO.kept hS.2.1
  have hrun := va_runV (l := l) (e := e) (R := R) (below := below) (meth := meth) (locs := locs) (cells := cells) (slots := slots) (As := As) (rest := st) (C := C) (b := a) (g := F0 m pc ls st0) ⟨cx.1, cx.2.1, cx.2.2.1, cx.2.2.2.1, cx.2.2.2.2.1⟩ hM (cwV As.length cx.2.2.2.2.1 hG rfl rfl rfl hd4 hR) ⟨Pc_blind, ⟨cell, g1, g2, g3⟩, Pc_at cx hP hS⟩ rfl rfl hl.1 hst (by show 2 * 0 + _ ≤ 8; omega) hd ⟨hcs.1, hcs.2⟩
  exact mw_run hrun hS hl k
theorem mw_callUK (cx : Cx p s m args meth c D ta ad own cc n) {x y : MethodName} {C owner : String} {cy : ByteArray} {ny d ix a : Nat} {ret : Option FieldType} {As : List Value} {z : Option Value × Wm} {st0 : List Value} (hM : MC l D ta ad y cy ny ret d (.ref a :: As) M z) (hw : (∀ w ∈ va_wsU own ix C owner x y [], w ∈ BG) ∧ Cond.code y cy ny ret ∈ BG ∧ y = ⟨owner, x.name, x.desc⟩ ∧ owner ≠ "java/lang/invoke/MethodHandle" ∧ owner ≠ "java/lang/invoke/VarHandle" ∧ (parseMethodDescriptor x.desc).map (fun d => d.parameters.length) = some As.length) (hO : va_O C a (wA ad) s s.heap) (hR : d + 1 ≤ R.frames ∧ 8 + (ny + 11) + 40 * d ≤ R.locals) (hcs : cells ≤ R.cells ∧ slots ≤ R.slots) (h8 : (st.map fun v => v.category).sum ≤ 8) (hst : st0 = As.reverse ++ .ref a :: st) {st1 : List Value} {M' : Wm} (hz1 : z.1.toList ++ st = st1) (hz2 : z.2 = M') (hd : decode cc pc = .ok (.invokevirtual ix, 3)) (hq : pc + 3 = q) (k : mw p l e R s m args below meth c cells slots Q D ta ad n M' q lv st1 S) : mw p l e R s m args below meth c cells slots Q D ta ad n M pc lv st0 S := fun H locs ls hP hS hl => by
  subst hq; subst hz1; subst hz2
  obtain ⟨w1, w5, hy, hd4⟩ := hw
  have hG : GoodIn BG (va_wsU own ix C owner x y (.code y cy ny ret :: BG)) := fun w h => by
    unfold va_wsU at h w1
    rcases List.mem_append.mp h with h | h
    · exact BG_good _ (w1 w (List.mem_append_left _ h))
    · exact BG_codes w5 w h
  obtain ⟨cell, g1, g2, g3, -⟩ := hO.kept hS.2.1
  have hrun := va_runU (l := l) (e := e) (R := R) (below := below) (meth := meth) (locs := locs) (cells := cells) (slots := slots) (As := As) (rest := st) (C := C) (b := a) (g := F0 m pc ls st0) ⟨cx.1, cx.2.1, cx.2.2.1, cx.2.2.2.1, cx.2.2.2.2.1⟩ hM (va_cwU As.length cx.2.2.2.2.1 hG rfl rfl rfl hy hd4 hR) ⟨Pc_blind, ⟨cell, g1, g2, g3⟩, Pc_at cx hP hS⟩ rfl rfl hl.1 hst (by show 2 * 0 + _ ≤ 8; omega) hd ⟨hcs.1, hcs.2⟩
  exact mw_run hrun hS hl k
end CORE
