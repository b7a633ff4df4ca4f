/-! THE LAW'S CALLS: each catches what the class' method throws, and tells its number -/
def wCx (U : State) : Prop := ∀ a b : Nat, (a = 1 ∨ a = 2 ∨ a = 3) → (b = 1 ∨ b = 2 ∨ b = 3) → ¬ a = b → va_Nc (exN a) (exN b) U
theorem wCx.moved {u U : State} (hA : u.vm.Alike U.vm) (h : wCx u) : wCx U := fun a b ha hb hn => (h a b ha hb hn).moved hA
def mPh (D : va_G) (ta : wTa) (ad : wAd) (M : Wm) (U : State) : Prop := mPx D ta ad M U ∧ wCx U
def MH (l : Launch) (D : va_G) (ta : wTa) (ad : wAd) (y : MethodName) (cc : ByteArray) (n : Nat) (ret : Option FieldType) (hh : List (Nat × Nat × Nat × Nat)) (d u : Nat) (avs : List Value) (M : Wm) (z : XO) : Prop :=
  vx_Met l y (.codeWith y cc n ret hh :: BG) (rmx d u) (va_Pc avs (mPh D ta ad M)) (mQx D ta ad z) (mXx D ta ad z) u (6 * u) (wA ad)
/-- what a call of the law's comes to: 0 and the answer kept, or the number of what was thrown -/
def fw13 (kf : Nat → Int32) (z : (Nat × Int32) × Wm) : (Nat × Int32) × Wm := if z.1.1 = 0 then ((0, 0), uW z.2 13 (u3 (z.2 13) 0 0 0 z.1.2)) else ((0, kf z.1.1), z.2)
theorem fw13_0 {kf : Nat → Int32} {z : (Nat × Int32) × Wm} (h : z.1.1 = 0) : fw13 kf z = ((0, 0), uW z.2 13 (u3 (z.2 13) 0 0 0 z.1.2)) := if_pos h
theorem fw13_x {kf : Nat → Int32} {z : (Nat × Int32) × Wm} {j : Nat} (h : z.1.1 = j) (hj : ¬ j = 0) : fw13 kf z = ((0, kf j), z.2) := by
  unfold fw13; rw [h, if_neg hj]
def kfI (a b : Nat) (j : Nat) : Int32 := if j = a then 1 else if j = b then 2 else 3
section WR
variable {σ : Type} {p : Program} {l : Launch} {e : Env} {R : Room} {s : State} {m : MethodId} {args : Array Value} {below : List Frame} {meth : Method} {c : Code} {cells slots : Nat} {Q : σ → State → Prop} {D : va_G} {ta : wTa} {ad : wAd} {n : Nat} {M : Wm} {pc q : Nat} {lv lv' : List (Nat × Value)} {st : List Value} {S A B : σ} {own : String} {cc : ByteArray} {u : Nat} {fin : σ → XO}
theorem mw_i2l (cx : Cx p s m args meth c D ta ad own cc n) {x : Int32} (hd : decode cc pc = .ok (.i2l, 1)) (hq : pc + 1 = q) (k : mw p l e R s m args below meth c cells slots Q D ta ad n M q lv (.long x.toInt64 :: st) S) : mw p l e R s m args below meth c cells slots Q D ta ad n M pc lv (.int x :: st) S := fun H locs ls hP hS hl => by
  subst hq
  exact lv_i2l cx.1 cx.2.1 hd rfl (k H locs ls hP hS hl)
theorem mw_lconst (cx : Cx p s m args meth c D ta ad own cc n) {f : Fin 2} {v : Int64} (hd : decode cc pc = .ok (.lconst f, 1)) (hv : Int64.ofNat (f : Nat) = v) (hq : pc + 1 = q) (k : mw p l e R s m args below meth c cells slots Q D ta ad n M q lv (.long v :: st) S) : mw p l e R s m args below meth c cells slots Q D ta ad n M pc lv st S := fun H locs ls hP hS hl => by
  subst hq
  exact lv_lconst cx.1 cx.2.1 hd hv (k H locs ls hP hS hl)
theorem mw_last (cx : Cx p s m args meth c D ta ad own cc n) {x : Int32} {v : Int64} (hv : v = x.toInt64) (hd : decode cc pc = .ok (.lastore, 1)) (hq : pc + 1 = q) (k : mw p l e R s m args below meth c cells slots Q D ta ad n (uW M 13 (u3 (M 13) 0 0 0 x)) q lv st S) : mw p l e R s m args below meth c cells slots Q D ta ad n M pc lv (.long v :: .int 0 :: .ref (ad 13 0 0) :: st) S := fun H locs ls hP hS hl => by
  subst hq; subst hv
  have hi : vp_in (0 : Int32) (wcnt 13 0) := vin_lit (by decide)
  have he : ∀ f : Int32 → Int32, wcell ta ad 13 0 0 f = .inl (ta 4, 1, .inr (.inl (fun j => (f (nI j)).toInt64))) := fun _ => rfl
  refine W.last cx.1 cx.2.1 ((hP.one hi (he _)) 0 _ rfl) ((cx.2.2.2.2.2.1.2 4 _ rfl).1 1 (fun j => .long ((M 13 0 0 (nI j)).toInt64))) (fun q => by cases q) (by show ¬ ((0 : Int32) < 0 ∨ (arrV _ _ _).slots.size ≤ _); rw [arrV_size]; show ¬ ((0 : Int32) < 0 ∨ 1 ≤ Int32.toNatClampNeg 0); decide) rfl rfl hd fun H1 e z oq => ?_
  refine k H1 _ ls (hP.set cx.2.2.2.2.2.2.1 hi ?_ oq) (hS.put z oq ⟨13, 0, 0, by decide, hi, rfl⟩) hl
  rw [he]
  show H1[ad 13 0 0]? = some (arrV _ 1 (fun j2 => .long (fI (M 13 0 0) 0 x (nI j2)).toInt64))
  rw [e]
  show some ((arrV _ _ _).setSlot _ _) = _
  rw [arrV_store]
  refine congrArg some (arrV_ext fun w hw => ?_)
  have hw1 : w < 1 := hw
  have : w = 0 := by omega
  subst this
  rfl
/-- caught -/
theorem mh_catch (cx : Cx p s m args meth c D ta ad own cc n) (hzx : wZx ad s s.heap) (hcx : wCx s) {k : Nat} (hk : k = 1 ∨ k = 2 ∨ k = 3) {hh : List (Nat × Nat × Nat × Nat)} (ht : c.exceptionTable.toList = tableOf hh) (pre : List (Nat × Nat × Nat × Nat)) (x : Nat × Nat × Nat × Nat) (suf : List (Nat × Nat × Nat × Nat)) (hsp : hh = pre ++ x :: suf) (hpass : ∀ z ∈ pre, ¬ z.2.2.2 = 0 ∧ ∃ j : Nat, (j = 1 ∨ j = 2 ∨ j = 3) ∧ ¬ k = j ∧ Cond.classLink own z.2.2.2 (exN j) ∈ BG) (hx : covers ⟨x.1, x.2.1, x.2.2.1, x.2.2.2⟩ pc = true) (h0 : x.2.2.2 ≠ 0) (hlink : Cond.classLink own x.2.2.2 (exN k) ∈ BG) (hcast : Cond.castable (exN k) (exN k) ∈ NX) {H1 : Heap} {locs1 : List Loc} {q : Addr} {ce : Cell} {ls : Array Slot} (hl : lv_has ls n lv) (a1 : wP D ta ad M H1) (a2 : va_S (wA ad) s.heap H1 locs1) (a3 : H1[q]? = some ce) (a4 : ce.vm = .none) (a5 : s.vm.findClass (exN k) = some ce.cls) (kk : mw p l e R s m args below meth c cells slots Q D ta ad n M x.2.2.1 lv [.ref q] S) : vx_W p l e R s m args below meth c H1 locs1 cells slots (Q S) (F0 m pc ls st) q := by
  refine vx_catch cx.2.2.2.1 (tableOf pre) ⟨x.1, x.2.1, x.2.2.1, x.2.2.2⟩ (tableOf suf) (by rw [ht, hsp]; unfold tableOf; rw [List.map_append, List.map_cons]) (fun z hz => ?_) hx h0 (cx.2.2.2.2.1 _ hlink) (NX_use hzx.2.2 _ hcast) a3 a4 a5 (kk H1 locs1 ls a1 a2 hl)
  unfold tableOf at hz
  obtain ⟨y, hy, rfl⟩ := List.mem_map.mp hz
  obtain ⟨b1, j, b2, b3, b4⟩ := hpass y hy
  exact Or.inr ⟨b1, exN j, cx.2.2.2.2.1 _ b4, hcx k j hk b2 b3⟩
theorem MH.of {y : MethodName} {ret : Option FieldType} {hh : List (Nat × Nat × Nat × Nat)} {d : Nat} {avs : List Value} {M : Wm} {z : XO} (fin : σ → XO) (S : σ) (hz : fin S = z) (hy : plainName y.cls = true) (hn : (lg_sl avs).length ≤ n)
    (body : ∀ (p : Program) (e : Env) (s : State) (m : MethodId) (args : Array Value) (below : List Frame) (meth : Method) (c : Code), Cx p s m args meth c D ta ad y.cls cc n → wZx ad s s.heap → wCx s → c.exceptionTable.toList = tableOf hh → meth.sig.returnType = ret → mw p l e (rmx d u) s m args below meth c 0 0 (fun S => vx_MQ below (mQx D ta ad (fin S)) (mXx D ta ad (fin S)) args s u (6 * u) (wA ad)) D ta ad n M 0 (lv_args 0 avs) [] S) : MH l D ta ad y cc n ret hh d u avs M z := by
  subst hz
  refine vx_ofWH (cc := cc) (maxL := n) (ret := ret) (hh := hh) hy rfl ?_
  intro p e s m args below meth c s₁ B hml hv
  obtain ⟨rfl, ⟨hP, hK, hI, hSt, hZ⟩, hC⟩ := hv
  have hts := atoms_spec (ws := .codeWith y cc n ret hh :: BG) B.pre
  have hown : s.vm.findClass y.cls = some m.cls := findClass_of_methodNamed B.named
  have hl := lv_entry avs (n := n) hn
  have ht := vx_table (x := y) B (hts _ List.mem_cons_self)
  rw [lg_entry_eq]
  exact body p e s m avs.toArray below meth c ⟨B.exec, B.bytes, hml, hown, fun w h => hts w (List.mem_cons_of_mem _ h), hK, hI, hSt, B.notSynchronized⟩ hZ hC ht B.returns s.heap [] _ hP va_S.rf hl
end WR

theorem xl_13 : Cond.classLink RL 13 (exN 1) ∈ BG := BG_at 425 (by decide +kernel) (by decide +kernel)
theorem xl_15 : Cond.classLink RL 15 (exN 2) ∈ BG := BG_at 426 (by decide +kernel) (by decide +kernel)
theorem xl_27 : Cond.classLink RL 27 (exN 3) ∈ BG := BG_at 563 (by decide +kernel) (by decide +kernel)
theorem xc_1 : Cond.castable (exN 1) (exN 1) ∈ NX := List.mem_filter.mpr ⟨List.mem_of_getElem? (i := 442) (by decide +kernel), rfl⟩
theorem xc_2 : Cond.castable (exN 2) (exN 2) ∈ NX := List.mem_filter.mpr ⟨List.mem_of_getElem? (i := 522) (by decide +kernel), rfl⟩
theorem xc_3 : Cond.castable (exN 3) (exN 3) ∈ NX := List.mem_filter.mpr ⟨List.mem_of_getElem? (i := 573) (by decide +kernel), rfl⟩
theorem cv_L_7 : CV RL 7 yX11_type RX11 cX11_type 3 (some .int) 2 := ⟨⟨BG_at 427 (by decide +kernel) (by decide +kernel), BG_at 428 (by decide +kernel) (by decide +kernel), BG_at 429 (by decide +kernel) (by decide +kernel), BG_at 80 (by decide +kernel) (by decide +kernel), BG_at 430 (by decide +kernel) (by decide +kernel)⟩, rfl, by decide, by decide, by decide +kernel⟩
set_option maxHeartbeats 1000000 in
theorem mc_L_type (l : Launch) (hl : l.stackTraces = false) (D : va_G) (ta : wTa) (ad : wAd) (M : Wm) (p1 : Int32) (p2 : Int32) (hln : ∀ j : Int32, vp_in j 8 → 0 ≤ (M 8 2 0 j).toInt ∧ (M 8 2 0 j).toInt ≤ 120) (hk : (f11_type M p1 p2).1.1 = 0 ∨ (f11_type M p1 p2).1.1 = 1 ∨ (f11_type M p1 p2).1.1 = 2) : MH l D ta ad yL_type cL_type 5 (some .int) [(0, 10, 13, 13), (0, 10, 17, 15)] 9 3 [.ref (ad 11 0 0), .int p1, .int p2, .ref (ad 13 0 0)] M (fxi (fw13 (kfI 1 2) (f11_type M p1 p2))) := by
  refine MH.of fxi (fw13 (kfI 1 2) (f11_type M p1 p2)) rfl (by decide) (Nat.le_of_ble_eq_true rfl) (fun p e s m args below meth c cx hzx hcx ht hr => ?_)
  have hM := mc_X11_type l hl D ta ad M p1 p2 hln
  generalize hz : f11_type M p1 p2 = z at hM hk ⊢
  refine mw_sub (lv' := [(0, .ref (ad 11 0 0)), (1, .int p1), (2, .int p2), (3, .ref (ad 13 0 0))]) [0, 1, 2, 3] rfl ?_
  refine mw_aload_n cx (q := 1) 3 rfl rfl dL_type_0 rfl ?_
  refine mw_iconst cx (q := 2) (v := 0) dL_type_1 rfl rfl ?_
  refine mw_aload_n cx (q := 3) 0 rfl rfl dL_type_2 rfl ?_
  refine mw_iload_n cx (q := 4) 1 rfl rfl dL_type_3 rfl ?_
  refine mw_iload_n cx (q := 5) 2 rfl rfl dL_type_4 rfl ?_
  refine mx_callV cx hzx (q := 8) (d := 8) (u0 := 3) (As := [.int p1, .int p2]) (z := fxi z) (st := [.int 0, .ref (ad 13 0 0)]) (st1 := [.int z.1.2, .int 0, .ref (ad 13 0 0)]) (M' := z.2) hM cv_L_7 rfl rfl rfl vi_11_0 ⟨by decide, by decide⟩ ⟨by decide, by decide⟩ (by simp [Value.category]) rfl rfl rfl dL_type_5 rfl (fun h0 ls hl H1 locs1 q ce a1 a2 a3 a4 a5 => ?_) (fun h0 => ?_)
  · rcases hk with k0 | k1 | k2
    · exact absurd k0 h0
    · have ez : (fxi z).1.1 = 1 := k1
      rw [ez] at a5
      refine mh_catch cx hzx hcx (k := 1) (lv := [(0, .ref (ad 11 0 0)), (1, .int p1), (2, .int p2), (3, .ref (ad 13 0 0))]) (by decide) ht [] (0, 10, 13, 13) [(0, 10, 17, 15)] rfl (by intro z hz; cases hz) rfl (by decide) xl_13 xc_1 hl a1 a2 a3 a4 a5 ?_
      refine mw_astore cx (q := 15) (lv' := [(4, .ref q), (0, .ref (ad 11 0 0)), (1, .int p1), (2, .int p2), (3, .ref (ad 13 0 0))]) rfl (by decide) dL_type_13 rfl ?_
      refine mw_iconst cx (q := 16) (v := 1) dL_type_15 rfl rfl ?_
      exact mx_iret cx hr rfl (by rw [fw13_x k1 (by decide)]; rfl) ⟨by decide, by decide⟩ dL_type_16
    · have ez : (fxi z).1.1 = 2 := k2
      rw [ez] at a5
      refine mh_catch cx hzx hcx (k := 2) (lv := [(0, .ref (ad 11 0 0)), (1, .int p1), (2, .int p2), (3, .ref (ad 13 0 0))]) (by decide) ht [(0, 10, 13, 13)] (0, 10, 17, 15) [] rfl (by intro z hz; simp only [List.mem_cons, List.not_mem_nil, or_false] at hz; rcases hz with rfl <;> first | exact ⟨by decide, 1, by decide, by decide, xl_13⟩) rfl (by decide) xl_15 xc_2 hl a1 a2 a3 a4 a5 ?_
      refine mw_astore cx (q := 19) (lv' := [(4, .ref q), (0, .ref (ad 11 0 0)), (1, .int p1), (2, .int p2), (3, .ref (ad 13 0 0))]) rfl (by decide) dL_type_17 rfl ?_
      refine mw_iconst cx (q := 20) (v := 2) dL_type_19 rfl rfl ?_
      exact mx_iret cx hr rfl (by rw [fw13_x k2 (by decide)]; rfl) ⟨by decide, by decide⟩ dL_type_20
  · have ez : z.1.1 = 0 := h0
    refine mw_i2l cx (q := 9) dL_type_8 rfl ?_
    refine mw_last cx (q := 10) (x := z.1.2) rfl dL_type_9 rfl ?_
    refine mw_goto cx (tgt := 21) dL_type_10 (by decide) ?_
    refine mw_iconst cx (q := 22) (v := 0) dL_type_21 rfl rfl ?_
    exact mx_iret cx hr rfl (by rw [fw13_0 ez]; rfl) ⟨by decide, by decide⟩ dL_type_22
theorem cv_L_17 : CV RL 17 yX11_erase RX11 cX11_erase 3 (some .int) 2 := ⟨⟨BG_at 542 (by decide +kernel) (by decide +kernel), BG_at 543 (by decide +kernel) (by decide +kernel), BG_at 544 (by decide +kernel) (by decide +kernel), BG_at 80 (by decide +kernel) (by decide +kernel), BG_at 545 (by decide +kernel) (by decide +kernel)⟩, rfl, by decide, by decide, by decide +kernel⟩
set_option maxHeartbeats 1000000 in
theorem mc_L_erase (l : Launch) (hl : l.stackTraces = false) (D : va_G) (ta : wTa) (ad : wAd) (M : Wm) (p1 : Int32) (p2 : Int32) (hk : (f11_erase M p1 p2).1.1 = 0 ∨ (f11_erase M p1 p2).1.1 = 1) : MH l D ta ad yL_erase cL_erase 5 (some .int) [(0, 10, 13, 13)] 9 2 [.ref (ad 11 0 0), .int p1, .int p2, .ref (ad 13 0 0)] M (fxi (fw13 (kfI 1 1) (f11_erase M p1 p2))) := by
  refine MH.of fxi (fw13 (kfI 1 1) (f11_erase M p1 p2)) rfl (by decide) (Nat.le_of_ble_eq_true rfl) (fun p e s m args below meth c cx hzx hcx ht hr => ?_)
  have hM := mc_X11_erase l hl D ta ad M p1 p2
  generalize hz : f11_erase M p1 p2 = z at hM hk ⊢
  refine mw_sub (lv' := [(0, .ref (ad 11 0 0)), (1, .int p1), (2, .int p2), (3, .ref (ad 13 0 0))]) [0, 1, 2, 3] rfl ?_
  refine mw_aload_n cx (q := 1) 3 rfl rfl dL_erase_0 rfl ?_
  refine mw_iconst cx (q := 2) (v := 0) dL_erase_1 rfl rfl ?_
  refine mw_aload_n cx (q := 3) 0 rfl rfl dL_erase_2 rfl ?_
  refine mw_iload_n cx (q := 4) 1 rfl rfl dL_erase_3 rfl ?_
  refine mw_iload_n cx (q := 5) 2 rfl rfl dL_erase_4 rfl ?_
  refine mx_callV cx hzx (q := 8) (d := 8) (u0 := 2) (As := [.int p1, .int p2]) (z := fxi z) (st := [.int 0, .ref (ad 13 0 0)]) (st1 := [.int z.1.2, .int 0, .ref (ad 13 0 0)]) (M' := z.2) hM cv_L_17 rfl rfl rfl vi_11_0 ⟨by decide, by decide⟩ ⟨by decide, by decide⟩ (by simp [Value.category]) rfl rfl rfl dL_erase_5 rfl (fun h0 ls hl H1 locs1 q ce a1 a2 a3 a4 a5 => ?_) (fun h0 => ?_)
  · rcases hk with k0 | k1
    · exact absurd k0 h0
    · have ez : (fxi z).1.1 = 1 := k1
      rw [ez] at a5
      refine mh_catch cx hzx hcx (k := 1) (lv := [(0, .ref (ad 11 0 0)), (1, .int p1), (2, .int p2), (3, .ref (ad 13 0 0))]) (by decide) ht [] (0, 10, 13, 13) [] rfl (by intro z hz; cases hz) rfl (by decide) xl_13 xc_1 hl a1 a2 a3 a4 a5 ?_
      refine mw_astore cx (q := 15) (lv' := [(4, .ref q), (0, .ref (ad 11 0 0)), (1, .int p1), (2, .int p2), (3, .ref (ad 13 0 0))]) rfl (by decide) dL_erase_13 rfl ?_
      refine mw_iconst cx (q := 16) (v := 1) dL_erase_15 rfl rfl ?_
      exact mx_iret cx hr rfl (by rw [fw13_x k1 (by decide)]; rfl) ⟨by decide, by decide⟩ dL_erase_16
  · have ez : z.1.1 = 0 := h0
    refine mw_i2l cx (q := 9) dL_erase_8 rfl ?_
    refine mw_last cx (q := 10) (x := z.1.2) rfl dL_erase_9 rfl ?_
    refine mw_goto cx (tgt := 17) dL_erase_10 (by decide) ?_
    refine mw_iconst cx (q := 18) (v := 0) dL_erase_17 rfl rfl ?_
    exact mx_iret cx hr rfl (by rw [fw13_0 ez]; rfl) ⟨by decide, by decide⟩ dL_erase_18
theorem cv_L_20 : CV RL 20 yX11_length RX11 cX11_length 2 (some .int) 1 := ⟨⟨BG_at 556 (by decide +kernel) (by decide +kernel), BG_at 557 (by decide +kernel) (by decide +kernel), BG_at 558 (by decide +kernel) (by decide +kernel), BG_at 80 (by decide +kernel) (by decide +kernel), BG_at 559 (by decide +kernel) (by decide +kernel)⟩, rfl, by decide, by decide, by decide +kernel⟩
set_option maxHeartbeats 1000000 in
theorem mc_L_length (l : Launch) (hl : l.stackTraces = false) (D : va_G) (ta : wTa) (ad : wAd) (M : Wm) (p1 : Int32) (hk : (f11_length M p1).1.1 = 0 ∨ (f11_length M p1).1.1 = 1) : MH l D ta ad yL_length cL_length 4 (some .int) [(0, 9, 12, 13)] 9 1 [.ref (ad 11 0 0), .int p1, .ref (ad 13 0 0)] M (fxi (fw13 (kfI 1 1) (f11_length M p1))) := by
  refine MH.of fxi (fw13 (kfI 1 1) (f11_length M p1)) rfl (by decide) (Nat.le_of_ble_eq_true rfl) (fun p e s m args below meth c cx hzx hcx ht hr => ?_)
  have hM := mc_X11_length l hl D ta ad M p1
  generalize hz : f11_length M p1 = z at hM hk ⊢
  refine mw_sub (lv' := [(0, .ref (ad 11 0 0)), (1, .int p1), (2, .ref (ad 13 0 0))]) [0, 1, 2] rfl ?_
  refine mw_aload_n cx (q := 1) 2 rfl rfl dL_length_0 rfl ?_
  refine mw_iconst cx (q := 2) (v := 0) dL_length_1 rfl rfl ?_
  refine mw_aload_n cx (q := 3) 0 rfl rfl dL_length_2 rfl ?_
  refine mw_iload_n cx (q := 4) 1 rfl rfl dL_length_3 rfl ?_
  refine mx_callV cx hzx (q := 7) (d := 8) (u0 := 1) (As := [.int p1]) (z := fxi z) (st := [.int 0, .ref (ad 13 0 0)]) (st1 := [.int z.1.2, .int 0, .ref (ad 13 0 0)]) (M' := z.2) hM cv_L_20 rfl rfl rfl vi_11_0 ⟨by decide, by decide⟩ ⟨by decide, by decide⟩ (by simp [Value.category]) rfl rfl rfl dL_length_4 rfl (fun h0 ls hl H1 locs1 q ce a1 a2 a3 a4 a5 => ?_) (fun h0 => ?_)
  · rcases hk with k0 | k1
    · exact absurd k0 h0
    · have ez : (fxi z).1.1 = 1 := k1
      rw [ez] at a5
      refine mh_catch cx hzx hcx (k := 1) (lv := [(0, .ref (ad 11 0 0)), (1, .int p1), (2, .ref (ad 13 0 0))]) (by decide) ht [] (0, 9, 12, 13) [] rfl (by intro z hz; cases hz) rfl (by decide) xl_13 xc_1 hl a1 a2 a3 a4 a5 ?_
      refine mw_astore_n cx (q := 13) (lv' := [(3, .ref q), (0, .ref (ad 11 0 0)), (1, .int p1), (2, .ref (ad 13 0 0))]) rfl rfl (by decide) dL_length_12 rfl ?_
      refine mw_iconst cx (q := 14) (v := 1) dL_length_13 rfl rfl ?_
      exact mx_iret cx hr rfl (by rw [fw13_x k1 (by decide)]; rfl) ⟨by decide, by decide⟩ dL_length_14
  · have ez : z.1.1 = 0 := h0
    refine mw_i2l cx (q := 8) dL_length_7 rfl ?_
    refine mw_last cx (q := 9) (x := z.1.2) rfl dL_length_8 rfl ?_
    refine mw_goto cx (tgt := 15) dL_length_9 (by decide) ?_
    refine mw_iconst cx (q := 16) (v := 0) dL_length_15 rfl rfl ?_
    exact mx_iret cx hr rfl (by rw [fw13_0 ez]; rfl) ⟨by decide, by decide⟩ dL_length_16
theorem cv_L_24 : CV RL 24 yX11_sign RX11 cX11_sign 3 (some .int) 2 := ⟨⟨BG_at 564 (by decide +kernel) (by decide +kernel), BG_at 565 (by decide +kernel) (by decide +kernel), BG_at 566 (by decide +kernel) (by decide +kernel), BG_at 80 (by decide +kernel) (by decide +kernel), BG_at 567 (by decide +kernel) (by decide +kernel)⟩, rfl, by decide, by decide, by decide +kernel⟩
set_option maxHeartbeats 1000000 in
theorem mc_L_sign (l : Launch) (hl : l.stackTraces = false) (D : va_G) (ta : wTa) (ad : wAd) (M : Wm) (p1 : Int32) (p2 : Int32) (hln : ∀ j : Int32, vp_in j 8 → 0 ≤ (M 8 2 0 j).toInt ∧ (M 8 2 0 j).toInt ≤ 120) (hk : (f11_sign M p1 p2).1.1 = 0 ∨ (f11_sign M p1 p2).1.1 = 1 ∨ (f11_sign M p1 p2).1.1 = 3) : MH l D ta ad yL_sign cL_sign 5 (some .int) [(0, 10, 13, 13), (0, 10, 17, 27)] 9 2 [.ref (ad 11 0 0), .int p1, .int p2, .ref (ad 13 0 0)] M (fxi (fw13 (kfI 1 3) (f11_sign M p1 p2))) := by
  refine MH.of fxi (fw13 (kfI 1 3) (f11_sign M p1 p2)) rfl (by decide) (Nat.le_of_ble_eq_true rfl) (fun p e s m args below meth c cx hzx hcx ht hr => ?_)
  have hM := mc_X11_sign l hl D ta ad M p1 p2 hln
  generalize hz : f11_sign M p1 p2 = z at hM hk ⊢
  refine mw_sub (lv' := [(0, .ref (ad 11 0 0)), (1, .int p1), (2, .int p2), (3, .ref (ad 13 0 0))]) [0, 1, 2, 3] rfl ?_
  refine mw_aload_n cx (q := 1) 3 rfl rfl dL_sign_0 rfl ?_
  refine mw_iconst cx (q := 2) (v := 0) dL_sign_1 rfl rfl ?_
  refine mw_aload_n cx (q := 3) 0 rfl rfl dL_sign_2 rfl ?_
  refine mw_iload_n cx (q := 4) 1 rfl rfl dL_sign_3 rfl ?_
  refine mw_iload_n cx (q := 5) 2 rfl rfl dL_sign_4 rfl ?_
  refine mx_callV cx hzx (q := 8) (d := 8) (u0 := 2) (As := [.int p1, .int p2]) (z := fxi z) (st := [.int 0, .ref (ad 13 0 0)]) (st1 := [.int z.1.2, .int 0, .ref (ad 13 0 0)]) (M' := z.2) hM cv_L_24 rfl rfl rfl vi_11_0 ⟨by decide, by decide⟩ ⟨by decide, by decide⟩ (by simp [Value.category]) rfl rfl rfl dL_sign_5 rfl (fun h0 ls hl H1 locs1 q ce a1 a2 a3 a4 a5 => ?_) (fun h0 => ?_)
  · rcases hk with k0 | k1 | k2
    · exact absurd k0 h0
    · have ez : (fxi z).1.1 = 1 := k1
      rw [ez] at a5
      refine mh_catch cx hzx hcx (k := 1) (lv := [(0, .ref (ad 11 0 0)), (1, .int p1), (2, .int p2), (3, .ref (ad 13 0 0))]) (by decide) ht [] (0, 10, 13, 13) [(0, 10, 17, 27)] rfl (by intro z hz; cases hz) rfl (by decide) xl_13 xc_1 hl a1 a2 a3 a4 a5 ?_
      refine mw_astore cx (q := 15) (lv' := [(4, .ref q), (0, .ref (ad 11 0 0)), (1, .int p1), (2, .int p2), (3, .ref (ad 13 0 0))]) rfl (by decide) dL_sign_13 rfl ?_
      refine mw_iconst cx (q := 16) (v := 1) dL_sign_15 rfl rfl ?_
      exact mx_iret cx hr rfl (by rw [fw13_x k1 (by decide)]; rfl) ⟨by decide, by decide⟩ dL_sign_16
    · have ez : (fxi z).1.1 = 3 := k2
      rw [ez] at a5
      refine mh_catch cx hzx hcx (k := 3) (lv := [(0, .ref (ad 11 0 0)), (1, .int p1), (2, .int p2), (3, .ref (ad 13 0 0))]) (by decide) ht [(0, 10, 13, 13)] (0, 10, 17, 27) [] rfl (by intro z hz; simp only [List.mem_cons, List.not_mem_nil, or_false] at hz; rcases hz with rfl <;> first | exact ⟨by decide, 1, by decide, by decide, xl_13⟩) rfl (by decide) xl_27 xc_3 hl a1 a2 a3 a4 a5 ?_
      refine mw_astore cx (q := 19) (lv' := [(4, .ref q), (0, .ref (ad 11 0 0)), (1, .int p1), (2, .int p2), (3, .ref (ad 13 0 0))]) rfl (by decide) dL_sign_17 rfl ?_
      refine mw_iconst cx (q := 20) (v := 2) dL_sign_19 rfl rfl ?_
      exact mx_iret cx hr rfl (by rw [fw13_x k2 (by decide)]; rfl) ⟨by decide, by decide⟩ dL_sign_20
  · have ez : z.1.1 = 0 := h0
    refine mw_i2l cx (q := 9) dL_sign_8 rfl ?_
    refine mw_last cx (q := 10) (x := z.1.2) rfl dL_sign_9 rfl ?_
    refine mw_goto cx (tgt := 21) dL_sign_10 (by decide) ?_
    refine mw_iconst cx (q := 22) (v := 0) dL_sign_21 rfl rfl ?_
    exact mx_iret cx hr rfl (by rw [fw13_0 ez]; rfl) ⟨by decide, by decide⟩ dL_sign_22
theorem cv_L_29 : CV RL 29 yX11_fault RX11 cX11_fault 2 (some .int) 1 := ⟨⟨BG_at 593 (by decide +kernel) (by decide +kernel), BG_at 594 (by decide +kernel) (by decide +kernel), BG_at 595 (by decide +kernel) (by decide +kernel), BG_at 80 (by decide +kernel) (by decide +kernel), BG_at 596 (by decide +kernel) (by decide +kernel)⟩, rfl, by decide, by decide, by decide +kernel⟩
set_option maxHeartbeats 1000000 in
theorem mc_L_fault (l : Launch) (hl : l.stackTraces = false) (D : va_G) (ta : wTa) (ad : wAd) (M : Wm) (p1 : Int32) (hln : ∀ j : Int32, vp_in j 8 → 0 ≤ (M 8 2 0 j).toInt ∧ (M 8 2 0 j).toInt ≤ 120) (hk : (f11_fault M p1).1.1 = 0 ∨ (f11_fault M p1).1.1 = 1) : MH l D ta ad yL_fault cL_fault 4 (some .int) [(0, 9, 12, 13)] 9 1 [.ref (ad 11 0 0), .int p1, .ref (ad 13 0 0)] M (fxi (fw13 (kfI 1 1) (f11_fault M p1))) := by
  refine MH.of fxi (fw13 (kfI 1 1) (f11_fault M p1)) rfl (by decide) (Nat.le_of_ble_eq_true rfl) (fun p e s m args below meth c cx hzx hcx ht hr => ?_)
  have hM := mc_X11_fault l hl D ta ad M p1 hln
  generalize hz : f11_fault M p1 = z at hM hk ⊢
  refine mw_sub (lv' := [(0, .ref (ad 11 0 0)), (1, .int p1), (2, .ref (ad 13 0 0))]) [0, 1, 2] rfl ?_
  refine mw_aload_n cx (q := 1) 2 rfl rfl dL_fault_0 rfl ?_
  refine mw_iconst cx (q := 2) (v := 0) dL_fault_1 rfl rfl ?_
  refine mw_aload_n cx (q := 3) 0 rfl rfl dL_fault_2 rfl ?_
  refine mw_iload_n cx (q := 4) 1 rfl rfl dL_fault_3 rfl ?_
  refine mx_callV cx hzx (q := 7) (d := 8) (u0 := 1) (As := [.int p1]) (z := fxi z) (st := [.int 0, .ref (ad 13 0 0)]) (st1 := [.int z.1.2, .int 0, .ref (ad 13 0 0)]) (M' := z.2) hM cv_L_29 rfl rfl rfl vi_11_0 ⟨by decide, by decide⟩ ⟨by decide, by decide⟩ (by simp [Value.category]) rfl rfl rfl dL_fault_4 rfl (fun h0 ls hl H1 locs1 q ce a1 a2 a3 a4 a5 => ?_) (fun h0 => ?_)
  · rcases hk with k0 | k1
    · exact absurd k0 h0
    · have ez : (fxi z).1.1 = 1 := k1
      rw [ez] at a5
      refine mh_catch cx hzx hcx (k := 1) (lv := [(0, .ref (ad 11 0 0)), (1, .int p1), (2, .ref (ad 13 0 0))]) (by decide) ht [] (0, 9, 12, 13) [] rfl (by intro z hz; cases hz) rfl (by decide) xl_13 xc_1 hl a1 a2 a3 a4 a5 ?_
      refine mw_astore_n cx (q := 13) (lv' := [(3, .ref q), (0, .ref (ad 11 0 0)), (1, .int p1), (2, .ref (ad 13 0 0))]) rfl rfl (by decide) dL_fault_12 rfl ?_
      refine mw_iconst cx (q := 14) (v := 1) dL_fault_13 rfl rfl ?_
      exact mx_iret cx hr rfl (by rw [fw13_x k1 (by decide)]; rfl) ⟨by decide, by decide⟩ dL_fault_14
  · have ez : z.1.1 = 0 := h0
    refine mw_i2l cx (q := 8) dL_fault_7 rfl ?_
    refine mw_last cx (q := 9) (x := z.1.2) rfl dL_fault_8 rfl ?_
    refine mw_goto cx (tgt := 15) dL_fault_9 (by decide) ?_
    refine mw_iconst cx (q := 16) (v := 0) dL_fault_15 rfl rfl ?_
    exact mx_iret cx hr rfl (by rw [fw13_0 ez]; rfl) ⟨by decide, by decide⟩ dL_fault_16
theorem cv_L_32 : CV RL 32 yX11_expressions RX11 cX11_expressions 2 (some .int) 1 := ⟨⟨BG_at 679 (by decide +kernel) (by decide +kernel), BG_at 680 (by decide +kernel) (by decide +kernel), BG_at 681 (by decide +kernel) (by decide +kernel), BG_at 80 (by decide +kernel) (by decide +kernel), BG_at 682 (by decide +kernel) (by decide +kernel)⟩, rfl, by decide, by decide, by decide +kernel⟩
set_option maxHeartbeats 1000000 in
theorem mc_L_expressions (l : Launch) (hl : l.stackTraces = false) (D : va_G) (ta : wTa) (ad : wAd) (M : Wm) (p1 : Int32) (hln : ∀ j : Int32, vp_in j 8 → 0 ≤ (M 8 2 0 j).toInt ∧ (M 8 2 0 j).toInt ≤ 120) (hk : (f11_expressions M p1).1.1 = 0 ∨ (f11_expressions M p1).1.1 = 1 ∨ (f11_expressions M p1).1.1 = 2) : MH l D ta ad yL_expressions cL_expressions 4 (some .int) [(0, 9, 12, 13), (0, 9, 15, 15)] 9 2 [.ref (ad 11 0 0), .int p1, .ref (ad 13 0 0)] M (fxi (fw13 (kfI 1 2) (f11_expressions M p1))) := by
  refine MH.of fxi (fw13 (kfI 1 2) (f11_expressions M p1)) rfl (by decide) (Nat.le_of_ble_eq_true rfl) (fun p e s m args below meth c cx hzx hcx ht hr => ?_)
  have hM := mc_X11_expressions l hl D ta ad M p1 hln
  generalize hz : f11_expressions M p1 = z at hM hk ⊢
  refine mw_sub (lv' := [(0, .ref (ad 11 0 0)), (1, .int p1), (2, .ref (ad 13 0 0))]) [0, 1, 2] rfl ?_
  refine mw_aload_n cx (q := 1) 2 rfl rfl dL_expressions_0 rfl ?_
  refine mw_iconst cx (q := 2) (v := 0) dL_expressions_1 rfl rfl ?_
  refine mw_aload_n cx (q := 3) 0 rfl rfl dL_expressions_2 rfl ?_
  refine mw_iload_n cx (q := 4) 1 rfl rfl dL_expressions_3 rfl ?_
  refine mx_callV cx hzx (q := 7) (d := 8) (u0 := 2) (As := [.int p1]) (z := fxi z) (st := [.int 0, .ref (ad 13 0 0)]) (st1 := [.int z.1.2, .int 0, .ref (ad 13 0 0)]) (M' := z.2) hM cv_L_32 rfl rfl rfl vi_11_0 ⟨by decide, by decide⟩ ⟨by decide, by decide⟩ (by simp [Value.category]) rfl rfl rfl dL_expressions_4 rfl (fun h0 ls hl H1 locs1 q ce a1 a2 a3 a4 a5 => ?_) (fun h0 => ?_)
  · rcases hk with k0 | k1 | k2
    · exact absurd k0 h0
    · have ez : (fxi z).1.1 = 1 := k1
      rw [ez] at a5
      refine mh_catch cx hzx hcx (k := 1) (lv := [(0, .ref (ad 11 0 0)), (1, .int p1), (2, .ref (ad 13 0 0))]) (by decide) ht [] (0, 9, 12, 13) [(0, 9, 15, 15)] rfl (by intro z hz; cases hz) rfl (by decide) xl_13 xc_1 hl a1 a2 a3 a4 a5 ?_
      refine mw_astore_n cx (q := 13) (lv' := [(3, .ref q), (0, .ref (ad 11 0 0)), (1, .int p1), (2, .ref (ad 13 0 0))]) rfl rfl (by decide) dL_expressions_12 rfl ?_
      refine mw_iconst cx (q := 14) (v := 1) dL_expressions_13 rfl rfl ?_
      exact mx_iret cx hr rfl (by rw [fw13_x k1 (by decide)]; rfl) ⟨by decide, by decide⟩ dL_expressions_14
    · have ez : (fxi z).1.1 = 2 := k2
      rw [ez] at a5
      refine mh_catch cx hzx hcx (k := 2) (lv := [(0, .ref (ad 11 0 0)), (1, .int p1), (2, .ref (ad 13 0 0))]) (by decide) ht [(0, 9, 12, 13)] (0, 9, 15, 15) [] rfl (by intro z hz; simp only [List.mem_cons, List.not_mem_nil, or_false] at hz; rcases hz with rfl <;> first | exact ⟨by decide, 1, by decide, by decide, xl_13⟩) rfl (by decide) xl_15 xc_2 hl a1 a2 a3 a4 a5 ?_
      refine mw_astore_n cx (q := 16) (lv' := [(3, .ref q), (0, .ref (ad 11 0 0)), (1, .int p1), (2, .ref (ad 13 0 0))]) rfl rfl (by decide) dL_expressions_15 rfl ?_
      refine mw_iconst cx (q := 17) (v := 2) dL_expressions_16 rfl rfl ?_
      exact mx_iret cx hr rfl (by rw [fw13_x k2 (by decide)]; rfl) ⟨by decide, by decide⟩ dL_expressions_17
  · have ez : z.1.1 = 0 := h0
    refine mw_i2l cx (q := 8) dL_expressions_7 rfl ?_
    refine mw_last cx (q := 9) (x := z.1.2) rfl dL_expressions_8 rfl ?_
    refine mw_goto cx (tgt := 18) dL_expressions_9 (by decide) ?_
    refine mw_iconst cx (q := 19) (v := 0) dL_expressions_18 rfl rfl ?_
    exact mx_iret cx hr rfl (by rw [fw13_0 ez]; rfl) ⟨by decide, by decide⟩ dL_expressions_19
theorem cv_L_35 : CV RL 35 yX11_supply RX11 cX11_supply 3 (some .int) 2 := ⟨⟨BG_at 691 (by decide +kernel) (by decide +kernel), BG_at 692 (by decide +kernel) (by decide +kernel), BG_at 693 (by decide +kernel) (by decide +kernel), BG_at 80 (by decide +kernel) (by decide +kernel), BG_at 694 (by decide +kernel) (by decide +kernel)⟩, rfl, by decide, by decide, by decide +kernel⟩
set_option maxHeartbeats 1000000 in
theorem mc_L_supply (l : Launch) (hl : l.stackTraces = false) (D : va_G) (ta : wTa) (ad : wAd) (M : Wm) (p1 : Int32) (p2 : Int32) (hk : (f11_supply M p1 p2).1.1 = 0 ∨ (f11_supply M p1 p2).1.1 = 1) : MH l D ta ad yL_supply cL_supply 5 (some .int) [(0, 10, 13, 13)] 9 2 [.ref (ad 11 0 0), .int p1, .int p2, .ref (ad 13 0 0)] M (fxi (fw13 (kfI 1 1) (f11_supply M p1 p2))) := by
  refine MH.of fxi (fw13 (kfI 1 1) (f11_supply M p1 p2)) rfl (by decide) (Nat.le_of_ble_eq_true rfl) (fun p e s m args below meth c cx hzx hcx ht hr => ?_)
  have hM := mc_X11_supply l hl D ta ad M p1 p2
  generalize hz : f11_supply M p1 p2 = z at hM hk ⊢
  refine mw_sub (lv' := [(0, .ref (ad 11 0 0)), (1, .int p1), (2, .int p2), (3, .ref (ad 13 0 0))]) [0, 1, 2, 3] rfl ?_
  refine mw_aload_n cx (q := 1) 3 rfl rfl dL_supply_0 rfl ?_
  refine mw_iconst cx (q := 2) (v := 0) dL_supply_1 rfl rfl ?_
  refine mw_aload_n cx (q := 3) 0 rfl rfl dL_supply_2 rfl ?_
  refine mw_iload_n cx (q := 4) 1 rfl rfl dL_supply_3 rfl ?_
  refine mw_iload_n cx (q := 5) 2 rfl rfl dL_supply_4 rfl ?_
  refine mx_callV cx hzx (q := 8) (d := 8) (u0 := 2) (As := [.int p1, .int p2]) (z := fxi z) (st := [.int 0, .ref (ad 13 0 0)]) (st1 := [.int z.1.2, .int 0, .ref (ad 13 0 0)]) (M' := z.2) hM cv_L_35 rfl rfl rfl vi_11_0 ⟨by decide, by decide⟩ ⟨by decide, by decide⟩ (by simp [Value.category]) rfl rfl rfl dL_supply_5 rfl (fun h0 ls hl H1 locs1 q ce a1 a2 a3 a4 a5 => ?_) (fun h0 => ?_)
  · rcases hk with k0 | k1
    · exact absurd k0 h0
    · have ez : (fxi z).1.1 = 1 := k1
      rw [ez] at a5
      refine mh_catch cx hzx hcx (k := 1) (lv := [(0, .ref (ad 11 0 0)), (1, .int p1), (2, .int p2), (3, .ref (ad 13 0 0))]) (by decide) ht [] (0, 10, 13, 13) [] rfl (by intro z hz; cases hz) rfl (by decide) xl_13 xc_1 hl a1 a2 a3 a4 a5 ?_
      refine mw_astore cx (q := 15) (lv' := [(4, .ref q), (0, .ref (ad 11 0 0)), (1, .int p1), (2, .int p2), (3, .ref (ad 13 0 0))]) rfl (by decide) dL_supply_13 rfl ?_
      refine mw_iconst cx (q := 16) (v := 1) dL_supply_15 rfl rfl ?_
      exact mx_iret cx hr rfl (by rw [fw13_x k1 (by decide)]; rfl) ⟨by decide, by decide⟩ dL_supply_16
  · have ez : z.1.1 = 0 := h0
    refine mw_i2l cx (q := 9) dL_supply_8 rfl ?_
    refine mw_last cx (q := 10) (x := z.1.2) rfl dL_supply_9 rfl ?_
    refine mw_goto cx (tgt := 17) dL_supply_10 (by decide) ?_
    refine mw_iconst cx (q := 18) (v := 0) dL_supply_17 rfl rfl ?_
    exact mx_iret cx hr rfl (by rw [fw13_0 ez]; rfl) ⟨by decide, by decide⟩ dL_supply_18
theorem cv_L_38 : CV RL 38 yX11_giveRations RX11 cX11_giveRations 3 (some .int) 2 := ⟨⟨BG_at 705 (by decide +kernel) (by decide +kernel), BG_at 706 (by decide +kernel) (by decide +kernel), BG_at 707 (by decide +kernel) (by decide +kernel), BG_at 80 (by decide +kernel) (by decide +kernel), BG_at 708 (by decide +kernel) (by decide +kernel)⟩, rfl, by decide, by decide, by decide +kernel⟩
set_option maxHeartbeats 1000000 in
theorem mc_L_giveRations (l : Launch) (hl : l.stackTraces = false) (D : va_G) (ta : wTa) (ad : wAd) (M : Wm) (p1 : Int32) (p2 : Int32) (hk : (f11_giveRations M p1 p2).1.1 = 0 ∨ (f11_giveRations M p1 p2).1.1 = 1) : MH l D ta ad yL_giveRations cL_giveRations 5 (some .int) [(0, 10, 13, 13)] 9 2 [.ref (ad 11 0 0), .int p1, .int p2, .ref (ad 13 0 0)] M (fxi (fw13 (kfI 1 1) (f11_giveRations M p1 p2))) := by
  refine MH.of fxi (fw13 (kfI 1 1) (f11_giveRations M p1 p2)) rfl (by decide) (Nat.le_of_ble_eq_true rfl) (fun p e s m args below meth c cx hzx hcx ht hr => ?_)
  have hM := mc_X11_giveRations l hl D ta ad M p1 p2
  generalize hz : f11_giveRations M p1 p2 = z at hM hk ⊢
  refine mw_sub (lv' := [(0, .ref (ad 11 0 0)), (1, .int p1), (2, .int p2), (3, .ref (ad 13 0 0))]) [0, 1, 2, 3] rfl ?_
  refine mw_aload_n cx (q := 1) 3 rfl rfl dL_giveRations_0 rfl ?_
  refine mw_iconst cx (q := 2) (v := 0) dL_giveRations_1 rfl rfl ?_
  refine mw_aload_n cx (q := 3) 0 rfl rfl dL_giveRations_2 rfl ?_
  refine mw_iload_n cx (q := 4) 1 rfl rfl dL_giveRations_3 rfl ?_
  refine mw_iload_n cx (q := 5) 2 rfl rfl dL_giveRations_4 rfl ?_
  refine mx_callV cx hzx (q := 8) (d := 8) (u0 := 2) (As := [.int p1, .int p2]) (z := fxi z) (st := [.int 0, .ref (ad 13 0 0)]) (st1 := [.int z.1.2, .int 0, .ref (ad 13 0 0)]) (M' := z.2) hM cv_L_38 rfl rfl rfl vi_11_0 ⟨by decide, by decide⟩ ⟨by decide, by decide⟩ (by simp [Value.category]) rfl rfl rfl dL_giveRations_5 rfl (fun h0 ls hl H1 locs1 q ce a1 a2 a3 a4 a5 => ?_) (fun h0 => ?_)
  · rcases hk with k0 | k1
    · exact absurd k0 h0
    · have ez : (fxi z).1.1 = 1 := k1
      rw [ez] at a5
      refine mh_catch cx hzx hcx (k := 1) (lv := [(0, .ref (ad 11 0 0)), (1, .int p1), (2, .int p2), (3, .ref (ad 13 0 0))]) (by decide) ht [] (0, 10, 13, 13) [] rfl (by intro z hz; cases hz) rfl (by decide) xl_13 xc_1 hl a1 a2 a3 a4 a5 ?_
      refine mw_astore cx (q := 15) (lv' := [(4, .ref q), (0, .ref (ad 11 0 0)), (1, .int p1), (2, .int p2), (3, .ref (ad 13 0 0))]) rfl (by decide) dL_giveRations_13 rfl ?_
      refine mw_iconst cx (q := 16) (v := 1) dL_giveRations_15 rfl rfl ?_
      exact mx_iret cx hr rfl (by rw [fw13_x k1 (by decide)]; rfl) ⟨by decide, by decide⟩ dL_giveRations_16
  · have ez : z.1.1 = 0 := h0
    refine mw_i2l cx (q := 9) dL_giveRations_8 rfl ?_
    refine mw_last cx (q := 10) (x := z.1.2) rfl dL_giveRations_9 rfl ?_
    refine mw_goto cx (tgt := 17) dL_giveRations_10 (by decide) ?_
    refine mw_iconst cx (q := 18) (v := 0) dL_giveRations_17 rfl rfl ?_
    exact mx_iret cx hr rfl (by rw [fw13_0 ez]; rfl) ⟨by decide, by decide⟩ dL_giveRations_18
theorem cv_L_41 : CV RL 41 yX11_setTariff RX11 cX11_setTariff 2 (some .int) 1 := ⟨⟨BG_at 719 (by decide +kernel) (by decide +kernel), BG_at 720 (by decide +kernel) (by decide +kernel), BG_at 721 (by decide +kernel) (by decide +kernel), BG_at 80 (by decide +kernel) (by decide +kernel), BG_at 722 (by decide +kernel) (by decide +kernel)⟩, rfl, by decide, by decide, by decide +kernel⟩
set_option maxHeartbeats 1000000 in
theorem mc_L_setTariff (l : Launch) (hl : l.stackTraces = false) (D : va_G) (ta : wTa) (ad : wAd) (M : Wm) (p1 : Int32) (hk : (f11_setTariff M p1).1.1 = 0 ∨ (f11_setTariff M p1).1.1 = 1) : MH l D ta ad yL_setTariff cL_setTariff 4 (some .int) [(0, 9, 12, 13)] 9 1 [.ref (ad 11 0 0), .int p1, .ref (ad 13 0 0)] M (fxi (fw13 (kfI 1 1) (f11_setTariff M p1))) := by
  refine MH.of fxi (fw13 (kfI 1 1) (f11_setTariff M p1)) rfl (by decide) (Nat.le_of_ble_eq_true rfl) (fun p e s m args below meth c cx hzx hcx ht hr => ?_)
  have hM := mc_X11_setTariff l hl D ta ad M p1
  generalize hz : f11_setTariff M p1 = z at hM hk ⊢
  refine mw_sub (lv' := [(0, .ref (ad 11 0 0)), (1, .int p1), (2, .ref (ad 13 0 0))]) [0, 1, 2] rfl ?_
  refine mw_aload_n cx (q := 1) 2 rfl rfl dL_setTariff_0 rfl ?_
  refine mw_iconst cx (q := 2) (v := 0) dL_setTariff_1 rfl rfl ?_
  refine mw_aload_n cx (q := 3) 0 rfl rfl dL_setTariff_2 rfl ?_
  refine mw_iload_n cx (q := 4) 1 rfl rfl dL_setTariff_3 rfl ?_
  refine mx_callV cx hzx (q := 7) (d := 8) (u0 := 1) (As := [.int p1]) (z := fxi z) (st := [.int 0, .ref (ad 13 0 0)]) (st1 := [.int z.1.2, .int 0, .ref (ad 13 0 0)]) (M' := z.2) hM cv_L_41 rfl rfl rfl vi_11_0 ⟨by decide, by decide⟩ ⟨by decide, by decide⟩ (by simp [Value.category]) rfl rfl rfl dL_setTariff_4 rfl (fun h0 ls hl H1 locs1 q ce a1 a2 a3 a4 a5 => ?_) (fun h0 => ?_)
  · rcases hk with k0 | k1
    · exact absurd k0 h0
    · have ez : (fxi z).1.1 = 1 := k1
      rw [ez] at a5
      refine mh_catch cx hzx hcx (k := 1) (lv := [(0, .ref (ad 11 0 0)), (1, .int p1), (2, .ref (ad 13 0 0))]) (by decide) ht [] (0, 9, 12, 13) [] rfl (by intro z hz; cases hz) rfl (by decide) xl_13 xc_1 hl a1 a2 a3 a4 a5 ?_
      refine mw_astore_n cx (q := 13) (lv' := [(3, .ref q), (0, .ref (ad 11 0 0)), (1, .int p1), (2, .ref (ad 13 0 0))]) rfl rfl (by decide) dL_setTariff_12 rfl ?_
      refine mw_iconst cx (q := 14) (v := 1) dL_setTariff_13 rfl rfl ?_
      exact mx_iret cx hr rfl (by rw [fw13_x k1 (by decide)]; rfl) ⟨by decide, by decide⟩ dL_setTariff_14
  · have ez : z.1.1 = 0 := h0
    refine mw_i2l cx (q := 8) dL_setTariff_7 rfl ?_
    refine mw_last cx (q := 9) (x := z.1.2) rfl dL_setTariff_8 rfl ?_
    refine mw_goto cx (tgt := 15) dL_setTariff_9 (by decide) ?_
    refine mw_iconst cx (q := 16) (v := 0) dL_setTariff_15 rfl rfl ?_
    exact mx_iret cx hr rfl (by rw [fw13_0 ez]; rfl) ⟨by decide, by decide⟩ dL_setTariff_16
theorem cv_L_44 : CV RL 44 yX11_buy RX11 cX11_buy 3 (some .int) 2 := ⟨⟨BG_at 730 (by decide +kernel) (by decide +kernel), BG_at 731 (by decide +kernel) (by decide +kernel), BG_at 732 (by decide +kernel) (by decide +kernel), BG_at 80 (by decide +kernel) (by decide +kernel), BG_at 733 (by decide +kernel) (by decide +kernel)⟩, rfl, by decide, by decide, by decide +kernel⟩
set_option maxHeartbeats 1000000 in
theorem mc_L_buy (l : Launch) (hl : l.stackTraces = false) (D : va_G) (ta : wTa) (ad : wAd) (M : Wm) (p1 : Int32) (p2 : Int32) (hk : (f11_buy M p1 p2).1.1 = 0 ∨ (f11_buy M p1 p2).1.1 = 1 ∨ (f11_buy M p1 p2).1.1 = 2) : MH l D ta ad yL_buy cL_buy 5 (some .int) [(0, 10, 13, 13), (0, 10, 17, 15)] 9 3 [.ref (ad 11 0 0), .int p1, .int p2, .ref (ad 13 0 0)] M (fxi (fw13 (kfI 1 2) (f11_buy M p1 p2))) := by
  refine MH.of fxi (fw13 (kfI 1 2) (f11_buy M p1 p2)) rfl (by decide) (Nat.le_of_ble_eq_true rfl) (fun p e s m args below meth c cx hzx hcx ht hr => ?_)
  have hM := mc_X11_buy l hl D ta ad M p1 p2
  generalize hz : f11_buy M p1 p2 = z at hM hk ⊢
  refine mw_sub (lv' := [(0, .ref (ad 11 0 0)), (1, .int p1), (2, .int p2), (3, .ref (ad 13 0 0))]) [0, 1, 2, 3] rfl ?_
  refine mw_aload_n cx (q := 1) 3 rfl rfl dL_buy_0 rfl ?_
  refine mw_iconst cx (q := 2) (v := 0) dL_buy_1 rfl rfl ?_
  refine mw_aload_n cx (q := 3) 0 rfl rfl dL_buy_2 rfl ?_
  refine mw_iload_n cx (q := 4) 1 rfl rfl dL_buy_3 rfl ?_
  refine mw_iload_n cx (q := 5) 2 rfl rfl dL_buy_4 rfl ?_
  refine mx_callV cx hzx (q := 8) (d := 8) (u0 := 3) (As := [.int p1, .int p2]) (z := fxi z) (st := [.int 0, .ref (ad 13 0 0)]) (st1 := [.int z.1.2, .int 0, .ref (ad 13 0 0)]) (M' := z.2) hM cv_L_44 rfl rfl rfl vi_11_0 ⟨by decide, by decide⟩ ⟨by decide, by decide⟩ (by simp [Value.category]) rfl rfl rfl dL_buy_5 rfl (fun h0 ls hl H1 locs1 q ce a1 a2 a3 a4 a5 => ?_) (fun h0 => ?_)
  · rcases hk with k0 | k1 | k2
    · exact absurd k0 h0
    · have ez : (fxi z).1.1 = 1 := k1
      rw [ez] at a5
      refine mh_catch cx hzx hcx (k := 1) (lv := [(0, .ref (ad 11 0 0)), (1, .int p1), (2, .int p2), (3, .ref (ad 13 0 0))]) (by decide) ht [] (0, 10, 13, 13) [(0, 10, 17, 15)] rfl (by intro z hz; cases hz) rfl (by decide) xl_13 xc_1 hl a1 a2 a3 a4 a5 ?_
      refine mw_astore cx (q := 15) (lv' := [(4, .ref q), (0, .ref (ad 11 0 0)), (1, .int p1), (2, .int p2), (3, .ref (ad 13 0 0))]) rfl (by decide) dL_buy_13 rfl ?_
      refine mw_iconst cx (q := 16) (v := 1) dL_buy_15 rfl rfl ?_
      exact mx_iret cx hr rfl (by rw [fw13_x k1 (by decide)]; rfl) ⟨by decide, by decide⟩ dL_buy_16
    · have ez : (fxi z).1.1 = 2 := k2
      rw [ez] at a5
      refine mh_catch cx hzx hcx (k := 2) (lv := [(0, .ref (ad 11 0 0)), (1, .int p1), (2, .int p2), (3, .ref (ad 13 0 0))]) (by decide) ht [(0, 10, 13, 13)] (0, 10, 17, 15) [] rfl (by intro z hz; simp only [List.mem_cons, List.not_mem_nil, or_false] at hz; rcases hz with rfl <;> first | exact ⟨by decide, 1, by decide, by decide, xl_13⟩) rfl (by decide) xl_15 xc_2 hl a1 a2 a3 a4 a5 ?_
      refine mw_astore cx (q := 19) (lv' := [(4, .ref q), (0, .ref (ad 11 0 0)), (1, .int p1), (2, .int p2), (3, .ref (ad 13 0 0))]) rfl (by decide) dL_buy_17 rfl ?_
      refine mw_iconst cx (q := 20) (v := 2) dL_buy_19 rfl rfl ?_
      exact mx_iret cx hr rfl (by rw [fw13_x k2 (by decide)]; rfl) ⟨by decide, by decide⟩ dL_buy_20
  · have ez : z.1.1 = 0 := h0
    refine mw_i2l cx (q := 9) dL_buy_8 rfl ?_
    refine mw_last cx (q := 10) (x := z.1.2) rfl dL_buy_9 rfl ?_
    refine mw_goto cx (tgt := 21) dL_buy_10 (by decide) ?_
    refine mw_iconst cx (q := 22) (v := 0) dL_buy_21 rfl rfl ?_
    exact mx_iret cx hr rfl (by rw [fw13_0 ez]; rfl) ⟨by decide, by decide⟩ dL_buy_22
theorem cv_L_47 : CV RL 47 yX11_setBuying RX11 cX11_setBuying 3 (some .boolean) 2 := ⟨⟨BG_at 754 (by decide +kernel) (by decide +kernel), BG_at 755 (by decide +kernel) (by decide +kernel), BG_at 756 (by decide +kernel) (by decide +kernel), BG_at 80 (by decide +kernel) (by decide +kernel), BG_at 757 (by decide +kernel) (by decide +kernel)⟩, rfl, by decide, by decide, by decide +kernel⟩
set_option maxHeartbeats 1000000 in
theorem mc_L_setBuying (l : Launch) (hl : l.stackTraces = false) (D : va_G) (ta : wTa) (ad : wAd) (M : Wm) (p1 : Int32) (p2 : Bool) (hb : ∀ j : Int32, vp_in j 4 → M 5 3 0 j = 0 ∨ M 5 3 0 j = 1) (hk : (f11_setBuying M p1 p2).1.1 = 0 ∨ (f11_setBuying M p1 p2).1.1 = 1) (hz1 : (f11_setBuying M p1 p2).1.2 = 0 ∨ (f11_setBuying M p1 p2).1.2 = 1) : MH l D ta ad yL_setBuying cL_setBuying 5 (some .int) [(0, 17, 20, 13)] 9 1 [.ref (ad 11 0 0), .int p1, .int (b2i p2), .ref (ad 13 0 0)] M (fxi (fw13 (kfI 1 1) (f11_setBuying M p1 p2))) := by
  refine MH.of fxi (fw13 (kfI 1 1) (f11_setBuying M p1 p2)) rfl (by decide) (Nat.le_of_ble_eq_true rfl) (fun p e s m args below meth c cx hzx hcx ht hr => ?_)
  have hM := mc_X11_setBuying l hl D ta ad M p1 p2 hb
  generalize hz : f11_setBuying M p1 p2 = z at hM hk hz1 ⊢
  refine mw_sub (lv' := [(0, .ref (ad 11 0 0)), (1, .int p1), (2, .int (b2i p2)), (3, .ref (ad 13 0 0))]) [0, 1, 2, 3] rfl ?_
  refine mw_aload_n cx (q := 1) 3 rfl rfl dL_setBuying_0 rfl ?_
  refine mw_iconst cx (q := 2) (v := 0) dL_setBuying_1 rfl rfl ?_
  refine mw_aload_n cx (q := 3) 0 rfl rfl dL_setBuying_2 rfl ?_
  refine mw_iload_n cx (q := 4) 1 rfl rfl dL_setBuying_3 rfl ?_
  refine mw_iload_n cx (q := 5) 2 rfl rfl dL_setBuying_4 rfl ?_
  refine mx_callV cx hzx (q := 8) (d := 8) (u0 := 1) (As := [.int p1, .int (b2i p2)]) (z := fxi z) (st := [.int 0, .ref (ad 13 0 0)]) (st1 := [.int z.1.2, .int 0, .ref (ad 13 0 0)]) (M' := z.2) hM cv_L_47 rfl rfl rfl vi_11_0 ⟨by decide, by decide⟩ ⟨by decide, by decide⟩ (by simp [Value.category]) rfl rfl rfl dL_setBuying_5 rfl (fun h0 ls hl H1 locs1 q ce a1 a2 a3 a4 a5 => ?_) (fun h0 => ?_)
  · rcases hk with k0 | k1
    · exact absurd k0 h0
    · have ez : (fxi z).1.1 = 1 := k1
      rw [ez] at a5
      refine mh_catch cx hzx hcx (k := 1) (lv := [(0, .ref (ad 11 0 0)), (1, .int p1), (2, .int (b2i p2)), (3, .ref (ad 13 0 0))]) (by decide) ht [] (0, 17, 20, 13) [] rfl (by intro z hz; cases hz) rfl (by decide) xl_13 xc_1 hl a1 a2 a3 a4 a5 ?_
      refine mw_astore cx (q := 22) (lv' := [(4, .ref q), (0, .ref (ad 11 0 0)), (1, .int p1), (2, .int (b2i p2)), (3, .ref (ad 13 0 0))]) rfl (by decide) dL_setBuying_20 rfl ?_
      refine mw_iconst cx (q := 23) (v := 1) dL_setBuying_22 rfl rfl ?_
      exact mx_iret cx hr rfl (by rw [fw13_x k1 (by decide)]; rfl) ⟨by decide, by decide⟩ dL_setBuying_23
  · have ez : z.1.1 = 0 := h0
    rcases hz1 with hv | hv
    · refine mw_eqs (st' := [.int 0, .int 0, .ref (ad 13 0 0)]) (by rw [hv]) ?_
      refine mw_eqS (B := if (0 : Int32) = 0 then fw13 (kfI 1 1) z else fw13 (kfI 1 1) z) (by rw [if_pos rfl]) ?_
      refine mw_if_eq cx (tgt := 15) (q := 11) dL_setBuying_8 (by decide) rfl (fun _ => ?_) (fun h => absurd rfl h)
      refine mw_lconst cx (q := 16) (v := 0) dL_setBuying_15 rfl rfl ?_
      refine mw_last cx (q := 17) (x := 0) (by decide) dL_setBuying_16 rfl ?_
      refine mw_goto cx (tgt := 24) dL_setBuying_17 (by decide) ?_
      refine mw_iconst cx (q := 25) (v := 0) dL_setBuying_24 rfl rfl ?_
      exact mx_iret cx hr rfl (by rw [fw13_0 ez, hv]; rfl) ⟨by decide, by decide⟩ dL_setBuying_25
    · refine mw_eqs (st' := [.int 1, .int 0, .ref (ad 13 0 0)]) (by rw [hv]) ?_
      refine mw_eqS (B := if (1 : Int32) = 0 then fw13 (kfI 1 1) z else fw13 (kfI 1 1) z) (by rw [if_neg (by decide)]) ?_
      refine mw_if_eq cx (tgt := 15) (q := 11) dL_setBuying_8 (by decide) rfl (fun h => absurd h (by decide)) (fun _ => ?_)
      refine mw_lconst cx (q := 12) (v := 1) dL_setBuying_11 rfl rfl ?_
      refine mw_goto cx (tgt := 16) dL_setBuying_12 (by decide) ?_
      refine mw_last cx (q := 17) (x := 1) (by decide) dL_setBuying_16 rfl ?_
      refine mw_goto cx (tgt := 24) dL_setBuying_17 (by decide) ?_
      refine mw_iconst cx (q := 25) (v := 0) dL_setBuying_24 rfl rfl ?_
      exact mx_iret cx hr rfl (by rw [fw13_0 ez, hv]; rfl) ⟨by decide, by decide⟩ dL_setBuying_25
theorem cv_L_51 : CV RL 51 yX11_setCredit RX11 cX11_setCredit 4 (some .int) 3 := ⟨⟨BG_at 765 (by decide +kernel) (by decide +kernel), BG_at 766 (by decide +kernel) (by decide +kernel), BG_at 767 (by decide +kernel) (by decide +kernel), BG_at 80 (by decide +kernel) (by decide +kernel), BG_at 768 (by decide +kernel) (by decide +kernel)⟩, rfl, by decide, by decide, by decide +kernel⟩
set_option maxHeartbeats 1000000 in
theorem mc_L_setCredit (l : Launch) (hl : l.stackTraces = false) (D : va_G) (ta : wTa) (ad : wAd) (M : Wm) (p1 : Int32) (p2 : Int32) (p3 : Int32) (hk : (f11_setCredit M p1 p2 p3).1.1 = 0 ∨ (f11_setCredit M p1 p2 p3).1.1 = 1) : MH l D ta ad yL_setCredit cL_setCredit 6 (some .int) [(0, 12, 15, 13)] 9 3 [.ref (ad 11 0 0), .int p1, .int p2, .int p3, .ref (ad 13 0 0)] M (fxi (fw13 (kfI 1 1) (f11_setCredit M p1 p2 p3))) := by
  refine MH.of fxi (fw13 (kfI 1 1) (f11_setCredit M p1 p2 p3)) rfl (by decide) (Nat.le_of_ble_eq_true rfl) (fun p e s m args below meth c cx hzx hcx ht hr => ?_)
  have hM := mc_X11_setCredit l hl D ta ad M p1 p2 p3
  generalize hz : f11_setCredit M p1 p2 p3 = z at hM hk ⊢
  refine mw_sub (lv' := [(0, .ref (ad 11 0 0)), (1, .int p1), (2, .int p2), (3, .int p3), (4, .ref (ad 13 0 0))]) [0, 1, 2, 3, 4] rfl ?_
  refine mw_aload cx (q := 2) 4 rfl dL_setCredit_0 rfl ?_
  refine mw_iconst cx (q := 3) (v := 0) dL_setCredit_2 rfl rfl ?_
  refine mw_aload_n cx (q := 4) 0 rfl rfl dL_setCredit_3 rfl ?_
  refine mw_iload_n cx (q := 5) 1 rfl rfl dL_setCredit_4 rfl ?_
  refine mw_iload_n cx (q := 6) 2 rfl rfl dL_setCredit_5 rfl ?_
  refine mw_iload_n cx (q := 7) 3 rfl rfl dL_setCredit_6 rfl ?_
  refine mx_callV cx hzx (q := 10) (d := 8) (u0 := 3) (As := [.int p1, .int p2, .int p3]) (z := fxi z) (st := [.int 0, .ref (ad 13 0 0)]) (st1 := [.int z.1.2, .int 0, .ref (ad 13 0 0)]) (M' := z.2) hM cv_L_51 rfl rfl rfl vi_11_0 ⟨by decide, by decide⟩ ⟨by decide, by decide⟩ (by simp [Value.category]) rfl rfl rfl dL_setCredit_7 rfl (fun h0 ls hl H1 locs1 q ce a1 a2 a3 a4 a5 => ?_) (fun h0 => ?_)
  · rcases hk with k0 | k1
    · exact absurd k0 h0
    · have ez : (fxi z).1.1 = 1 := k1
      rw [ez] at a5
      refine mh_catch cx hzx hcx (k := 1) (lv := [(0, .ref (ad 11 0 0)), (1, .int p1), (2, .int p2), (3, .int p3), (4, .ref (ad 13 0 0))]) (by decide) ht [] (0, 12, 15, 13) [] rfl (by intro z hz; cases hz) rfl (by decide) xl_13 xc_1 hl a1 a2 a3 a4 a5 ?_
      refine mw_astore cx (q := 17) (lv' := [(5, .ref q), (0, .ref (ad 11 0 0)), (1, .int p1), (2, .int p2), (3, .int p3), (4, .ref (ad 13 0 0))]) rfl (by decide) dL_setCredit_15 rfl ?_
      refine mw_iconst cx (q := 18) (v := 1) dL_setCredit_17 rfl rfl ?_
      exact mx_iret cx hr rfl (by rw [fw13_x k1 (by decide)]; rfl) ⟨by decide, by decide⟩ dL_setCredit_18
  · have ez : z.1.1 = 0 := h0
    refine mw_i2l cx (q := 11) dL_setCredit_10 rfl ?_
    refine mw_last cx (q := 12) (x := z.1.2) rfl dL_setCredit_11 rfl ?_
    refine mw_goto cx (tgt := 19) dL_setCredit_12 (by decide) ?_
    refine mw_iconst cx (q := 20) (v := 0) dL_setCredit_19 rfl rfl ?_
    exact mx_iret cx hr rfl (by rw [fw13_0 ez]; rfl) ⟨by decide, by decide⟩ dL_setCredit_20
theorem cv_L_55 : CV RL 55 yX11_payBack RX11 cX11_payBack 4 (some .int) 3 := ⟨⟨BG_at 776 (by decide +kernel) (by decide +kernel), BG_at 777 (by decide +kernel) (by decide +kernel), BG_at 778 (by decide +kernel) (by decide +kernel), BG_at 80 (by decide +kernel) (by decide +kernel), BG_at 779 (by decide +kernel) (by decide +kernel)⟩, rfl, by decide, by decide, by decide +kernel⟩
set_option maxHeartbeats 1000000 in
theorem mc_L_payBack (l : Launch) (hl : l.stackTraces = false) (D : va_G) (ta : wTa) (ad : wAd) (M : Wm) (p1 : Int32) (p2 : Int32) (p3 : Int32) (hk : (f11_payBack M p1 p2 p3).1.1 = 0 ∨ (f11_payBack M p1 p2 p3).1.1 = 1 ∨ (f11_payBack M p1 p2 p3).1.1 = 2) : MH l D ta ad yL_payBack cL_payBack 6 (some .int) [(0, 12, 15, 13), (0, 12, 19, 15)] 9 4 [.ref (ad 11 0 0), .int p1, .int p2, .int p3, .ref (ad 13 0 0)] M (fxi (fw13 (kfI 1 2) (f11_payBack M p1 p2 p3))) := by
  refine MH.of fxi (fw13 (kfI 1 2) (f11_payBack M p1 p2 p3)) rfl (by decide) (Nat.le_of_ble_eq_true rfl) (fun p e s m args below meth c cx hzx hcx ht hr => ?_)
  have hM := mc_X11_payBack l hl D ta ad M p1 p2 p3
  generalize hz : f11_payBack M p1 p2 p3 = z at hM hk ⊢
  refine mw_sub (lv' := [(0, .ref (ad 11 0 0)), (1, .int p1), (2, .int p2), (3, .int p3), (4, .ref (ad 13 0 0))]) [0, 1, 2, 3, 4] rfl ?_
  refine mw_aload cx (q := 2) 4 rfl dL_payBack_0 rfl ?_
  refine mw_iconst cx (q := 3) (v := 0) dL_payBack_2 rfl rfl ?_
  refine mw_aload_n cx (q := 4) 0 rfl rfl dL_payBack_3 rfl ?_
  refine mw_iload_n cx (q := 5) 1 rfl rfl dL_payBack_4 rfl ?_
  refine mw_iload_n cx (q := 6) 2 rfl rfl dL_payBack_5 rfl ?_
  refine mw_iload_n cx (q := 7) 3 rfl rfl dL_payBack_6 rfl ?_
  refine mx_callV cx hzx (q := 10) (d := 8) (u0 := 4) (As := [.int p1, .int p2, .int p3]) (z := fxi z) (st := [.int 0, .ref (ad 13 0 0)]) (st1 := [.int z.1.2, .int 0, .ref (ad 13 0 0)]) (M' := z.2) hM cv_L_55 rfl rfl rfl vi_11_0 ⟨by decide, by decide⟩ ⟨by decide, by decide⟩ (by simp [Value.category]) rfl rfl rfl dL_payBack_7 rfl (fun h0 ls hl H1 locs1 q ce a1 a2 a3 a4 a5 => ?_) (fun h0 => ?_)
  · rcases hk with k0 | k1 | k2
    · exact absurd k0 h0
    · have ez : (fxi z).1.1 = 1 := k1
      rw [ez] at a5
      refine mh_catch cx hzx hcx (k := 1) (lv := [(0, .ref (ad 11 0 0)), (1, .int p1), (2, .int p2), (3, .int p3), (4, .ref (ad 13 0 0))]) (by decide) ht [] (0, 12, 15, 13) [(0, 12, 19, 15)] rfl (by intro z hz; cases hz) rfl (by decide) xl_13 xc_1 hl a1 a2 a3 a4 a5 ?_
      refine mw_astore cx (q := 17) (lv' := [(5, .ref q), (0, .ref (ad 11 0 0)), (1, .int p1), (2, .int p2), (3, .int p3), (4, .ref (ad 13 0 0))]) rfl (by decide) dL_payBack_15 rfl ?_
      refine mw_iconst cx (q := 18) (v := 1) dL_payBack_17 rfl rfl ?_
      exact mx_iret cx hr rfl (by rw [fw13_x k1 (by decide)]; rfl) ⟨by decide, by decide⟩ dL_payBack_18
    · have ez : (fxi z).1.1 = 2 := k2
      rw [ez] at a5
      refine mh_catch cx hzx hcx (k := 2) (lv := [(0, .ref (ad 11 0 0)), (1, .int p1), (2, .int p2), (3, .int p3), (4, .ref (ad 13 0 0))]) (by decide) ht [(0, 12, 15, 13)] (0, 12, 19, 15) [] rfl (by intro z hz; simp only [List.mem_cons, List.not_mem_nil, or_false] at hz; rcases hz with rfl <;> first | exact ⟨by decide, 1, by decide, by decide, xl_13⟩) rfl (by decide) xl_15 xc_2 hl a1 a2 a3 a4 a5 ?_
      refine mw_astore cx (q := 21) (lv' := [(5, .ref q), (0, .ref (ad 11 0 0)), (1, .int p1), (2, .int p2), (3, .int p3), (4, .ref (ad 13 0 0))]) rfl (by decide) dL_payBack_19 rfl ?_
      refine mw_iconst cx (q := 22) (v := 2) dL_payBack_21 rfl rfl ?_
      exact mx_iret cx hr rfl (by rw [fw13_x k2 (by decide)]; rfl) ⟨by decide, by decide⟩ dL_payBack_22
  · have ez : z.1.1 = 0 := h0
    refine mw_i2l cx (q := 11) dL_payBack_10 rfl ?_
    refine mw_last cx (q := 12) (x := z.1.2) rfl dL_payBack_11 rfl ?_
    refine mw_goto cx (tgt := 23) dL_payBack_12 (by decide) ?_
    refine mw_iconst cx (q := 24) (v := 0) dL_payBack_23 rfl rfl ?_
    exact mx_iret cx hr rfl (by rw [fw13_0 ez]; rfl) ⟨by decide, by decide⟩ dL_payBack_24
theorem cv_L_58 : CV RL 58 yX11_stock RX11 cX11_stock 3 (some .int) 2 := ⟨⟨BG_at 789 (by decide +kernel) (by decide +kernel), BG_at 790 (by decide +kernel) (by decide +kernel), BG_at 791 (by decide +kernel) (by decide +kernel), BG_at 80 (by decide +kernel) (by decide +kernel), BG_at 792 (by decide +kernel) (by decide +kernel)⟩, rfl, by decide, by decide, by decide +kernel⟩
set_option maxHeartbeats 1000000 in
theorem mc_L_stock (l : Launch) (hl : l.stackTraces = false) (D : va_G) (ta : wTa) (ad : wAd) (M : Wm) (p1 : Int32) (p2 : Int32) (hk : (f11_stock M p1 p2).1.1 = 0 ∨ (f11_stock M p1 p2).1.1 = 1) : MH l D ta ad yL_stock cL_stock 5 (some .int) [(0, 10, 13, 13)] 9 2 [.ref (ad 11 0 0), .int p1, .int p2, .ref (ad 13 0 0)] M (fxi (fw13 (kfI 1 1) (f11_stock M p1 p2))) := by
  refine MH.of fxi (fw13 (kfI 1 1) (f11_stock M p1 p2)) rfl (by decide) (Nat.le_of_ble_eq_true rfl) (fun p e s m args below meth c cx hzx hcx ht hr => ?_)
  have hM := mc_X11_stock l hl D ta ad M p1 p2
  generalize hz : f11_stock M p1 p2 = z at hM hk ⊢
  refine mw_sub (lv' := [(0, .ref (ad 11 0 0)), (1, .int p1), (2, .int p2), (3, .ref (ad 13 0 0))]) [0, 1, 2, 3] rfl ?_
  refine mw_aload_n cx (q := 1) 3 rfl rfl dL_stock_0 rfl ?_
  refine mw_iconst cx (q := 2) (v := 0) dL_stock_1 rfl rfl ?_
  refine mw_aload_n cx (q := 3) 0 rfl rfl dL_stock_2 rfl ?_
  refine mw_iload_n cx (q := 4) 1 rfl rfl dL_stock_3 rfl ?_
  refine mw_iload_n cx (q := 5) 2 rfl rfl dL_stock_4 rfl ?_
  refine mx_callV cx hzx (q := 8) (d := 8) (u0 := 2) (As := [.int p1, .int p2]) (z := fxi z) (st := [.int 0, .ref (ad 13 0 0)]) (st1 := [.int z.1.2, .int 0, .ref (ad 13 0 0)]) (M' := z.2) hM cv_L_58 rfl rfl rfl vi_11_0 ⟨by decide, by decide⟩ ⟨by decide, by decide⟩ (by simp [Value.category]) rfl rfl rfl dL_stock_5 rfl (fun h0 ls hl H1 locs1 q ce a1 a2 a3 a4 a5 => ?_) (fun h0 => ?_)
  · rcases hk with k0 | k1
    · exact absurd k0 h0
    · have ez : (fxi z).1.1 = 1 := k1
      rw [ez] at a5
      refine mh_catch cx hzx hcx (k := 1) (lv := [(0, .ref (ad 11 0 0)), (1, .int p1), (2, .int p2), (3, .ref (ad 13 0 0))]) (by decide) ht [] (0, 10, 13, 13) [] rfl (by intro z hz; cases hz) rfl (by decide) xl_13 xc_1 hl a1 a2 a3 a4 a5 ?_
      refine mw_astore cx (q := 15) (lv' := [(4, .ref q), (0, .ref (ad 11 0 0)), (1, .int p1), (2, .int p2), (3, .ref (ad 13 0 0))]) rfl (by decide) dL_stock_13 rfl ?_
      refine mw_iconst cx (q := 16) (v := 1) dL_stock_15 rfl rfl ?_
      exact mx_iret cx hr rfl (by rw [fw13_x k1 (by decide)]; rfl) ⟨by decide, by decide⟩ dL_stock_16
  · have ez : z.1.1 = 0 := h0
    refine mw_i2l cx (q := 9) dL_stock_8 rfl ?_
    refine mw_last cx (q := 10) (x := z.1.2) rfl dL_stock_9 rfl ?_
    refine mw_goto cx (tgt := 17) dL_stock_10 (by decide) ?_
    refine mw_iconst cx (q := 18) (v := 0) dL_stock_17 rfl rfl ?_
    exact mx_iret cx hr rfl (by rw [fw13_0 ez]; rfl) ⟨by decide, by decide⟩ dL_stock_18
theorem cv_L_61 : CV RL 61 yX11_stockByMoves RX11 cX11_stockByMoves 3 (some .int) 2 := ⟨⟨BG_at 803 (by decide +kernel) (by decide +kernel), BG_at 804 (by decide +kernel) (by decide +kernel), BG_at 805 (by decide +kernel) (by decide +kernel), BG_at 80 (by decide +kernel) (by decide +kernel), BG_at 806 (by decide +kernel) (by decide +kernel)⟩, rfl, by decide, by decide, by decide +kernel⟩
set_option maxHeartbeats 1000000 in
theorem mc_L_stockByMoves (l : Launch) (hl : l.stackTraces = false) (D : va_G) (ta : wTa) (ad : wAd) (M : Wm) (p1 : Int32) (p2 : Int32) (hc0 : 0 ≤ (M 1 0 0 7).toInt) (hc1 : (M 1 0 0 7).toInt ≤ 3000) (hk : (f11_stockByMoves M p1 p2).1.1 = 0 ∨ (f11_stockByMoves M p1 p2).1.1 = 1) : MH l D ta ad yL_stockByMoves cL_stockByMoves 5 (some .int) [(0, 10, 13, 13)] 9 2 [.ref (ad 11 0 0), .int p1, .int p2, .ref (ad 13 0 0)] M (fxi (fw13 (kfI 1 1) (f11_stockByMoves M p1 p2))) := by
  refine MH.of fxi (fw13 (kfI 1 1) (f11_stockByMoves M p1 p2)) rfl (by decide) (Nat.le_of_ble_eq_true rfl) (fun p e s m args below meth c cx hzx hcx ht hr => ?_)
  have hM := mc_X11_stockByMoves l hl D ta ad M p1 p2 hc0 hc1
  generalize hz : f11_stockByMoves M p1 p2 = z at hM hk ⊢
  refine mw_sub (lv' := [(0, .ref (ad 11 0 0)), (1, .int p1), (2, .int p2), (3, .ref (ad 13 0 0))]) [0, 1, 2, 3] rfl ?_
  refine mw_aload_n cx (q := 1) 3 rfl rfl dL_stockByMoves_0 rfl ?_
  refine mw_iconst cx (q := 2) (v := 0) dL_stockByMoves_1 rfl rfl ?_
  refine mw_aload_n cx (q := 3) 0 rfl rfl dL_stockByMoves_2 rfl ?_
  refine mw_iload_n cx (q := 4) 1 rfl rfl dL_stockByMoves_3 rfl ?_
  refine mw_iload_n cx (q := 5) 2 rfl rfl dL_stockByMoves_4 rfl ?_
  refine mx_callV cx hzx (q := 8) (d := 8) (u0 := 2) (As := [.int p1, .int p2]) (z := fxi z) (st := [.int 0, .ref (ad 13 0 0)]) (st1 := [.int z.1.2, .int 0, .ref (ad 13 0 0)]) (M' := z.2) hM cv_L_61 rfl rfl rfl vi_11_0 ⟨by decide, by decide⟩ ⟨by decide, by decide⟩ (by simp [Value.category]) rfl rfl rfl dL_stockByMoves_5 rfl (fun h0 ls hl H1 locs1 q ce a1 a2 a3 a4 a5 => ?_) (fun h0 => ?_)
  · rcases hk with k0 | k1
    · exact absurd k0 h0
    · have ez : (fxi z).1.1 = 1 := k1
      rw [ez] at a5
      refine mh_catch cx hzx hcx (k := 1) (lv := [(0, .ref (ad 11 0 0)), (1, .int p1), (2, .int p2), (3, .ref (ad 13 0 0))]) (by decide) ht [] (0, 10, 13, 13) [] rfl (by intro z hz; cases hz) rfl (by decide) xl_13 xc_1 hl a1 a2 a3 a4 a5 ?_
      refine mw_astore cx (q := 15) (lv' := [(4, .ref q), (0, .ref (ad 11 0 0)), (1, .int p1), (2, .int p2), (3, .ref (ad 13 0 0))]) rfl (by decide) dL_stockByMoves_13 rfl ?_
      refine mw_iconst cx (q := 16) (v := 1) dL_stockByMoves_15 rfl rfl ?_
      exact mx_iret cx hr rfl (by rw [fw13_x k1 (by decide)]; rfl) ⟨by decide, by decide⟩ dL_stockByMoves_16
  · have ez : z.1.1 = 0 := h0
    refine mw_i2l cx (q := 9) dL_stockByMoves_8 rfl ?_
    refine mw_last cx (q := 10) (x := z.1.2) rfl dL_stockByMoves_9 rfl ?_
    refine mw_goto cx (tgt := 17) dL_stockByMoves_10 (by decide) ?_
    refine mw_iconst cx (q := 18) (v := 0) dL_stockByMoves_17 rfl rfl ?_
    exact mx_iret cx hr rfl (by rw [fw13_0 ez]; rfl) ⟨by decide, by decide⟩ dL_stockByMoves_18
theorem cv_L_64 : CV RL 64 yX11_fuel RX11 cX11_fuel 2 (some .int) 1 := ⟨⟨BG_at 814 (by decide +kernel) (by decide +kernel), BG_at 815 (by decide +kernel) (by decide +kernel), BG_at 816 (by decide +kernel) (by decide +kernel), BG_at 80 (by decide +kernel) (by decide +kernel), BG_at 817 (by decide +kernel) (by decide +kernel)⟩, rfl, by decide, by decide, by decide +kernel⟩
set_option maxHeartbeats 1000000 in
theorem mc_L_fuel (l : Launch) (hl : l.stackTraces = false) (D : va_G) (ta : wTa) (ad : wAd) (M : Wm) (p1 : Int32) (hk : (f11_fuel M p1).1.1 = 0 ∨ (f11_fuel M p1).1.1 = 1) : MH l D ta ad yL_fuel cL_fuel 4 (some .int) [(0, 9, 12, 13)] 9 1 [.ref (ad 11 0 0), .int p1, .ref (ad 13 0 0)] M (fxi (fw13 (kfI 1 1) (f11_fuel M p1))) := by
  refine MH.of fxi (fw13 (kfI 1 1) (f11_fuel M p1)) rfl (by decide) (Nat.le_of_ble_eq_true rfl) (fun p e s m args below meth c cx hzx hcx ht hr => ?_)
  have hM := mc_X11_fuel l hl D ta ad M p1
  generalize hz : f11_fuel M p1 = z at hM hk ⊢
  refine mw_sub (lv' := [(0, .ref (ad 11 0 0)), (1, .int p1), (2, .ref (ad 13 0 0))]) [0, 1, 2] rfl ?_
  refine mw_aload_n cx (q := 1) 2 rfl rfl dL_fuel_0 rfl ?_
  refine mw_iconst cx (q := 2) (v := 0) dL_fuel_1 rfl rfl ?_
  refine mw_aload_n cx (q := 3) 0 rfl rfl dL_fuel_2 rfl ?_
  refine mw_iload_n cx (q := 4) 1 rfl rfl dL_fuel_3 rfl ?_
  refine mx_callV cx hzx (q := 7) (d := 8) (u0 := 1) (As := [.int p1]) (z := fxi z) (st := [.int 0, .ref (ad 13 0 0)]) (st1 := [.int z.1.2, .int 0, .ref (ad 13 0 0)]) (M' := z.2) hM cv_L_64 rfl rfl rfl vi_11_0 ⟨by decide, by decide⟩ ⟨by decide, by decide⟩ (by simp [Value.category]) rfl rfl rfl dL_fuel_4 rfl (fun h0 ls hl H1 locs1 q ce a1 a2 a3 a4 a5 => ?_) (fun h0 => ?_)
  · rcases hk with k0 | k1
    · exact absurd k0 h0
    · have ez : (fxi z).1.1 = 1 := k1
      rw [ez] at a5
      refine mh_catch cx hzx hcx (k := 1) (lv := [(0, .ref (ad 11 0 0)), (1, .int p1), (2, .ref (ad 13 0 0))]) (by decide) ht [] (0, 9, 12, 13) [] rfl (by intro z hz; cases hz) rfl (by decide) xl_13 xc_1 hl a1 a2 a3 a4 a5 ?_
      refine mw_astore_n cx (q := 13) (lv' := [(3, .ref q), (0, .ref (ad 11 0 0)), (1, .int p1), (2, .ref (ad 13 0 0))]) rfl rfl (by decide) dL_fuel_12 rfl ?_
      refine mw_iconst cx (q := 14) (v := 1) dL_fuel_13 rfl rfl ?_
      exact mx_iret cx hr rfl (by rw [fw13_x k1 (by decide)]; rfl) ⟨by decide, by decide⟩ dL_fuel_14
  · have ez : z.1.1 = 0 := h0
    refine mw_i2l cx (q := 8) dL_fuel_7 rfl ?_
    refine mw_last cx (q := 9) (x := z.1.2) rfl dL_fuel_8 rfl ?_
    refine mw_goto cx (tgt := 15) dL_fuel_9 (by decide) ?_
    refine mw_iconst cx (q := 16) (v := 0) dL_fuel_15 rfl rfl ?_
    exact mx_iret cx hr rfl (by rw [fw13_0 ez]; rfl) ⟨by decide, by decide⟩ dL_fuel_16
theorem cv_L_67 : CV RL 67 yX11_rations RX11 cX11_rations 2 (some .int) 1 := ⟨⟨BG_at 821 (by decide +kernel) (by decide +kernel), BG_at 822 (by decide +kernel) (by decide +kernel), BG_at 823 (by decide +kernel) (by decide +kernel), BG_at 80 (by decide +kernel) (by decide +kernel), BG_at 824 (by decide +kernel) (by decide +kernel)⟩, rfl, by decide, by decide, by decide +kernel⟩
set_option maxHeartbeats 1000000 in
theorem mc_L_rations (l : Launch) (hl : l.stackTraces = false) (D : va_G) (ta : wTa) (ad : wAd) (M : Wm) (p1 : Int32) (hk : (f11_rations M p1).1.1 = 0 ∨ (f11_rations M p1).1.1 = 1) : MH l D ta ad yL_rations cL_rations 4 (some .int) [(0, 9, 12, 13)] 9 1 [.ref (ad 11 0 0), .int p1, .ref (ad 13 0 0)] M (fxi (fw13 (kfI 1 1) (f11_rations M p1))) := by
  refine MH.of fxi (fw13 (kfI 1 1) (f11_rations M p1)) rfl (by decide) (Nat.le_of_ble_eq_true rfl) (fun p e s m args below meth c cx hzx hcx ht hr => ?_)
  have hM := mc_X11_rations l hl D ta ad M p1
  generalize hz : f11_rations M p1 = z at hM hk ⊢
  refine mw_sub (lv' := [(0, .ref (ad 11 0 0)), (1, .int p1), (2, .ref (ad 13 0 0))]) [0, 1, 2] rfl ?_
  refine mw_aload_n cx (q := 1) 2 rfl rfl dL_rations_0 rfl ?_
  refine mw_iconst cx (q := 2) (v := 0) dL_rations_1 rfl rfl ?_
  refine mw_aload_n cx (q := 3) 0 rfl rfl dL_rations_2 rfl ?_
  refine mw_iload_n cx (q := 4) 1 rfl rfl dL_rations_3 rfl ?_
  refine mx_callV cx hzx (q := 7) (d := 8) (u0 := 1) (As := [.int p1]) (z := fxi z) (st := [.int 0, .ref (ad 13 0 0)]) (st1 := [.int z.1.2, .int 0, .ref (ad 13 0 0)]) (M' := z.2) hM cv_L_67 rfl rfl rfl vi_11_0 ⟨by decide, by decide⟩ ⟨by decide, by decide⟩ (by simp [Value.category]) rfl rfl rfl dL_rations_4 rfl (fun h0 ls hl H1 locs1 q ce a1 a2 a3 a4 a5 => ?_) (fun h0 => ?_)
  · rcases hk with k0 | k1
    · exact absurd k0 h0
    · have ez : (fxi z).1.1 = 1 := k1
      rw [ez] at a5
      refine mh_catch cx hzx hcx (k := 1) (lv := [(0, .ref (ad 11 0 0)), (1, .int p1), (2, .ref (ad 13 0 0))]) (by decide) ht [] (0, 9, 12, 13) [] rfl (by intro z hz; cases hz) rfl (by decide) xl_13 xc_1 hl a1 a2 a3 a4 a5 ?_
      refine mw_astore_n cx (q := 13) (lv' := [(3, .ref q), (0, .ref (ad 11 0 0)), (1, .int p1), (2, .ref (ad 13 0 0))]) rfl rfl (by decide) dL_rations_12 rfl ?_
      refine mw_iconst cx (q := 14) (v := 1) dL_rations_13 rfl rfl ?_
      exact mx_iret cx hr rfl (by rw [fw13_x k1 (by decide)]; rfl) ⟨by decide, by decide⟩ dL_rations_14
  · have ez : z.1.1 = 0 := h0
    refine mw_i2l cx (q := 8) dL_rations_7 rfl ?_
    refine mw_last cx (q := 9) (x := z.1.2) rfl dL_rations_8 rfl ?_
    refine mw_goto cx (tgt := 15) dL_rations_9 (by decide) ?_
    refine mw_iconst cx (q := 16) (v := 0) dL_rations_15 rfl rfl ?_
    exact mx_iret cx hr rfl (by rw [fw13_0 ez]; rfl) ⟨by decide, by decide⟩ dL_rations_16
theorem cv_L_70 : CV RL 70 yX11_debt RX11 cX11_debt 3 (some .int) 2 := ⟨⟨BG_at 828 (by decide +kernel) (by decide +kernel), BG_at 829 (by decide +kernel) (by decide +kernel), BG_at 830 (by decide +kernel) (by decide +kernel), BG_at 80 (by decide +kernel) (by decide +kernel), BG_at 831 (by decide +kernel) (by decide +kernel)⟩, rfl, by decide, by decide, by decide +kernel⟩
set_option maxHeartbeats 1000000 in
theorem mc_L_debt (l : Launch) (hl : l.stackTraces = false) (D : va_G) (ta : wTa) (ad : wAd) (M : Wm) (p1 : Int32) (p2 : Int32) (hk : (f11_debt M p1 p2).1.1 = 0 ∨ (f11_debt M p1 p2).1.1 = 1) : MH l D ta ad yL_debt cL_debt 5 (some .int) [(0, 10, 13, 13)] 9 2 [.ref (ad 11 0 0), .int p1, .int p2, .ref (ad 13 0 0)] M (fxi (fw13 (kfI 1 1) (f11_debt M p1 p2))) := by
  refine MH.of fxi (fw13 (kfI 1 1) (f11_debt M p1 p2)) rfl (by decide) (Nat.le_of_ble_eq_true rfl) (fun p e s m args below meth c cx hzx hcx ht hr => ?_)
  have hM := mc_X11_debt l hl D ta ad M p1 p2
  generalize hz : f11_debt M p1 p2 = z at hM hk ⊢
  refine mw_sub (lv' := [(0, .ref (ad 11 0 0)), (1, .int p1), (2, .int p2), (3, .ref (ad 13 0 0))]) [0, 1, 2, 3] rfl ?_
  refine mw_aload_n cx (q := 1) 3 rfl rfl dL_debt_0 rfl ?_
  refine mw_iconst cx (q := 2) (v := 0) dL_debt_1 rfl rfl ?_
  refine mw_aload_n cx (q := 3) 0 rfl rfl dL_debt_2 rfl ?_
  refine mw_iload_n cx (q := 4) 1 rfl rfl dL_debt_3 rfl ?_
  refine mw_iload_n cx (q := 5) 2 rfl rfl dL_debt_4 rfl ?_
  refine mx_callV cx hzx (q := 8) (d := 8) (u0 := 2) (As := [.int p1, .int p2]) (z := fxi z) (st := [.int 0, .ref (ad 13 0 0)]) (st1 := [.int z.1.2, .int 0, .ref (ad 13 0 0)]) (M' := z.2) hM cv_L_70 rfl rfl rfl vi_11_0 ⟨by decide, by decide⟩ ⟨by decide, by decide⟩ (by simp [Value.category]) rfl rfl rfl dL_debt_5 rfl (fun h0 ls hl H1 locs1 q ce a1 a2 a3 a4 a5 => ?_) (fun h0 => ?_)
  · rcases hk with k0 | k1
    · exact absurd k0 h0
    · have ez : (fxi z).1.1 = 1 := k1
      rw [ez] at a5
      refine mh_catch cx hzx hcx (k := 1) (lv := [(0, .ref (ad 11 0 0)), (1, .int p1), (2, .int p2), (3, .ref (ad 13 0 0))]) (by decide) ht [] (0, 10, 13, 13) [] rfl (by intro z hz; cases hz) rfl (by decide) xl_13 xc_1 hl a1 a2 a3 a4 a5 ?_
      refine mw_astore cx (q := 15) (lv' := [(4, .ref q), (0, .ref (ad 11 0 0)), (1, .int p1), (2, .int p2), (3, .ref (ad 13 0 0))]) rfl (by decide) dL_debt_13 rfl ?_
      refine mw_iconst cx (q := 16) (v := 1) dL_debt_15 rfl rfl ?_
      exact mx_iret cx hr rfl (by rw [fw13_x k1 (by decide)]; rfl) ⟨by decide, by decide⟩ dL_debt_16
  · have ez : z.1.1 = 0 := h0
    refine mw_i2l cx (q := 9) dL_debt_8 rfl ?_
    refine mw_last cx (q := 10) (x := z.1.2) rfl dL_debt_9 rfl ?_
    refine mw_goto cx (tgt := 17) dL_debt_10 (by decide) ?_
    refine mw_iconst cx (q := 18) (v := 0) dL_debt_17 rfl rfl ?_
    exact mx_iret cx hr rfl (by rw [fw13_0 ez]; rfl) ⟨by decide, by decide⟩ dL_debt_18
theorem cv_L_73 : CV RL 73 yX11_order RX11 cX11_order 5 (some .int) 4 := ⟨⟨BG_at 835 (by decide +kernel) (by decide +kernel), BG_at 836 (by decide +kernel) (by decide +kernel), BG_at 837 (by decide +kernel) (by decide +kernel), BG_at 80 (by decide +kernel) (by decide +kernel), BG_at 838 (by decide +kernel) (by decide +kernel)⟩, rfl, by decide, by decide, by decide +kernel⟩
set_option maxHeartbeats 1000000 in
theorem mc_L_order (l : Launch) (hl : l.stackTraces = false) (D : va_G) (ta : wTa) (ad : wAd) (M : Wm) (p1 : Int32) (p2 : Int32) (p3 : Int32) (p4 : Int32) (hc0 : 0 ≤ (M 4 0 0 1).toInt) (hk : (f11_order M p1 p2 p3 p4).1.1 = 0 ∨ (f11_order M p1 p2 p3 p4).1.1 = 1 ∨ (f11_order M p1 p2 p3 p4).1.1 = 2) : MH l D ta ad yL_order cL_order 7 (some .int) [(0, 14, 17, 13), (0, 14, 21, 15)] 9 4 [.ref (ad 11 0 0), .int p1, .int p2, .int p3, .int p4, .ref (ad 13 0 0)] M (fxi (fw13 (kfI 1 2) (f11_order M p1 p2 p3 p4))) := by
  refine MH.of fxi (fw13 (kfI 1 2) (f11_order M p1 p2 p3 p4)) rfl (by decide) (Nat.le_of_ble_eq_true rfl) (fun p e s m args below meth c cx hzx hcx ht hr => ?_)
  have hM := mc_X11_order l hl D ta ad M p1 p2 p3 p4 hc0
  generalize hz : f11_order M p1 p2 p3 p4 = z at hM hk ⊢
  refine mw_sub (lv' := [(0, .ref (ad 11 0 0)), (1, .int p1), (2, .int p2), (3, .int p3), (4, .int p4), (5, .ref (ad 13 0 0))]) [0, 1, 2, 3, 4, 5] rfl ?_
  refine mw_aload cx (q := 2) 5 rfl dL_order_0 rfl ?_
  refine mw_iconst cx (q := 3) (v := 0) dL_order_2 rfl rfl ?_
  refine mw_aload_n cx (q := 4) 0 rfl rfl dL_order_3 rfl ?_
  refine mw_iload_n cx (q := 5) 1 rfl rfl dL_order_4 rfl ?_
  refine mw_iload_n cx (q := 6) 2 rfl rfl dL_order_5 rfl ?_
  refine mw_iload_n cx (q := 7) 3 rfl rfl dL_order_6 rfl ?_
  refine mw_iload cx (q := 9) 4 rfl dL_order_7 rfl ?_
  refine mx_callV cx hzx (q := 12) (d := 8) (u0 := 4) (As := [.int p1, .int p2, .int p3, .int p4]) (z := fxi z) (st := [.int 0, .ref (ad 13 0 0)]) (st1 := [.int z.1.2, .int 0, .ref (ad 13 0 0)]) (M' := z.2) hM cv_L_73 rfl rfl rfl vi_11_0 ⟨by decide, by decide⟩ ⟨by decide, by decide⟩ (by simp [Value.category]) rfl rfl rfl dL_order_9 rfl (fun h0 ls hl H1 locs1 q ce a1 a2 a3 a4 a5 => ?_) (fun h0 => ?_)
  · rcases hk with k0 | k1 | k2
    · exact absurd k0 h0
    · have ez : (fxi z).1.1 = 1 := k1
      rw [ez] at a5
      refine mh_catch cx hzx hcx (k := 1) (lv := [(0, .ref (ad 11 0 0)), (1, .int p1), (2, .int p2), (3, .int p3), (4, .int p4), (5, .ref (ad 13 0 0))]) (by decide) ht [] (0, 14, 17, 13) [(0, 14, 21, 15)] rfl (by intro z hz; cases hz) rfl (by decide) xl_13 xc_1 hl a1 a2 a3 a4 a5 ?_
      refine mw_astore cx (q := 19) (lv' := [(6, .ref q), (0, .ref (ad 11 0 0)), (1, .int p1), (2, .int p2), (3, .int p3), (4, .int p4), (5, .ref (ad 13 0 0))]) rfl (by decide) dL_order_17 rfl ?_
      refine mw_iconst cx (q := 20) (v := 1) dL_order_19 rfl rfl ?_
      exact mx_iret cx hr rfl (by rw [fw13_x k1 (by decide)]; rfl) ⟨by decide, by decide⟩ dL_order_20
    · have ez : (fxi z).1.1 = 2 := k2
      rw [ez] at a5
      refine mh_catch cx hzx hcx (k := 2) (lv := [(0, .ref (ad 11 0 0)), (1, .int p1), (2, .int p2), (3, .int p3), (4, .int p4), (5, .ref (ad 13 0 0))]) (by decide) ht [(0, 14, 17, 13)] (0, 14, 21, 15) [] rfl (by intro z hz; simp only [List.mem_cons, List.not_mem_nil, or_false] at hz; rcases hz with rfl <;> first | exact ⟨by decide, 1, by decide, by decide, xl_13⟩) rfl (by decide) xl_15 xc_2 hl a1 a2 a3 a4 a5 ?_
      refine mw_astore cx (q := 23) (lv' := [(6, .ref q), (0, .ref (ad 11 0 0)), (1, .int p1), (2, .int p2), (3, .int p3), (4, .int p4), (5, .ref (ad 13 0 0))]) rfl (by decide) dL_order_21 rfl ?_
      refine mw_iconst cx (q := 24) (v := 2) dL_order_23 rfl rfl ?_
      exact mx_iret cx hr rfl (by rw [fw13_x k2 (by decide)]; rfl) ⟨by decide, by decide⟩ dL_order_24
  · have ez : z.1.1 = 0 := h0
    refine mw_i2l cx (q := 13) dL_order_12 rfl ?_
    refine mw_last cx (q := 14) (x := z.1.2) rfl dL_order_13 rfl ?_
    refine mw_goto cx (tgt := 25) dL_order_14 (by decide) ?_
    refine mw_iconst cx (q := 26) (v := 0) dL_order_25 rfl rfl ?_
    exact mx_iret cx hr rfl (by rw [fw13_0 ez]; rfl) ⟨by decide, by decide⟩ dL_order_26
theorem cv_L_77 : CV RL 77 yX11_pass RX11 cX11_pass 7 (some .int) 1 := ⟨⟨BG_at 851 (by decide +kernel) (by decide +kernel), BG_at 852 (by decide +kernel) (by decide +kernel), BG_at 853 (by decide +kernel) (by decide +kernel), BG_at 80 (by decide +kernel) (by decide +kernel), BG_at 854 (by decide +kernel) (by decide +kernel)⟩, rfl, by decide, by decide, by decide +kernel⟩
set_option maxHeartbeats 1000000 in
theorem mc_L_pass (l : Launch) (hl : l.stackTraces = false) (D : va_G) (ta : wTa) (ad : wAd) (M : Wm) (p1 : Int32) (J : Int32 → Wm → Prop) (hJ : PsJ J p1 M) (hk : (f11_pass M p1).1.1 = 0 ∨ (f11_pass M p1).1.1 = 1 ∨ (f11_pass M p1).1.1 = 2) : MH l D ta ad yL_pass cL_pass 4 (some .int) [(0, 9, 12, 13), (0, 9, 15, 15)] 221 2 [.ref (ad 11 0 0), .int p1, .ref (ad 13 0 0)] M (fxi (fw13 (kfI 1 2) (f11_pass M p1))) := by
  refine MH.of fxi (fw13 (kfI 1 2) (f11_pass M p1)) rfl (by decide) (Nat.le_of_ble_eq_true rfl) (fun p e s m args below meth c cx hzx hcx ht hr => ?_)
  have hM := mc_X11_pass l hl D ta ad M p1 J hJ
  generalize hz : f11_pass M p1 = z at hM hk ⊢
  refine mw_sub (lv' := [(0, .ref (ad 11 0 0)), (1, .int p1), (2, .ref (ad 13 0 0))]) [0, 1, 2] rfl ?_
  refine mw_aload_n cx (q := 1) 2 rfl rfl dL_pass_0 rfl ?_
  refine mw_iconst cx (q := 2) (v := 0) dL_pass_1 rfl rfl ?_
  refine mw_aload_n cx (q := 3) 0 rfl rfl dL_pass_2 rfl ?_
  refine mw_iload_n cx (q := 4) 1 rfl rfl dL_pass_3 rfl ?_
  refine mx_callV cx hzx (q := 7) (d := 220) (u0 := 2) (As := [.int p1]) (z := fxi z) (st := [.int 0, .ref (ad 13 0 0)]) (st1 := [.int z.1.2, .int 0, .ref (ad 13 0 0)]) (M' := z.2) hM cv_L_77 rfl rfl rfl vi_11_0 ⟨by decide, by decide⟩ ⟨by decide, by decide⟩ (by simp [Value.category]) rfl rfl rfl dL_pass_4 rfl (fun h0 ls hl H1 locs1 q ce a1 a2 a3 a4 a5 => ?_) (fun h0 => ?_)
  · rcases hk with k0 | k1 | k2
    · exact absurd k0 h0
    · have ez : (fxi z).1.1 = 1 := k1
      rw [ez] at a5
      refine mh_catch cx hzx hcx (k := 1) (lv := [(0, .ref (ad 11 0 0)), (1, .int p1), (2, .ref (ad 13 0 0))]) (by decide) ht [] (0, 9, 12, 13) [(0, 9, 15, 15)] rfl (by intro z hz; cases hz) rfl (by decide) xl_13 xc_1 hl a1 a2 a3 a4 a5 ?_
      refine mw_astore_n cx (q := 13) (lv' := [(3, .ref q), (0, .ref (ad 11 0 0)), (1, .int p1), (2, .ref (ad 13 0 0))]) rfl rfl (by decide) dL_pass_12 rfl ?_
      refine mw_iconst cx (q := 14) (v := 1) dL_pass_13 rfl rfl ?_
      exact mx_iret cx hr rfl (by rw [fw13_x k1 (by decide)]; rfl) ⟨by decide, by decide⟩ dL_pass_14
    · have ez : (fxi z).1.1 = 2 := k2
      rw [ez] at a5
      refine mh_catch cx hzx hcx (k := 2) (lv := [(0, .ref (ad 11 0 0)), (1, .int p1), (2, .ref (ad 13 0 0))]) (by decide) ht [(0, 9, 12, 13)] (0, 9, 15, 15) [] rfl (by intro z hz; simp only [List.mem_cons, List.not_mem_nil, or_false] at hz; rcases hz with rfl <;> first | exact ⟨by decide, 1, by decide, by decide, xl_13⟩) rfl (by decide) xl_15 xc_2 hl a1 a2 a3 a4 a5 ?_
      refine mw_astore_n cx (q := 16) (lv' := [(3, .ref q), (0, .ref (ad 11 0 0)), (1, .int p1), (2, .ref (ad 13 0 0))]) rfl rfl (by decide) dL_pass_15 rfl ?_
      refine mw_iconst cx (q := 17) (v := 2) dL_pass_16 rfl rfl ?_
      exact mx_iret cx hr rfl (by rw [fw13_x k2 (by decide)]; rfl) ⟨by decide, by decide⟩ dL_pass_17
  · have ez : z.1.1 = 0 := h0
    refine mw_i2l cx (q := 8) dL_pass_7 rfl ?_
    refine mw_last cx (q := 9) (x := z.1.2) rfl dL_pass_8 rfl ?_
    refine mw_goto cx (tgt := 18) dL_pass_9 (by decide) ?_
    refine mw_iconst cx (q := 19) (v := 0) dL_pass_18 rfl rfl ?_
    exact mx_iret cx hr rfl (by rw [fw13_0 ez]; rfl) ⟨by decide, by decide⟩ dL_pass_19
theorem cv_L_80 : CV RL 80 yX11_takeUp RX11 cX11_takeUp 4 (some .int) 2 := ⟨⟨BG_at 1126 (by decide +kernel) (by decide +kernel), BG_at 1127 (by decide +kernel) (by decide +kernel), BG_at 1128 (by decide +kernel) (by decide +kernel), BG_at 80 (by decide +kernel) (by decide +kernel), BG_at 1129 (by decide +kernel) (by decide +kernel)⟩, rfl, by decide, by decide, by decide +kernel⟩
set_option maxHeartbeats 1000000 in
theorem mc_L_takeUp (l : Launch) (hl : l.stackTraces = false) (D : va_G) (ta : wTa) (ad : wAd) (M : Wm) (p1 : Int32) (p2 : Int32) (hc1 : (M 4 0 0 1).toInt ≤ 60) (hE : 0 ≤ p1.toInt → p1.toInt < (M 4 0 0 1).toInt → ExP M p1) (hk : (f11_takeUp M p1 p2).1.1 = 0 ∨ (f11_takeUp M p1 p2).1.1 = 3 ∨ (f11_takeUp M p1 p2).1.1 = 1 ∨ (f11_takeUp M p1 p2).1.1 = 2) : MH l D ta ad yL_takeUp cL_takeUp 5 (some .int) [(0, 10, 13, 27), (0, 10, 17, 13), (0, 10, 21, 15)] 221 3 [.ref (ad 11 0 0), .int p1, .int p2, .ref (ad 13 0 0)] M (fxi (fw13 (kfI 3 1) (f11_takeUp M p1 p2))) := by
  refine MH.of fxi (fw13 (kfI 3 1) (f11_takeUp M p1 p2)) rfl (by decide) (Nat.le_of_ble_eq_true rfl) (fun p e s m args below meth c cx hzx hcx ht hr => ?_)
  have hM := mc_X11_takeUp l hl D ta ad M p1 p2 hc1 hE
  generalize hz : f11_takeUp M p1 p2 = z at hM hk ⊢
  refine mw_sub (lv' := [(0, .ref (ad 11 0 0)), (1, .int p1), (2, .int p2), (3, .ref (ad 13 0 0))]) [0, 1, 2, 3] rfl ?_
  refine mw_aload_n cx (q := 1) 3 rfl rfl dL_takeUp_0 rfl ?_
  refine mw_iconst cx (q := 2) (v := 0) dL_takeUp_1 rfl rfl ?_
  refine mw_aload_n cx (q := 3) 0 rfl rfl dL_takeUp_2 rfl ?_
  refine mw_iload_n cx (q := 4) 1 rfl rfl dL_takeUp_3 rfl ?_
  refine mw_iload_n cx (q := 5) 2 rfl rfl dL_takeUp_4 rfl ?_
  refine mx_callV cx hzx (q := 8) (d := 220) (u0 := 3) (As := [.int p1, .int p2]) (z := fxi z) (st := [.int 0, .ref (ad 13 0 0)]) (st1 := [.int z.1.2, .int 0, .ref (ad 13 0 0)]) (M' := z.2) hM cv_L_80 rfl rfl rfl vi_11_0 ⟨by decide, by decide⟩ ⟨by decide, by decide⟩ (by simp [Value.category]) rfl rfl rfl dL_takeUp_5 rfl (fun h0 ls hl H1 locs1 q ce a1 a2 a3 a4 a5 => ?_) (fun h0 => ?_)
  · rcases hk with k0 | k1 | k2 | k3
    · exact absurd k0 h0
    · have ez : (fxi z).1.1 = 3 := k1
      rw [ez] at a5
      refine mh_catch cx hzx hcx (k := 3) (lv := [(0, .ref (ad 11 0 0)), (1, .int p1), (2, .int p2), (3, .ref (ad 13 0 0))]) (by decide) ht [] (0, 10, 13, 27) [(0, 10, 17, 13), (0, 10, 21, 15)] rfl (by intro z hz; cases hz) rfl (by decide) xl_27 xc_3 hl a1 a2 a3 a4 a5 ?_
      refine mw_astore cx (q := 15) (lv' := [(4, .ref q), (0, .ref (ad 11 0 0)), (1, .int p1), (2, .int p2), (3, .ref (ad 13 0 0))]) rfl (by decide) dL_takeUp_13 rfl ?_
      refine mw_iconst cx (q := 16) (v := 1) dL_takeUp_15 rfl rfl ?_
      exact mx_iret cx hr rfl (by rw [fw13_x k1 (by decide)]; rfl) ⟨by decide, by decide⟩ dL_takeUp_16
    · have ez : (fxi z).1.1 = 1 := k2
      rw [ez] at a5
      refine mh_catch cx hzx hcx (k := 1) (lv := [(0, .ref (ad 11 0 0)), (1, .int p1), (2, .int p2), (3, .ref (ad 13 0 0))]) (by decide) ht [(0, 10, 13, 27)] (0, 10, 17, 13) [(0, 10, 21, 15)] rfl (by intro z hz; simp only [List.mem_cons, List.not_mem_nil, or_false] at hz; rcases hz with rfl <;> first | exact ⟨by decide, 3, by decide, by decide, xl_27⟩) rfl (by decide) xl_13 xc_1 hl a1 a2 a3 a4 a5 ?_
      refine mw_astore cx (q := 19) (lv' := [(4, .ref q), (0, .ref (ad 11 0 0)), (1, .int p1), (2, .int p2), (3, .ref (ad 13 0 0))]) rfl (by decide) dL_takeUp_17 rfl ?_
      refine mw_iconst cx (q := 20) (v := 2) dL_takeUp_19 rfl rfl ?_
      exact mx_iret cx hr rfl (by rw [fw13_x k2 (by decide)]; rfl) ⟨by decide, by decide⟩ dL_takeUp_20
    · have ez : (fxi z).1.1 = 2 := k3
      rw [ez] at a5
      refine mh_catch cx hzx hcx (k := 2) (lv := [(0, .ref (ad 11 0 0)), (1, .int p1), (2, .int p2), (3, .ref (ad 13 0 0))]) (by decide) ht [(0, 10, 13, 27), (0, 10, 17, 13)] (0, 10, 21, 15) [] rfl (by intro z hz; simp only [List.mem_cons, List.not_mem_nil, or_false] at hz; rcases hz with rfl | rfl <;> first | exact ⟨by decide, 3, by decide, by decide, xl_27⟩ | exact ⟨by decide, 1, by decide, by decide, xl_13⟩) rfl (by decide) xl_15 xc_2 hl a1 a2 a3 a4 a5 ?_
      refine mw_astore cx (q := 23) (lv' := [(4, .ref q), (0, .ref (ad 11 0 0)), (1, .int p1), (2, .int p2), (3, .ref (ad 13 0 0))]) rfl (by decide) dL_takeUp_21 rfl ?_
      refine mw_iconst cx (q := 24) (v := 3) dL_takeUp_23 rfl rfl ?_
      exact mx_iret cx hr rfl (by rw [fw13_x k3 (by decide)]; rfl) ⟨by decide, by decide⟩ dL_takeUp_24
  · have ez : z.1.1 = 0 := h0
    refine mw_i2l cx (q := 9) dL_takeUp_8 rfl ?_
    refine mw_last cx (q := 10) (x := z.1.2) rfl dL_takeUp_9 rfl ?_
    refine mw_goto cx (tgt := 25) dL_takeUp_10 (by decide) ?_
    refine mw_iconst cx (q := 26) (v := 0) dL_takeUp_25 rfl rfl ?_
    exact mx_iret cx hr rfl (by rw [fw13_0 ez]; rfl) ⟨by decide, by decide⟩ dL_takeUp_26
theorem cv_L_83 : CV RL 83 yX11_state RX11 cX11_state 2 (some .int) 1 := ⟨⟨BG_at 1137 (by decide +kernel) (by decide +kernel), BG_at 1138 (by decide +kernel) (by decide +kernel), BG_at 1139 (by decide +kernel) (by decide +kernel), BG_at 80 (by decide +kernel) (by decide +kernel), BG_at 1140 (by decide +kernel) (by decide +kernel)⟩, rfl, by decide, by decide, by decide +kernel⟩
set_option maxHeartbeats 1000000 in
theorem mc_L_state (l : Launch) (hl : l.stackTraces = false) (D : va_G) (ta : wTa) (ad : wAd) (M : Wm) (p1 : Int32) (hc1 : (M 4 0 0 1).toInt ≤ 60) (hk : (f11_state M p1).1.1 = 0 ∨ (f11_state M p1).1.1 = 3) : MH l D ta ad yL_state cL_state 4 (some .int) [(0, 9, 12, 27)] 9 1 [.ref (ad 11 0 0), .int p1, .ref (ad 13 0 0)] M (fxi (fw13 (kfI 3 3) (f11_state M p1))) := by
  refine MH.of fxi (fw13 (kfI 3 3) (f11_state M p1)) rfl (by decide) (Nat.le_of_ble_eq_true rfl) (fun p e s m args below meth c cx hzx hcx ht hr => ?_)
  have hM := mc_X11_state l hl D ta ad M p1 hc1
  generalize hz : f11_state M p1 = z at hM hk ⊢
  refine mw_sub (lv' := [(0, .ref (ad 11 0 0)), (1, .int p1), (2, .ref (ad 13 0 0))]) [0, 1, 2] rfl ?_
  refine mw_aload_n cx (q := 1) 2 rfl rfl dL_state_0 rfl ?_
  refine mw_iconst cx (q := 2) (v := 0) dL_state_1 rfl rfl ?_
  refine mw_aload_n cx (q := 3) 0 rfl rfl dL_state_2 rfl ?_
  refine mw_iload_n cx (q := 4) 1 rfl rfl dL_state_3 rfl ?_
  refine mx_callV cx hzx (q := 7) (d := 8) (u0 := 1) (As := [.int p1]) (z := fxi z) (st := [.int 0, .ref (ad 13 0 0)]) (st1 := [.int z.1.2, .int 0, .ref (ad 13 0 0)]) (M' := z.2) hM cv_L_83 rfl rfl rfl vi_11_0 ⟨by decide, by decide⟩ ⟨by decide, by decide⟩ (by simp [Value.category]) rfl rfl rfl dL_state_4 rfl (fun h0 ls hl H1 locs1 q ce a1 a2 a3 a4 a5 => ?_) (fun h0 => ?_)
  · rcases hk with k0 | k1
    · exact absurd k0 h0
    · have ez : (fxi z).1.1 = 3 := k1
      rw [ez] at a5
      refine mh_catch cx hzx hcx (k := 3) (lv := [(0, .ref (ad 11 0 0)), (1, .int p1), (2, .ref (ad 13 0 0))]) (by decide) ht [] (0, 9, 12, 27) [] rfl (by intro z hz; cases hz) rfl (by decide) xl_27 xc_3 hl a1 a2 a3 a4 a5 ?_
      refine mw_astore_n cx (q := 13) (lv' := [(3, .ref q), (0, .ref (ad 11 0 0)), (1, .int p1), (2, .ref (ad 13 0 0))]) rfl rfl (by decide) dL_state_12 rfl ?_
      refine mw_iconst cx (q := 14) (v := 1) dL_state_13 rfl rfl ?_
      exact mx_iret cx hr rfl (by rw [fw13_x k1 (by decide)]; rfl) ⟨by decide, by decide⟩ dL_state_14
  · have ez : z.1.1 = 0 := h0
    refine mw_i2l cx (q := 8) dL_state_7 rfl ?_
    refine mw_last cx (q := 9) (x := z.1.2) rfl dL_state_8 rfl ?_
    refine mw_goto cx (tgt := 15) dL_state_9 (by decide) ?_
    refine mw_iconst cx (q := 16) (v := 0) dL_state_15 rfl rfl ?_
    exact mx_iret cx hr rfl (by rw [fw13_0 ez]; rfl) ⟨by decide, by decide⟩ dL_state_16
theorem cv_L_86 : CV RL 86 yX11_why RX11 cX11_why 2 (some .int) 1 := ⟨⟨BG_at 1144 (by decide +kernel) (by decide +kernel), BG_at 1145 (by decide +kernel) (by decide +kernel), BG_at 1146 (by decide +kernel) (by decide +kernel), BG_at 80 (by decide +kernel) (by decide +kernel), BG_at 1147 (by decide +kernel) (by decide +kernel)⟩, rfl, by decide, by decide, by decide +kernel⟩
set_option maxHeartbeats 1000000 in
theorem mc_L_why (l : Launch) (hl : l.stackTraces = false) (D : va_G) (ta : wTa) (ad : wAd) (M : Wm) (p1 : Int32) (hc1 : (M 4 0 0 1).toInt ≤ 60) (hk : (f11_why M p1).1.1 = 0 ∨ (f11_why M p1).1.1 = 3) : MH l D ta ad yL_why cL_why 4 (some .int) [(0, 9, 12, 27)] 9 1 [.ref (ad 11 0 0), .int p1, .ref (ad 13 0 0)] M (fxi (fw13 (kfI 3 3) (f11_why M p1))) := by
  refine MH.of fxi (fw13 (kfI 3 3) (f11_why M p1)) rfl (by decide) (Nat.le_of_ble_eq_true rfl) (fun p e s m args below meth c cx hzx hcx ht hr => ?_)
  have hM := mc_X11_why l hl D ta ad M p1 hc1
  generalize hz : f11_why M p1 = z at hM hk ⊢
  refine mw_sub (lv' := [(0, .ref (ad 11 0 0)), (1, .int p1), (2, .ref (ad 13 0 0))]) [0, 1, 2] rfl ?_
  refine mw_aload_n cx (q := 1) 2 rfl rfl dL_why_0 rfl ?_
  refine mw_iconst cx (q := 2) (v := 0) dL_why_1 rfl rfl ?_
  refine mw_aload_n cx (q := 3) 0 rfl rfl dL_why_2 rfl ?_
  refine mw_iload_n cx (q := 4) 1 rfl rfl dL_why_3 rfl ?_
  refine mx_callV cx hzx (q := 7) (d := 8) (u0 := 1) (As := [.int p1]) (z := fxi z) (st := [.int 0, .ref (ad 13 0 0)]) (st1 := [.int z.1.2, .int 0, .ref (ad 13 0 0)]) (M' := z.2) hM cv_L_86 rfl rfl rfl vi_11_0 ⟨by decide, by decide⟩ ⟨by decide, by decide⟩ (by simp [Value.category]) rfl rfl rfl dL_why_4 rfl (fun h0 ls hl H1 locs1 q ce a1 a2 a3 a4 a5 => ?_) (fun h0 => ?_)
  · rcases hk with k0 | k1
    · exact absurd k0 h0
    · have ez : (fxi z).1.1 = 3 := k1
      rw [ez] at a5
      refine mh_catch cx hzx hcx (k := 3) (lv := [(0, .ref (ad 11 0 0)), (1, .int p1), (2, .ref (ad 13 0 0))]) (by decide) ht [] (0, 9, 12, 27) [] rfl (by intro z hz; cases hz) rfl (by decide) xl_27 xc_3 hl a1 a2 a3 a4 a5 ?_
      refine mw_astore_n cx (q := 13) (lv' := [(3, .ref q), (0, .ref (ad 11 0 0)), (1, .int p1), (2, .ref (ad 13 0 0))]) rfl rfl (by decide) dL_why_12 rfl ?_
      refine mw_iconst cx (q := 14) (v := 1) dL_why_13 rfl rfl ?_
      exact mx_iret cx hr rfl (by rw [fw13_x k1 (by decide)]; rfl) ⟨by decide, by decide⟩ dL_why_14
  · have ez : z.1.1 = 0 := h0
    refine mw_i2l cx (q := 8) dL_why_7 rfl ?_
    refine mw_last cx (q := 9) (x := z.1.2) rfl dL_why_8 rfl ?_
    refine mw_goto cx (tgt := 15) dL_why_9 (by decide) ?_
    refine mw_iconst cx (q := 16) (v := 0) dL_why_15 rfl rfl ?_
    exact mx_iret cx hr rfl (by rw [fw13_0 ez]; rfl) ⟨by decide, by decide⟩ dL_why_16
theorem cv_L_89 : CV RL 89 yX11_done RX11 cX11_done 2 (some .int) 1 := ⟨⟨BG_at 1151 (by decide +kernel) (by decide +kernel), BG_at 1152 (by decide +kernel) (by decide +kernel), BG_at 1153 (by decide +kernel) (by decide +kernel), BG_at 80 (by decide +kernel) (by decide +kernel), BG_at 1154 (by decide +kernel) (by decide +kernel)⟩, rfl, by decide, by decide, by decide +kernel⟩
set_option maxHeartbeats 1000000 in
theorem mc_L_done (l : Launch) (hl : l.stackTraces = false) (D : va_G) (ta : wTa) (ad : wAd) (M : Wm) (p1 : Int32) (hc1 : (M 4 0 0 1).toInt ≤ 60) (hk : (f11_done M p1).1.1 = 0 ∨ (f11_done M p1).1.1 = 3) : MH l D ta ad yL_done cL_done 4 (some .int) [(0, 9, 12, 27)] 9 1 [.ref (ad 11 0 0), .int p1, .ref (ad 13 0 0)] M (fxi (fw13 (kfI 3 3) (f11_done M p1))) := by
  refine MH.of fxi (fw13 (kfI 3 3) (f11_done M p1)) rfl (by decide) (Nat.le_of_ble_eq_true rfl) (fun p e s m args below meth c cx hzx hcx ht hr => ?_)
  have hM := mc_X11_done l hl D ta ad M p1 hc1
  generalize hz : f11_done M p1 = z at hM hk ⊢
  refine mw_sub (lv' := [(0, .ref (ad 11 0 0)), (1, .int p1), (2, .ref (ad 13 0 0))]) [0, 1, 2] rfl ?_
  refine mw_aload_n cx (q := 1) 2 rfl rfl dL_done_0 rfl ?_
  refine mw_iconst cx (q := 2) (v := 0) dL_done_1 rfl rfl ?_
  refine mw_aload_n cx (q := 3) 0 rfl rfl dL_done_2 rfl ?_
  refine mw_iload_n cx (q := 4) 1 rfl rfl dL_done_3 rfl ?_
  refine mx_callV cx hzx (q := 7) (d := 8) (u0 := 1) (As := [.int p1]) (z := fxi z) (st := [.int 0, .ref (ad 13 0 0)]) (st1 := [.int z.1.2, .int 0, .ref (ad 13 0 0)]) (M' := z.2) hM cv_L_89 rfl rfl rfl vi_11_0 ⟨by decide, by decide⟩ ⟨by decide, by decide⟩ (by simp [Value.category]) rfl rfl rfl dL_done_4 rfl (fun h0 ls hl H1 locs1 q ce a1 a2 a3 a4 a5 => ?_) (fun h0 => ?_)
  · rcases hk with k0 | k1
    · exact absurd k0 h0
    · have ez : (fxi z).1.1 = 3 := k1
      rw [ez] at a5
      refine mh_catch cx hzx hcx (k := 3) (lv := [(0, .ref (ad 11 0 0)), (1, .int p1), (2, .ref (ad 13 0 0))]) (by decide) ht [] (0, 9, 12, 27) [] rfl (by intro z hz; cases hz) rfl (by decide) xl_27 xc_3 hl a1 a2 a3 a4 a5 ?_
      refine mw_astore_n cx (q := 13) (lv' := [(3, .ref q), (0, .ref (ad 11 0 0)), (1, .int p1), (2, .ref (ad 13 0 0))]) rfl rfl (by decide) dL_done_12 rfl ?_
      refine mw_iconst cx (q := 14) (v := 1) dL_done_13 rfl rfl ?_
      exact mx_iret cx hr rfl (by rw [fw13_x k1 (by decide)]; rfl) ⟨by decide, by decide⟩ dL_done_14
  · have ez : z.1.1 = 0 := h0
    refine mw_i2l cx (q := 8) dL_done_7 rfl ?_
    refine mw_last cx (q := 9) (x := z.1.2) rfl dL_done_8 rfl ?_
    refine mw_goto cx (tgt := 15) dL_done_9 (by decide) ?_
    refine mw_iconst cx (q := 16) (v := 0) dL_done_15 rfl rfl ?_
    exact mx_iret cx hr rfl (by rw [fw13_0 ez]; rfl) ⟨by decide, by decide⟩ dL_done_16
theorem cv_L_92 : CV RL 92 yX11_value RX11 cX11_value 2 (some .int) 1 := ⟨⟨BG_at 1158 (by decide +kernel) (by decide +kernel), BG_at 1159 (by decide +kernel) (by decide +kernel), BG_at 1160 (by decide +kernel) (by decide +kernel), BG_at 80 (by decide +kernel) (by decide +kernel), BG_at 1161 (by decide +kernel) (by decide +kernel)⟩, rfl, by decide, by decide, by decide +kernel⟩
set_option maxHeartbeats 1000000 in
theorem mc_L_value (l : Launch) (hl : l.stackTraces = false) (D : va_G) (ta : wTa) (ad : wAd) (M : Wm) (p1 : Int32) (hc1 : (M 4 0 0 1).toInt ≤ 60) (hk : (f11_value M p1).1.1 = 0 ∨ (f11_value M p1).1.1 = 3) : MH l D ta ad yL_value cL_value 4 (some .int) [(0, 9, 12, 27)] 9 1 [.ref (ad 11 0 0), .int p1, .ref (ad 13 0 0)] M (fxi (fw13 (kfI 3 3) (f11_value M p1))) := by
  refine MH.of fxi (fw13 (kfI 3 3) (f11_value M p1)) rfl (by decide) (Nat.le_of_ble_eq_true rfl) (fun p e s m args below meth c cx hzx hcx ht hr => ?_)
  have hM := mc_X11_value l hl D ta ad M p1 hc1
  generalize hz : f11_value M p1 = z at hM hk ⊢
  refine mw_sub (lv' := [(0, .ref (ad 11 0 0)), (1, .int p1), (2, .ref (ad 13 0 0))]) [0, 1, 2] rfl ?_
  refine mw_aload_n cx (q := 1) 2 rfl rfl dL_value_0 rfl ?_
  refine mw_iconst cx (q := 2) (v := 0) dL_value_1 rfl rfl ?_
  refine mw_aload_n cx (q := 3) 0 rfl rfl dL_value_2 rfl ?_
  refine mw_iload_n cx (q := 4) 1 rfl rfl dL_value_3 rfl ?_
  refine mx_callV cx hzx (q := 7) (d := 8) (u0 := 1) (As := [.int p1]) (z := fxi z) (st := [.int 0, .ref (ad 13 0 0)]) (st1 := [.int z.1.2, .int 0, .ref (ad 13 0 0)]) (M' := z.2) hM cv_L_92 rfl rfl rfl vi_11_0 ⟨by decide, by decide⟩ ⟨by decide, by decide⟩ (by simp [Value.category]) rfl rfl rfl dL_value_4 rfl (fun h0 ls hl H1 locs1 q ce a1 a2 a3 a4 a5 => ?_) (fun h0 => ?_)
  · rcases hk with k0 | k1
    · exact absurd k0 h0
    · have ez : (fxi z).1.1 = 3 := k1
      rw [ez] at a5
      refine mh_catch cx hzx hcx (k := 3) (lv := [(0, .ref (ad 11 0 0)), (1, .int p1), (2, .ref (ad 13 0 0))]) (by decide) ht [] (0, 9, 12, 27) [] rfl (by intro z hz; cases hz) rfl (by decide) xl_27 xc_3 hl a1 a2 a3 a4 a5 ?_
      refine mw_astore_n cx (q := 13) (lv' := [(3, .ref q), (0, .ref (ad 11 0 0)), (1, .int p1), (2, .ref (ad 13 0 0))]) rfl rfl (by decide) dL_value_12 rfl ?_
      refine mw_iconst cx (q := 14) (v := 1) dL_value_13 rfl rfl ?_
      exact mx_iret cx hr rfl (by rw [fw13_x k1 (by decide)]; rfl) ⟨by decide, by decide⟩ dL_value_14
  · have ez : z.1.1 = 0 := h0
    refine mw_i2l cx (q := 8) dL_value_7 rfl ?_
    refine mw_last cx (q := 9) (x := z.1.2) rfl dL_value_8 rfl ?_
    refine mw_goto cx (tgt := 15) dL_value_9 (by decide) ?_
    refine mw_iconst cx (q := 16) (v := 0) dL_value_15 rfl rfl ?_
    exact mx_iret cx hr rfl (by rw [fw13_0 ez]; rfl) ⟨by decide, by decide⟩ dL_value_16
theorem cv_L_95 : CV RL 95 yX11_used RX11 cX11_used 2 (some .int) 1 := ⟨⟨BG_at 1165 (by decide +kernel) (by decide +kernel), BG_at 1166 (by decide +kernel) (by decide +kernel), BG_at 1167 (by decide +kernel) (by decide +kernel), BG_at 80 (by decide +kernel) (by decide +kernel), BG_at 1168 (by decide +kernel) (by decide +kernel)⟩, rfl, by decide, by decide, by decide +kernel⟩
set_option maxHeartbeats 1000000 in
theorem mc_L_used (l : Launch) (hl : l.stackTraces = false) (D : va_G) (ta : wTa) (ad : wAd) (M : Wm) (p1 : Int32) (hc1 : (M 4 0 0 1).toInt ≤ 60) (hk : (f11_used M p1).1.1 = 0 ∨ (f11_used M p1).1.1 = 3) : MH l D ta ad yL_used cL_used 4 (some .int) [(0, 9, 12, 27)] 9 1 [.ref (ad 11 0 0), .int p1, .ref (ad 13 0 0)] M (fxi (fw13 (kfI 3 3) (f11_used M p1))) := by
  refine MH.of fxi (fw13 (kfI 3 3) (f11_used M p1)) rfl (by decide) (Nat.le_of_ble_eq_true rfl) (fun p e s m args below meth c cx hzx hcx ht hr => ?_)
  have hM := mc_X11_used l hl D ta ad M p1 hc1
  generalize hz : f11_used M p1 = z at hM hk ⊢
  refine mw_sub (lv' := [(0, .ref (ad 11 0 0)), (1, .int p1), (2, .ref (ad 13 0 0))]) [0, 1, 2] rfl ?_
  refine mw_aload_n cx (q := 1) 2 rfl rfl dL_used_0 rfl ?_
  refine mw_iconst cx (q := 2) (v := 0) dL_used_1 rfl rfl ?_
  refine mw_aload_n cx (q := 3) 0 rfl rfl dL_used_2 rfl ?_
  refine mw_iload_n cx (q := 4) 1 rfl rfl dL_used_3 rfl ?_
  refine mx_callV cx hzx (q := 7) (d := 8) (u0 := 1) (As := [.int p1]) (z := fxi z) (st := [.int 0, .ref (ad 13 0 0)]) (st1 := [.int z.1.2, .int 0, .ref (ad 13 0 0)]) (M' := z.2) hM cv_L_95 rfl rfl rfl vi_11_0 ⟨by decide, by decide⟩ ⟨by decide, by decide⟩ (by simp [Value.category]) rfl rfl rfl dL_used_4 rfl (fun h0 ls hl H1 locs1 q ce a1 a2 a3 a4 a5 => ?_) (fun h0 => ?_)
  · rcases hk with k0 | k1
    · exact absurd k0 h0
    · have ez : (fxi z).1.1 = 3 := k1
      rw [ez] at a5
      refine mh_catch cx hzx hcx (k := 3) (lv := [(0, .ref (ad 11 0 0)), (1, .int p1), (2, .ref (ad 13 0 0))]) (by decide) ht [] (0, 9, 12, 27) [] rfl (by intro z hz; cases hz) rfl (by decide) xl_27 xc_3 hl a1 a2 a3 a4 a5 ?_
      refine mw_astore_n cx (q := 13) (lv' := [(3, .ref q), (0, .ref (ad 11 0 0)), (1, .int p1), (2, .ref (ad 13 0 0))]) rfl rfl (by decide) dL_used_12 rfl ?_
      refine mw_iconst cx (q := 14) (v := 1) dL_used_13 rfl rfl ?_
      exact mx_iret cx hr rfl (by rw [fw13_x k1 (by decide)]; rfl) ⟨by decide, by decide⟩ dL_used_14
  · have ez : z.1.1 = 0 := h0
    refine mw_i2l cx (q := 8) dL_used_7 rfl ?_
    refine mw_last cx (q := 9) (x := z.1.2) rfl dL_used_8 rfl ?_
    refine mw_goto cx (tgt := 15) dL_used_9 (by decide) ?_
    refine mw_iconst cx (q := 16) (v := 0) dL_used_15 rfl rfl ?_
    exact mx_iret cx hr rfl (by rw [fw13_0 ez]; rfl) ⟨by decide, by decide⟩ dL_used_16
theorem cv_L_98 : CV RL 98 yX11_hourOf RX11 cX11_hourOf 2 (some .int) 1 := ⟨⟨BG_at 1172 (by decide +kernel) (by decide +kernel), BG_at 1173 (by decide +kernel) (by decide +kernel), BG_at 1174 (by decide +kernel) (by decide +kernel), BG_at 80 (by decide +kernel) (by decide +kernel), BG_at 1175 (by decide +kernel) (by decide +kernel)⟩, rfl, by decide, by decide, by decide +kernel⟩
set_option maxHeartbeats 1000000 in
theorem mc_L_hourOf (l : Launch) (hl : l.stackTraces = false) (D : va_G) (ta : wTa) (ad : wAd) (M : Wm) (p1 : Int32) (hc1 : (M 4 0 0 1).toInt ≤ 60) (hk : (f11_hourOf M p1).1.1 = 0 ∨ (f11_hourOf M p1).1.1 = 3) : MH l D ta ad yL_hourOf cL_hourOf 4 (some .int) [(0, 9, 12, 27)] 9 1 [.ref (ad 11 0 0), .int p1, .ref (ad 13 0 0)] M (fxi (fw13 (kfI 3 3) (f11_hourOf M p1))) := by
  refine MH.of fxi (fw13 (kfI 3 3) (f11_hourOf M p1)) rfl (by decide) (Nat.le_of_ble_eq_true rfl) (fun p e s m args below meth c cx hzx hcx ht hr => ?_)
  have hM := mc_X11_hourOf l hl D ta ad M p1 hc1
  generalize hz : f11_hourOf M p1 = z at hM hk ⊢
  refine mw_sub (lv' := [(0, .ref (ad 11 0 0)), (1, .int p1), (2, .ref (ad 13 0 0))]) [0, 1, 2] rfl ?_
  refine mw_aload_n cx (q := 1) 2 rfl rfl dL_hourOf_0 rfl ?_
  refine mw_iconst cx (q := 2) (v := 0) dL_hourOf_1 rfl rfl ?_
  refine mw_aload_n cx (q := 3) 0 rfl rfl dL_hourOf_2 rfl ?_
  refine mw_iload_n cx (q := 4) 1 rfl rfl dL_hourOf_3 rfl ?_
  refine mx_callV cx hzx (q := 7) (d := 8) (u0 := 1) (As := [.int p1]) (z := fxi z) (st := [.int 0, .ref (ad 13 0 0)]) (st1 := [.int z.1.2, .int 0, .ref (ad 13 0 0)]) (M' := z.2) hM cv_L_98 rfl rfl rfl vi_11_0 ⟨by decide, by decide⟩ ⟨by decide, by decide⟩ (by simp [Value.category]) rfl rfl rfl dL_hourOf_4 rfl (fun h0 ls hl H1 locs1 q ce a1 a2 a3 a4 a5 => ?_) (fun h0 => ?_)
  · rcases hk with k0 | k1
    · exact absurd k0 h0
    · have ez : (fxi z).1.1 = 3 := k1
      rw [ez] at a5
      refine mh_catch cx hzx hcx (k := 3) (lv := [(0, .ref (ad 11 0 0)), (1, .int p1), (2, .ref (ad 13 0 0))]) (by decide) ht [] (0, 9, 12, 27) [] rfl (by intro z hz; cases hz) rfl (by decide) xl_27 xc_3 hl a1 a2 a3 a4 a5 ?_
      refine mw_astore_n cx (q := 13) (lv' := [(3, .ref q), (0, .ref (ad 11 0 0)), (1, .int p1), (2, .ref (ad 13 0 0))]) rfl rfl (by decide) dL_hourOf_12 rfl ?_
      refine mw_iconst cx (q := 14) (v := 1) dL_hourOf_13 rfl rfl ?_
      exact mx_iret cx hr rfl (by rw [fw13_x k1 (by decide)]; rfl) ⟨by decide, by decide⟩ dL_hourOf_14
  · have ez : z.1.1 = 0 := h0
    refine mw_i2l cx (q := 8) dL_hourOf_7 rfl ?_
    refine mw_last cx (q := 9) (x := z.1.2) rfl dL_hourOf_8 rfl ?_
    refine mw_goto cx (tgt := 15) dL_hourOf_9 (by decide) ?_
    refine mw_iconst cx (q := 16) (v := 0) dL_hourOf_15 rfl rfl ?_
    exact mx_iret cx hr rfl (by rw [fw13_0 ez]; rfl) ⟨by decide, by decide⟩ dL_hourOf_16
theorem cv_L_101 : CV RL 101 yX11_leftBy RX11 cX11_leftBy 3 (some .int) 2 := ⟨⟨BG_at 1179 (by decide +kernel) (by decide +kernel), BG_at 1180 (by decide +kernel) (by decide +kernel), BG_at 1181 (by decide +kernel) (by decide +kernel), BG_at 80 (by decide +kernel) (by decide +kernel), BG_at 1182 (by decide +kernel) (by decide +kernel)⟩, rfl, by decide, by decide, by decide +kernel⟩
set_option maxHeartbeats 1000000 in
theorem mc_L_leftBy (l : Launch) (hl : l.stackTraces = false) (D : va_G) (ta : wTa) (ad : wAd) (M : Wm) (p1 : Int32) (p2 : Int32) (hc0 : 0 ≤ (M 1 0 0 7).toInt) (hc1 : (M 1 0 0 7).toInt ≤ 3000) (hk : (f11_leftBy M p1 p2).1.1 = 0 ∨ (f11_leftBy M p1 p2).1.1 = 3 ∨ (f11_leftBy M p1 p2).1.1 = 1) : MH l D ta ad yL_leftBy cL_leftBy 5 (some .int) [(0, 10, 13, 27), (0, 10, 17, 13)] 9 2 [.ref (ad 11 0 0), .int p1, .int p2, .ref (ad 13 0 0)] M (fxi (fw13 (kfI 3 1) (f11_leftBy M p1 p2))) := by
  refine MH.of fxi (fw13 (kfI 3 1) (f11_leftBy M p1 p2)) rfl (by decide) (Nat.le_of_ble_eq_true rfl) (fun p e s m args below meth c cx hzx hcx ht hr => ?_)
  have hM := mc_X11_leftBy l hl D ta ad M p1 p2 hc0 hc1
  generalize hz : f11_leftBy M p1 p2 = z at hM hk ⊢
  refine mw_sub (lv' := [(0, .ref (ad 11 0 0)), (1, .int p1), (2, .int p2), (3, .ref (ad 13 0 0))]) [0, 1, 2, 3] rfl ?_
  refine mw_aload_n cx (q := 1) 3 rfl rfl dL_leftBy_0 rfl ?_
  refine mw_iconst cx (q := 2) (v := 0) dL_leftBy_1 rfl rfl ?_
  refine mw_aload_n cx (q := 3) 0 rfl rfl dL_leftBy_2 rfl ?_
  refine mw_iload_n cx (q := 4) 1 rfl rfl dL_leftBy_3 rfl ?_
  refine mw_iload_n cx (q := 5) 2 rfl rfl dL_leftBy_4 rfl ?_
  refine mx_callV cx hzx (q := 8) (d := 8) (u0 := 2) (As := [.int p1, .int p2]) (z := fxi z) (st := [.int 0, .ref (ad 13 0 0)]) (st1 := [.int z.1.2, .int 0, .ref (ad 13 0 0)]) (M' := z.2) hM cv_L_101 rfl rfl rfl vi_11_0 ⟨by decide, by decide⟩ ⟨by decide, by decide⟩ (by simp [Value.category]) rfl rfl rfl dL_leftBy_5 rfl (fun h0 ls hl H1 locs1 q ce a1 a2 a3 a4 a5 => ?_) (fun h0 => ?_)
  · rcases hk with k0 | k1 | k2
    · exact absurd k0 h0
    · have ez : (fxi z).1.1 = 3 := k1
      rw [ez] at a5
      refine mh_catch cx hzx hcx (k := 3) (lv := [(0, .ref (ad 11 0 0)), (1, .int p1), (2, .int p2), (3, .ref (ad 13 0 0))]) (by decide) ht [] (0, 10, 13, 27) [(0, 10, 17, 13)] rfl (by intro z hz; cases hz) rfl (by decide) xl_27 xc_3 hl a1 a2 a3 a4 a5 ?_
      refine mw_astore cx (q := 15) (lv' := [(4, .ref q), (0, .ref (ad 11 0 0)), (1, .int p1), (2, .int p2), (3, .ref (ad 13 0 0))]) rfl (by decide) dL_leftBy_13 rfl ?_
      refine mw_iconst cx (q := 16) (v := 1) dL_leftBy_15 rfl rfl ?_
      exact mx_iret cx hr rfl (by rw [fw13_x k1 (by decide)]; rfl) ⟨by decide, by decide⟩ dL_leftBy_16
    · have ez : (fxi z).1.1 = 1 := k2
      rw [ez] at a5
      refine mh_catch cx hzx hcx (k := 1) (lv := [(0, .ref (ad 11 0 0)), (1, .int p1), (2, .int p2), (3, .ref (ad 13 0 0))]) (by decide) ht [(0, 10, 13, 27)] (0, 10, 17, 13) [] rfl (by intro z hz; simp only [List.mem_cons, List.not_mem_nil, or_false] at hz; rcases hz with rfl <;> first | exact ⟨by decide, 3, by decide, by decide, xl_27⟩) rfl (by decide) xl_13 xc_1 hl a1 a2 a3 a4 a5 ?_
      refine mw_astore cx (q := 19) (lv' := [(4, .ref q), (0, .ref (ad 11 0 0)), (1, .int p1), (2, .int p2), (3, .ref (ad 13 0 0))]) rfl (by decide) dL_leftBy_17 rfl ?_
      refine mw_iconst cx (q := 20) (v := 2) dL_leftBy_19 rfl rfl ?_
      exact mx_iret cx hr rfl (by rw [fw13_x k2 (by decide)]; rfl) ⟨by decide, by decide⟩ dL_leftBy_20
  · have ez : z.1.1 = 0 := h0
    refine mw_i2l cx (q := 9) dL_leftBy_8 rfl ?_
    refine mw_last cx (q := 10) (x := z.1.2) rfl dL_leftBy_9 rfl ?_
    refine mw_goto cx (tgt := 21) dL_leftBy_10 (by decide) ?_
    refine mw_iconst cx (q := 22) (v := 0) dL_leftBy_21 rfl rfl ?_
    exact mx_iret cx hr rfl (by rw [fw13_0 ez]; rfl) ⟨by decide, by decide⟩ dL_leftBy_22
theorem cv_L_104 : CV RL 104 yX11_movedFrom RX11 cX11_movedFrom 2 (some .int) 1 := ⟨⟨BG_at 1190 (by decide +kernel) (by decide +kernel), BG_at 1191 (by decide +kernel) (by decide +kernel), BG_at 1192 (by decide +kernel) (by decide +kernel), BG_at 80 (by decide +kernel) (by decide +kernel), BG_at 1193 (by decide +kernel) (by decide +kernel)⟩, rfl, by decide, by decide, by decide +kernel⟩
set_option maxHeartbeats 1000000 in
theorem mc_L_movedFrom (l : Launch) (hl : l.stackTraces = false) (D : va_G) (ta : wTa) (ad : wAd) (M : Wm) (p1 : Int32) (hc1 : (M 1 0 0 7).toInt ≤ 3000) (hk : (f11_movedFrom M p1).1.1 = 0 ∨ (f11_movedFrom M p1).1.1 = 3) : MH l D ta ad yL_movedFrom cL_movedFrom 4 (some .int) [(0, 9, 12, 27)] 9 1 [.ref (ad 11 0 0), .int p1, .ref (ad 13 0 0)] M (fxi (fw13 (kfI 3 3) (f11_movedFrom M p1))) := by
  refine MH.of fxi (fw13 (kfI 3 3) (f11_movedFrom M p1)) rfl (by decide) (Nat.le_of_ble_eq_true rfl) (fun p e s m args below meth c cx hzx hcx ht hr => ?_)
  have hM := mc_X11_movedFrom l hl D ta ad M p1 hc1
  generalize hz : f11_movedFrom M p1 = z at hM hk ⊢
  refine mw_sub (lv' := [(0, .ref (ad 11 0 0)), (1, .int p1), (2, .ref (ad 13 0 0))]) [0, 1, 2] rfl ?_
  refine mw_aload_n cx (q := 1) 2 rfl rfl dL_movedFrom_0 rfl ?_
  refine mw_iconst cx (q := 2) (v := 0) dL_movedFrom_1 rfl rfl ?_
  refine mw_aload_n cx (q := 3) 0 rfl rfl dL_movedFrom_2 rfl ?_
  refine mw_iload_n cx (q := 4) 1 rfl rfl dL_movedFrom_3 rfl ?_
  refine mx_callV cx hzx (q := 7) (d := 8) (u0 := 1) (As := [.int p1]) (z := fxi z) (st := [.int 0, .ref (ad 13 0 0)]) (st1 := [.int z.1.2, .int 0, .ref (ad 13 0 0)]) (M' := z.2) hM cv_L_104 rfl rfl rfl vi_11_0 ⟨by decide, by decide⟩ ⟨by decide, by decide⟩ (by simp [Value.category]) rfl rfl rfl dL_movedFrom_4 rfl (fun h0 ls hl H1 locs1 q ce a1 a2 a3 a4 a5 => ?_) (fun h0 => ?_)
  · rcases hk with k0 | k1
    · exact absurd k0 h0
    · have ez : (fxi z).1.1 = 3 := k1
      rw [ez] at a5
      refine mh_catch cx hzx hcx (k := 3) (lv := [(0, .ref (ad 11 0 0)), (1, .int p1), (2, .ref (ad 13 0 0))]) (by decide) ht [] (0, 9, 12, 27) [] rfl (by intro z hz; cases hz) rfl (by decide) xl_27 xc_3 hl a1 a2 a3 a4 a5 ?_
      refine mw_astore_n cx (q := 13) (lv' := [(3, .ref q), (0, .ref (ad 11 0 0)), (1, .int p1), (2, .ref (ad 13 0 0))]) rfl rfl (by decide) dL_movedFrom_12 rfl ?_
      refine mw_iconst cx (q := 14) (v := 1) dL_movedFrom_13 rfl rfl ?_
      exact mx_iret cx hr rfl (by rw [fw13_x k1 (by decide)]; rfl) ⟨by decide, by decide⟩ dL_movedFrom_14
  · have ez : z.1.1 = 0 := h0
    refine mw_i2l cx (q := 8) dL_movedFrom_7 rfl ?_
    refine mw_last cx (q := 9) (x := z.1.2) rfl dL_movedFrom_8 rfl ?_
    refine mw_goto cx (tgt := 15) dL_movedFrom_9 (by decide) ?_
    refine mw_iconst cx (q := 16) (v := 0) dL_movedFrom_15 rfl rfl ?_
    exact mx_iret cx hr rfl (by rw [fw13_0 ez]; rfl) ⟨by decide, by decide⟩ dL_movedFrom_16
theorem cv_L_107 : CV RL 107 yX11_movedTo RX11 cX11_movedTo 2 (some .int) 1 := ⟨⟨BG_at 1197 (by decide +kernel) (by decide +kernel), BG_at 1198 (by decide +kernel) (by decide +kernel), BG_at 1199 (by decide +kernel) (by decide +kernel), BG_at 80 (by decide +kernel) (by decide +kernel), BG_at 1200 (by decide +kernel) (by decide +kernel)⟩, rfl, by decide, by decide, by decide +kernel⟩
set_option maxHeartbeats 1000000 in
theorem mc_L_movedTo (l : Launch) (hl : l.stackTraces = false) (D : va_G) (ta : wTa) (ad : wAd) (M : Wm) (p1 : Int32) (hc1 : (M 1 0 0 7).toInt ≤ 3000) (hk : (f11_movedTo M p1).1.1 = 0 ∨ (f11_movedTo M p1).1.1 = 3) : MH l D ta ad yL_movedTo cL_movedTo 4 (some .int) [(0, 9, 12, 27)] 9 1 [.ref (ad 11 0 0), .int p1, .ref (ad 13 0 0)] M (fxi (fw13 (kfI 3 3) (f11_movedTo M p1))) := by
  refine MH.of fxi (fw13 (kfI 3 3) (f11_movedTo M p1)) rfl (by decide) (Nat.le_of_ble_eq_true rfl) (fun p e s m args below meth c cx hzx hcx ht hr => ?_)
  have hM := mc_X11_movedTo l hl D ta ad M p1 hc1
  generalize hz : f11_movedTo M p1 = z at hM hk ⊢
  refine mw_sub (lv' := [(0, .ref (ad 11 0 0)), (1, .int p1), (2, .ref (ad 13 0 0))]) [0, 1, 2] rfl ?_
  refine mw_aload_n cx (q := 1) 2 rfl rfl dL_movedTo_0 rfl ?_
  refine mw_iconst cx (q := 2) (v := 0) dL_movedTo_1 rfl rfl ?_
  refine mw_aload_n cx (q := 3) 0 rfl rfl dL_movedTo_2 rfl ?_
  refine mw_iload_n cx (q := 4) 1 rfl rfl dL_movedTo_3 rfl ?_
  refine mx_callV cx hzx (q := 7) (d := 8) (u0 := 1) (As := [.int p1]) (z := fxi z) (st := [.int 0, .ref (ad 13 0 0)]) (st1 := [.int z.1.2, .int 0, .ref (ad 13 0 0)]) (M' := z.2) hM cv_L_107 rfl rfl rfl vi_11_0 ⟨by decide, by decide⟩ ⟨by decide, by decide⟩ (by simp [Value.category]) rfl rfl rfl dL_movedTo_4 rfl (fun h0 ls hl H1 locs1 q ce a1 a2 a3 a4 a5 => ?_) (fun h0 => ?_)
  · rcases hk with k0 | k1
    · exact absurd k0 h0
    · have ez : (fxi z).1.1 = 3 := k1
      rw [ez] at a5
      refine mh_catch cx hzx hcx (k := 3) (lv := [(0, .ref (ad 11 0 0)), (1, .int p1), (2, .ref (ad 13 0 0))]) (by decide) ht [] (0, 9, 12, 27) [] rfl (by intro z hz; cases hz) rfl (by decide) xl_27 xc_3 hl a1 a2 a3 a4 a5 ?_
      refine mw_astore_n cx (q := 13) (lv' := [(3, .ref q), (0, .ref (ad 11 0 0)), (1, .int p1), (2, .ref (ad 13 0 0))]) rfl rfl (by decide) dL_movedTo_12 rfl ?_
      refine mw_iconst cx (q := 14) (v := 1) dL_movedTo_13 rfl rfl ?_
      exact mx_iret cx hr rfl (by rw [fw13_x k1 (by decide)]; rfl) ⟨by decide, by decide⟩ dL_movedTo_14
  · have ez : z.1.1 = 0 := h0
    refine mw_i2l cx (q := 8) dL_movedTo_7 rfl ?_
    refine mw_last cx (q := 9) (x := z.1.2) rfl dL_movedTo_8 rfl ?_
    refine mw_goto cx (tgt := 15) dL_movedTo_9 (by decide) ?_
    refine mw_iconst cx (q := 16) (v := 0) dL_movedTo_15 rfl rfl ?_
    exact mx_iret cx hr rfl (by rw [fw13_0 ez]; rfl) ⟨by decide, by decide⟩ dL_movedTo_16
theorem cv_L_110 : CV RL 110 yX11_movedGood RX11 cX11_movedGood 2 (some .int) 1 := ⟨⟨BG_at 1204 (by decide +kernel) (by decide +kernel), BG_at 1205 (by decide +kernel) (by decide +kernel), BG_at 1206 (by decide +kernel) (by decide +kernel), BG_at 80 (by decide +kernel) (by decide +kernel), BG_at 1207 (by decide +kernel) (by decide +kernel)⟩, rfl, by decide, by decide, by decide +kernel⟩
set_option maxHeartbeats 1000000 in
theorem mc_L_movedGood (l : Launch) (hl : l.stackTraces = false) (D : va_G) (ta : wTa) (ad : wAd) (M : Wm) (p1 : Int32) (hc1 : (M 1 0 0 7).toInt ≤ 3000) (hk : (f11_movedGood M p1).1.1 = 0 ∨ (f11_movedGood M p1).1.1 = 3) : MH l D ta ad yL_movedGood cL_movedGood 4 (some .int) [(0, 9, 12, 27)] 9 1 [.ref (ad 11 0 0), .int p1, .ref (ad 13 0 0)] M (fxi (fw13 (kfI 3 3) (f11_movedGood M p1))) := by
  refine MH.of fxi (fw13 (kfI 3 3) (f11_movedGood M p1)) rfl (by decide) (Nat.le_of_ble_eq_true rfl) (fun p e s m args below meth c cx hzx hcx ht hr => ?_)
  have hM := mc_X11_movedGood l hl D ta ad M p1 hc1
  generalize hz : f11_movedGood M p1 = z at hM hk ⊢
  refine mw_sub (lv' := [(0, .ref (ad 11 0 0)), (1, .int p1), (2, .ref (ad 13 0 0))]) [0, 1, 2] rfl ?_
  refine mw_aload_n cx (q := 1) 2 rfl rfl dL_movedGood_0 rfl ?_
  refine mw_iconst cx (q := 2) (v := 0) dL_movedGood_1 rfl rfl ?_
  refine mw_aload_n cx (q := 3) 0 rfl rfl dL_movedGood_2 rfl ?_
  refine mw_iload_n cx (q := 4) 1 rfl rfl dL_movedGood_3 rfl ?_
  refine mx_callV cx hzx (q := 7) (d := 8) (u0 := 1) (As := [.int p1]) (z := fxi z) (st := [.int 0, .ref (ad 13 0 0)]) (st1 := [.int z.1.2, .int 0, .ref (ad 13 0 0)]) (M' := z.2) hM cv_L_110 rfl rfl rfl vi_11_0 ⟨by decide, by decide⟩ ⟨by decide, by decide⟩ (by simp [Value.category]) rfl rfl rfl dL_movedGood_4 rfl (fun h0 ls hl H1 locs1 q ce a1 a2 a3 a4 a5 => ?_) (fun h0 => ?_)
  · rcases hk with k0 | k1
    · exact absurd k0 h0
    · have ez : (fxi z).1.1 = 3 := k1
      rw [ez] at a5
      refine mh_catch cx hzx hcx (k := 3) (lv := [(0, .ref (ad 11 0 0)), (1, .int p1), (2, .ref (ad 13 0 0))]) (by decide) ht [] (0, 9, 12, 27) [] rfl (by intro z hz; cases hz) rfl (by decide) xl_27 xc_3 hl a1 a2 a3 a4 a5 ?_
      refine mw_astore_n cx (q := 13) (lv' := [(3, .ref q), (0, .ref (ad 11 0 0)), (1, .int p1), (2, .ref (ad 13 0 0))]) rfl rfl (by decide) dL_movedGood_12 rfl ?_
      refine mw_iconst cx (q := 14) (v := 1) dL_movedGood_13 rfl rfl ?_
      exact mx_iret cx hr rfl (by rw [fw13_x k1 (by decide)]; rfl) ⟨by decide, by decide⟩ dL_movedGood_14
  · have ez : z.1.1 = 0 := h0
    refine mw_i2l cx (q := 8) dL_movedGood_7 rfl ?_
    refine mw_last cx (q := 9) (x := z.1.2) rfl dL_movedGood_8 rfl ?_
    refine mw_goto cx (tgt := 15) dL_movedGood_9 (by decide) ?_
    refine mw_iconst cx (q := 16) (v := 0) dL_movedGood_15 rfl rfl ?_
    exact mx_iret cx hr rfl (by rw [fw13_0 ez]; rfl) ⟨by decide, by decide⟩ dL_movedGood_16
theorem cv_L_113 : CV RL 113 yX11_movedAmount RX11 cX11_movedAmount 2 (some .int) 1 := ⟨⟨BG_at 1211 (by decide +kernel) (by decide +kernel), BG_at 1212 (by decide +kernel) (by decide +kernel), BG_at 1213 (by decide +kernel) (by decide +kernel), BG_at 80 (by decide +kernel) (by decide +kernel), BG_at 1214 (by decide +kernel) (by decide +kernel)⟩, rfl, by decide, by decide, by decide +kernel⟩
set_option maxHeartbeats 1000000 in
theorem mc_L_movedAmount (l : Launch) (hl : l.stackTraces = false) (D : va_G) (ta : wTa) (ad : wAd) (M : Wm) (p1 : Int32) (hc1 : (M 1 0 0 7).toInt ≤ 3000) (hk : (f11_movedAmount M p1).1.1 = 0 ∨ (f11_movedAmount M p1).1.1 = 3) : MH l D ta ad yL_movedAmount cL_movedAmount 4 (some .int) [(0, 9, 12, 27)] 9 1 [.ref (ad 11 0 0), .int p1, .ref (ad 13 0 0)] M (fxi (fw13 (kfI 3 3) (f11_movedAmount M p1))) := by
  refine MH.of fxi (fw13 (kfI 3 3) (f11_movedAmount M p1)) rfl (by decide) (Nat.le_of_ble_eq_true rfl) (fun p e s m args below meth c cx hzx hcx ht hr => ?_)
  have hM := mc_X11_movedAmount l hl D ta ad M p1 hc1
  generalize hz : f11_movedAmount M p1 = z at hM hk ⊢
  refine mw_sub (lv' := [(0, .ref (ad 11 0 0)), (1, .int p1), (2, .ref (ad 13 0 0))]) [0, 1, 2] rfl ?_
  refine mw_aload_n cx (q := 1) 2 rfl rfl dL_movedAmount_0 rfl ?_
  refine mw_iconst cx (q := 2) (v := 0) dL_movedAmount_1 rfl rfl ?_
  refine mw_aload_n cx (q := 3) 0 rfl rfl dL_movedAmount_2 rfl ?_
  refine mw_iload_n cx (q := 4) 1 rfl rfl dL_movedAmount_3 rfl ?_
  refine mx_callV cx hzx (q := 7) (d := 8) (u0 := 1) (As := [.int p1]) (z := fxi z) (st := [.int 0, .ref (ad 13 0 0)]) (st1 := [.int z.1.2, .int 0, .ref (ad 13 0 0)]) (M' := z.2) hM cv_L_113 rfl rfl rfl vi_11_0 ⟨by decide, by decide⟩ ⟨by decide, by decide⟩ (by simp [Value.category]) rfl rfl rfl dL_movedAmount_4 rfl (fun h0 ls hl H1 locs1 q ce a1 a2 a3 a4 a5 => ?_) (fun h0 => ?_)
  · rcases hk with k0 | k1
    · exact absurd k0 h0
    · have ez : (fxi z).1.1 = 3 := k1
      rw [ez] at a5
      refine mh_catch cx hzx hcx (k := 3) (lv := [(0, .ref (ad 11 0 0)), (1, .int p1), (2, .ref (ad 13 0 0))]) (by decide) ht [] (0, 9, 12, 27) [] rfl (by intro z hz; cases hz) rfl (by decide) xl_27 xc_3 hl a1 a2 a3 a4 a5 ?_
      refine mw_astore_n cx (q := 13) (lv' := [(3, .ref q), (0, .ref (ad 11 0 0)), (1, .int p1), (2, .ref (ad 13 0 0))]) rfl rfl (by decide) dL_movedAmount_12 rfl ?_
      refine mw_iconst cx (q := 14) (v := 1) dL_movedAmount_13 rfl rfl ?_
      exact mx_iret cx hr rfl (by rw [fw13_x k1 (by decide)]; rfl) ⟨by decide, by decide⟩ dL_movedAmount_14
  · have ez : z.1.1 = 0 := h0
    refine mw_i2l cx (q := 8) dL_movedAmount_7 rfl ?_
    refine mw_last cx (q := 9) (x := z.1.2) rfl dL_movedAmount_8 rfl ?_
    refine mw_goto cx (tgt := 15) dL_movedAmount_9 (by decide) ?_
    refine mw_iconst cx (q := 16) (v := 0) dL_movedAmount_15 rfl rfl ?_
    exact mx_iret cx hr rfl (by rw [fw13_0 ez]; rfl) ⟨by decide, by decide⟩ dL_movedAmount_16
theorem cv_L_116 : CV RL 116 yX11_movedBy RX11 cX11_movedBy 2 (some .int) 1 := ⟨⟨BG_at 1218 (by decide +kernel) (by decide +kernel), BG_at 1219 (by decide +kernel) (by decide +kernel), BG_at 1220 (by decide +kernel) (by decide +kernel), BG_at 80 (by decide +kernel) (by decide +kernel), BG_at 1221 (by decide +kernel) (by decide +kernel)⟩, rfl, by decide, by decide, by decide +kernel⟩
set_option maxHeartbeats 1000000 in
theorem mc_L_movedBy (l : Launch) (hl : l.stackTraces = false) (D : va_G) (ta : wTa) (ad : wAd) (M : Wm) (p1 : Int32) (hc1 : (M 1 0 0 7).toInt ≤ 3000) (hk : (f11_movedBy M p1).1.1 = 0 ∨ (f11_movedBy M p1).1.1 = 3) : MH l D ta ad yL_movedBy cL_movedBy 4 (some .int) [(0, 9, 12, 27)] 9 1 [.ref (ad 11 0 0), .int p1, .ref (ad 13 0 0)] M (fxi (fw13 (kfI 3 3) (f11_movedBy M p1))) := by
  refine MH.of fxi (fw13 (kfI 3 3) (f11_movedBy M p1)) rfl (by decide) (Nat.le_of_ble_eq_true rfl) (fun p e s m args below meth c cx hzx hcx ht hr => ?_)
  have hM := mc_X11_movedBy l hl D ta ad M p1 hc1
  generalize hz : f11_movedBy M p1 = z at hM hk ⊢
  refine mw_sub (lv' := [(0, .ref (ad 11 0 0)), (1, .int p1), (2, .ref (ad 13 0 0))]) [0, 1, 2] rfl ?_
  refine mw_aload_n cx (q := 1) 2 rfl rfl dL_movedBy_0 rfl ?_
  refine mw_iconst cx (q := 2) (v := 0) dL_movedBy_1 rfl rfl ?_
  refine mw_aload_n cx (q := 3) 0 rfl rfl dL_movedBy_2 rfl ?_
  refine mw_iload_n cx (q := 4) 1 rfl rfl dL_movedBy_3 rfl ?_
  refine mx_callV cx hzx (q := 7) (d := 8) (u0 := 1) (As := [.int p1]) (z := fxi z) (st := [.int 0, .ref (ad 13 0 0)]) (st1 := [.int z.1.2, .int 0, .ref (ad 13 0 0)]) (M' := z.2) hM cv_L_116 rfl rfl rfl vi_11_0 ⟨by decide, by decide⟩ ⟨by decide, by decide⟩ (by simp [Value.category]) rfl rfl rfl dL_movedBy_4 rfl (fun h0 ls hl H1 locs1 q ce a1 a2 a3 a4 a5 => ?_) (fun h0 => ?_)
  · rcases hk with k0 | k1
    · exact absurd k0 h0
    · have ez : (fxi z).1.1 = 3 := k1
      rw [ez] at a5
      refine mh_catch cx hzx hcx (k := 3) (lv := [(0, .ref (ad 11 0 0)), (1, .int p1), (2, .ref (ad 13 0 0))]) (by decide) ht [] (0, 9, 12, 27) [] rfl (by intro z hz; cases hz) rfl (by decide) xl_27 xc_3 hl a1 a2 a3 a4 a5 ?_
      refine mw_astore_n cx (q := 13) (lv' := [(3, .ref q), (0, .ref (ad 11 0 0)), (1, .int p1), (2, .ref (ad 13 0 0))]) rfl rfl (by decide) dL_movedBy_12 rfl ?_
      refine mw_iconst cx (q := 14) (v := 1) dL_movedBy_13 rfl rfl ?_
      exact mx_iret cx hr rfl (by rw [fw13_x k1 (by decide)]; rfl) ⟨by decide, by decide⟩ dL_movedBy_14
  · have ez : z.1.1 = 0 := h0
    refine mw_i2l cx (q := 8) dL_movedBy_7 rfl ?_
    refine mw_last cx (q := 9) (x := z.1.2) rfl dL_movedBy_8 rfl ?_
    refine mw_goto cx (tgt := 15) dL_movedBy_9 (by decide) ?_
    refine mw_iconst cx (q := 16) (v := 0) dL_movedBy_15 rfl rfl ?_
    exact mx_iret cx hr rfl (by rw [fw13_0 ez]; rfl) ⟨by decide, by decide⟩ dL_movedBy_16
