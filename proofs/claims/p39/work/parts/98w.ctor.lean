/-! THE CONSTRUCTORS of the class' objects and of the reference -/
def GS (L0 : List va_E) (j0 : Nat) (x : va_E) (M : List va_E) : List va_E := L0.set j0 x ++ M
def aI (ta : wTa) (n : Nat) : va_E := .inl (ta 0, n, .inl (fun _ => 0))
def aZ (ta : wTa) (n : Nat) : va_E := .inl (ta 1, n, .inl (fun _ => 0))
def aF (ta : wTa) (n : Nat) (f : Nat → Int32) : va_E := .inl (ta 0, n, .inl f)
def aQ (ta : wTa) (t n : Nat) (f : Nat → Option Nat) : va_E := .inl (ta t, n, .inr (.inr (.inr (.inr f))))
def aR (ta : wTa) (t n a : Nat) : va_E := .inl (ta t, n, .inr (.inr (.inr (.inr (fun i => if i < n then some (a + i) else none)))))
def oOrd : va_E := .inr (2, [.int 0, .int 0, .int 0, .int 0, .int 0, .int 0, .int 0, .int 0, .int 0])
section CTOR
variable {p : Program} {l : Launch} {e : Env} {R : Room} {s : State} {m : MethodId} {args : Array Value} {below : List Frame} {meth : Method} {c : Code} {cells slots : Nat} {Q : State → Prop} {D : va_G} {ta : wTa} {bs n : Nat} {L L' : List va_E} {pc q : Nat} {lv lv' : List (Nat × Value)} {st : List Value} {own : String} {cc : ByteArray} {L0 M M' : List va_E} {j0 k m9 : Nat} {x y : va_E}
theorem GS_len (hk : L0.length = k) (hm : M.length = m9) : (GS L0 j0 x M).length = k + m9 := by unfold GS; rw [List.length_append, List.length_set, hk, hm]
theorem GS_0 (h : L0[j0]? = some x) : L0 = GS L0 j0 x [] := by
  unfold GS
  rw [List.append_nil]
  refine List.ext_getElem? (fun i => ?_)
  by_cases c : j0 = i
  · subst c
    rw [List.getElem?_set]
    simp only [if_true]
    have := (List.getElem?_eq_some_iff.mp h).1
    rw [if_pos this, h]
  · rw [List.getElem?_set_ne c]
theorem GS_obj (hj : j0 < L0.length) : (GS L0 j0 x M)[j0]? = some x := by
  unfold GS
  rw [List.getElem?_append_left (by rw [List.length_set]; exact hj), List.getElem?_set]
  simp [hj]
theorem GS_set (hj : j0 < L0.length) : (GS L0 j0 x M).set j0 y = GS L0 j0 y M := by
  unfold GS
  rw [List.set_append_left _ _ (by rw [List.length_set]; exact hj), List.set_set]
theorem GS_at (hk : L0.length = k) {i : Nat} (h : M[i]? = some y) : (GS L0 j0 x M)[k + i]? = some y := by
  unfold GS
  rw [List.getElem?_append_right (by rw [List.length_set, hk]; omega), List.length_set, hk, show k + i - k = i by omega]; exact h
theorem GS_setM (hk : L0.length = k) {i : Nat} (h : M.set i y = M') : (GS L0 j0 x M).set (k + i) y = GS L0 j0 x M' := by
  unfold GS
  rw [List.set_append_right _ _ (by rw [List.length_set, hk]; omega), List.length_set, hk, show k + i - k = i by omega, h]
theorem GS_push {X : List va_E} (h : M ++ X = M') : GS L0 j0 x M ++ X = GS L0 j0 x M' := by unfold GS; rw [List.append_assoc, h]
theorem GS_nest (hk : L0.length = k) {i : Nat} {X : List va_E} (h : M.set i y ++ X = M') : GS (GS L0 j0 x M) (k + i) y X = GS L0 j0 x M' := by
  show (GS L0 j0 x M).set (k + i) y ++ X = _
  rw [GS_setM hk rfl, GS_push h]
theorem gs_nf (hk : L0.length = k) {X : List va_E} (hM : M ++ X = M') (hm : M.length = m9) (kk : gw p l e R s m args below meth c cells slots Q D bs n (GS L0 j0 x M') q lv (.ref (bs + (k + m9)) :: st)) : gw p l e R s m args below meth c cells slots Q D bs n (GS L0 j0 x M ++ X) q lv (.ref (bs + (GS L0 j0 x M).length) :: st) := by
  rw [GS_push hM, GS_len hk hm]; exact kk
theorem gs_nf2 (hk : L0.length = k) {t N a : Nat} {z : va_E} (ha : bs + (k + m9) + 1 = a) (hM : M ++ ([aR ta t N a] ++ List.replicate N z) = M') (hm : M.length = m9) (kk : gw p l e R s m args below meth c cells slots Q D bs n (GS L0 j0 x M') q lv (.ref (bs + (k + m9)) :: st)) : gw p l e R s m args below meth c cells slots Q D bs n (GS L0 j0 x M ++ [.inl (ta t, N, .inr (.inr (.inr (.inr (fun i => if i < N then some (bs + (GS L0 j0 x M).length + 1 + i) else none)))))] ++ List.replicate N z) q lv (.ref (bs + (GS L0 j0 x M).length) :: st) := by
  subst ha
  rw [GS_len hk hm, List.append_assoc]
  have := GS_push (L0 := L0) (j0 := j0) (x := x) hM
  unfold aR at this
  rw [this]; exact kk
theorem ra_int (U : State) (cA : ClassId) (h : va_RA U cA .int) : U.vm.findClass ("[" ++ (FieldType.int).toString) = some cA := h
theorem ra_bool (U : State) (cA : ClassId) (h : va_RA U cA .boolean) : U.vm.findClass ("[" ++ (FieldType.boolean).toString) = some cA := h
theorem ra_long (U : State) (cA : ClassId) (h : va_RA U cA .long) : U.vm.findClass ("[" ++ (FieldType.long).toString) = some cA := h
theorem ra_rows (U : State) (cA : ClassId) (h : va_RA U cA (.array .int)) : U.vm.findClass ("[" ++ (FieldType.array .int).toString) = some cA := h
theorem new_int (n : Nat) (cA : ClassId) : vp_cell cA (n, .inl (fun _ => 0)) = arrV cA n (fun _ => defaultValue .int) := by rw [vp_cell_i]; rfl
theorem new_bool (n : Nat) (cA : ClassId) : vp_cell cA (n, .inl (fun _ => 0)) = arrV cA n (fun _ => defaultValue .boolean) := by rw [vp_cell_i]; rfl
theorem new_row (n : Nat) (cA : ClassId) : Jvm.Free.Multi.innerC cA n (defaultValue .int) = vp_cell cA (n, .inl (fun _ => 0)) := by
  rw [new_int]
  exact arrV_new cA n (defaultValue .int)
theorem w_obj2 : Cond.instanceMethod Lib.objectInit ∈ BG := BG_at 66 (by decide +kernel) (by decide +kernel)
theorem w_obj3 : Cond.code Lib.objectInit ⟨#[0xb1]⟩ 1 none ∈ BG := BG_at 67 (by decide +kernel) (by decide +kernel)
theorem w_arrI : Cond.arrayClass (newarray.typeOf .int) ∈ BG := BG_at 93 (by decide +kernel) (by decide +kernel)
theorem w_arrZ : Cond.arrayClass (newarray.typeOf .boolean) ∈ BG := BG_at 128 (by decide +kernel) (by decide +kernel)
def fs1 : List Value := [.null, .null, .null, .null, .null, .null, .null, .int 0]
theorem fs1_ok : ∀ j, j < 8 → defaultValue (tyX1 j) = vp_V fs1 j := by
  intro j hj
  match j, hj with
  | 0, _ => rfl
  | 1, _ => rfl
  | 2, _ => rfl
  | 3, _ => rfl
  | 4, _ => rfl
  | 5, _ => rfl
  | 6, _ => rfl
  | 7, _ => rfl
  | j + 8, hj => exact absurd hj (by omega)
def fs2 : List Value := [.null, .null, .int 0, .int 0, .null, .null, .int 0]
theorem fs2_ok : ∀ j, j < 7 → defaultValue (tyX2 j) = vp_V fs2 j := by
  intro j hj
  match j, hj with
  | 0, _ => rfl
  | 1, _ => rfl
  | 2, _ => rfl
  | 3, _ => rfl
  | 4, _ => rfl
  | 5, _ => rfl
  | 6, _ => rfl
  | j + 7, hj => exact absurd hj (by omega)
def fs3 : List Value := [.int 0, .int 0, .int 0, .int 0, .int 0, .int 0, .int 0, .int 0, .int 0]
theorem fs3_ok : ∀ j, j < 9 → defaultValue (tyX3 j) = vp_V fs3 j := by
  intro j hj
  match j, hj with
  | 0, _ => rfl
  | 1, _ => rfl
  | 2, _ => rfl
  | 3, _ => rfl
  | 4, _ => rfl
  | 5, _ => rfl
  | 6, _ => rfl
  | 7, _ => rfl
  | 8, _ => rfl
  | j + 9, hj => exact absurd hj (by omega)
def fs4 : List Value := [.null, .int 0, .int 0]
theorem fs4_ok : ∀ j, j < 3 → defaultValue (tyX4 j) = vp_V fs4 j := by
  intro j hj
  match j, hj with
  | 0, _ => rfl
  | 1, _ => rfl
  | 2, _ => rfl
  | j + 3, hj => exact absurd hj (by omega)
def fs5 : List Value := [.null, .null, .null, .null, .null, .int 0]
theorem fs5_ok : ∀ j, j < 6 → defaultValue (tyX5 j) = vp_V fs5 j := by
  intro j hj
  match j, hj with
  | 0, _ => rfl
  | 1, _ => rfl
  | 2, _ => rfl
  | 3, _ => rfl
  | 4, _ => rfl
  | 5, _ => rfl
  | j + 6, hj => exact absurd hj (by omega)
def fs6 : List Value := [.null, .null, .int 0, .int 0, .int 0, .int 0, .int 0]
theorem fs6_ok : ∀ j, j < 7 → defaultValue (tyX6 j) = vp_V fs6 j := by
  intro j hj
  match j, hj with
  | 0, _ => rfl
  | 1, _ => rfl
  | 2, _ => rfl
  | 3, _ => rfl
  | 4, _ => rfl
  | 5, _ => rfl
  | 6, _ => rfl
  | j + 7, hj => exact absurd hj (by omega)
def fs7 : List Value := [.null, .null, .null, .null, .null, .null, .int 0, .int 0, .int 0, .int 0, .int 0]
theorem fs7_ok : ∀ j, j < 11 → defaultValue (tyX7 j) = vp_V fs7 j := by
  intro j hj
  match j, hj with
  | 0, _ => rfl
  | 1, _ => rfl
  | 2, _ => rfl
  | 3, _ => rfl
  | 4, _ => rfl
  | 5, _ => rfl
  | 6, _ => rfl
  | 7, _ => rfl
  | 8, _ => rfl
  | 9, _ => rfl
  | 10, _ => rfl
  | j + 11, hj => exact absurd hj (by omega)
def fs8 : List Value := [.null, .null, .null, .null, .null]
theorem fs8_ok : ∀ j, j < 5 → defaultValue (tyX8 j) = vp_V fs8 j := by
  intro j hj
  match j, hj with
  | 0, _ => rfl
  | 1, _ => rfl
  | 2, _ => rfl
  | 3, _ => rfl
  | 4, _ => rfl
  | j + 5, hj => exact absurd hj (by omega)
def fs9 : List Value := [.null, .null, .null, .null, .null, .null]
theorem fs9_ok : ∀ j, j < 6 → defaultValue (tyX9 j) = vp_V fs9 j := by
  intro j hj
  match j, hj with
  | 0, _ => rfl
  | 1, _ => rfl
  | 2, _ => rfl
  | 3, _ => rfl
  | 4, _ => rfl
  | 5, _ => rfl
  | j + 6, hj => exact absurd hj (by omega)
def fs11 : List Value := [.null, .null, .null, .null, .null, .null]
theorem fs11_ok : ∀ j, j < 6 → defaultValue (tyX11 j) = vp_V fs11 j := by
  intro j hj
  match j, hj with
  | 0, _ => rfl
  | 1, _ => rfl
  | 2, _ => rfl
  | 3, _ => rfl
  | 4, _ => rfl
  | 5, _ => rfl
  | j + 6, hj => exact absurd hj (by omega)
theorem pff_X9_0 : PFf RX9 8 0 (.array .int) := ⟨RX9, TX9, 6, tyX9, rfl, tyX9_ok, nmX9, rfl, by decide +kernel, rfl⟩
theorem pff_X9_1 : PFf RX9 8 1 (.array .int) := ⟨RX9, TX9, 6, tyX9, rfl, tyX9_ok, nmX9, rfl, by decide +kernel, rfl⟩
theorem pff_X9_2 : PFf RX9 8 2 (.array .int) := ⟨RX9, TX9, 6, tyX9, rfl, tyX9_ok, nmX9, rfl, by decide +kernel, rfl⟩
theorem pff_X9_3 : PFf RX9 8 3 (.array .int) := ⟨RX9, TX9, 6, tyX9, rfl, tyX9_ok, nmX9, rfl, by decide +kernel, rfl⟩
theorem pff_X9_4 : PFf RX9 8 4 (.array .int) := ⟨RX9, TX9, 6, tyX9, rfl, tyX9_ok, nmX9, rfl, by decide +kernel, rfl⟩
theorem pff_X9_5 : PFf RX9 8 5 (.array .int) := ⟨RX9, TX9, 6, tyX9, rfl, tyX9_ok, nmX9, rfl, by decide +kernel, rfl⟩
set_option maxHeartbeats 4000000 in
set_option maxRecDepth 100000 in
theorem gc_X9 (l : Launch) (D : va_G) (ta : wTa) (bs : Nat) {L0 : List va_E} {j0 k : Nat} (hk : L0.length = k) (h0 : L0[j0]? = some (.inr (8, fs9))) : GC l D ta bs yX9_init cX9_init 1 1 6 5808 [.ref (bs + j0)] L0 (GS L0 j0 (.inr (8, [.ref (bs + (k + 0)), .ref (bs + (k + 1)), .ref (bs + (k + 2)), .ref (bs + (k + 3)), .ref (bs + (k + 4)), .ref (bs + (k + 5))])) [aI ta 968, aI ta 968, aI ta 968, aI ta 968, aI ta 968, aI ta 968]) := by
  have hj : j0 < L0.length := (List.getElem?_eq_some_iff.mp h0).1
  refine GC.of (by decide) (Nat.le_of_ble_eq_true rfl) (fun p e s m args below meth c cx hr hn9 => ?_)
  have hin : meth.name = "<init>" := hn9.symm
  refine g_eqL (GS_0 h0) ?_
  refine g_aload_n cx (q := 1) 0 rfl rfl dX9_init_0 rfl ?_
  refine g_obj cx (q := 4) (BG_at 73 (by decide +kernel) (by decide +kernel)) w_obj2 w_obj3 ⟨by decide, by decide⟩ dX9_init_1 rfl ?_
  refine g_aload_n cx (q := 5) 0 rfl rfl dX9_init_4 rfl ?_
  refine g_sipush cx (q := 8) (v := 968) dX9_init_5 rfl rfl ?_
  refine g_newa cx (q := 10) (t0 := 0) (N := 968) (ty := .int) (a0 := (968, .inl (fun _ => 0))) rfl w_arrI rfl ra_int (new_int 968) (by decide) (by decide) (by decide) ⟨Nat.le_of_ble_eq_true rfl, Nat.le_of_ble_eq_true rfl⟩ dX9_init_8 rfl ?_
  refine gs_nf hk (M' := [aI ta 968]) (m9 := 0) rfl rfl ?_
  refine g_putF cx hin (q := 13) (j := j0) gf_X9_11 pff_X9_0 ⟨rfl, rfl⟩ (GS_obj hj) (Nat.le_of_ble_eq_true rfl) dX9_init_10 rfl ?_
  refine g_eqL (L' := GS L0 j0 (.inr (8, [.ref (bs + (k + 0)), .null, .null, .null, .null, .null])) [aI ta 968]) (GS_set hj) ?_
  refine g_aload_n cx (q := 14) 0 rfl rfl dX9_init_13 rfl ?_
  refine g_sipush cx (q := 17) (v := 968) dX9_init_14 rfl rfl ?_
  refine g_newa cx (q := 19) (t0 := 0) (N := 968) (ty := .int) (a0 := (968, .inl (fun _ => 0))) rfl w_arrI rfl ra_int (new_int 968) (by decide) (by decide) (by decide) ⟨Nat.le_of_ble_eq_true rfl, Nat.le_of_ble_eq_true rfl⟩ dX9_init_17 rfl ?_
  refine gs_nf hk (M' := [aI ta 968, aI ta 968]) (m9 := 1) rfl rfl ?_
  refine g_putF cx hin (q := 22) (j := j0) gf_X9_15 pff_X9_1 ⟨rfl, rfl⟩ (GS_obj hj) (Nat.le_of_ble_eq_true rfl) dX9_init_19 rfl ?_
  refine g_eqL (L' := GS L0 j0 (.inr (8, [.ref (bs + (k + 0)), .ref (bs + (k + 1)), .null, .null, .null, .null])) [aI ta 968, aI ta 968]) (GS_set hj) ?_
  refine g_aload_n cx (q := 23) 0 rfl rfl dX9_init_22 rfl ?_
  refine g_sipush cx (q := 26) (v := 968) dX9_init_23 rfl rfl ?_
  refine g_newa cx (q := 28) (t0 := 0) (N := 968) (ty := .int) (a0 := (968, .inl (fun _ => 0))) rfl w_arrI rfl ra_int (new_int 968) (by decide) (by decide) (by decide) ⟨Nat.le_of_ble_eq_true rfl, Nat.le_of_ble_eq_true rfl⟩ dX9_init_26 rfl ?_
  refine gs_nf hk (M' := [aI ta 968, aI ta 968, aI ta 968]) (m9 := 2) rfl rfl ?_
  refine g_putF cx hin (q := 31) (j := j0) gf_X9_18 pff_X9_2 ⟨rfl, rfl⟩ (GS_obj hj) (Nat.le_of_ble_eq_true rfl) dX9_init_28 rfl ?_
  refine g_eqL (L' := GS L0 j0 (.inr (8, [.ref (bs + (k + 0)), .ref (bs + (k + 1)), .ref (bs + (k + 2)), .null, .null, .null])) [aI ta 968, aI ta 968, aI ta 968]) (GS_set hj) ?_
  refine g_aload_n cx (q := 32) 0 rfl rfl dX9_init_31 rfl ?_
  refine g_sipush cx (q := 35) (v := 968) dX9_init_32 rfl rfl ?_
  refine g_newa cx (q := 37) (t0 := 0) (N := 968) (ty := .int) (a0 := (968, .inl (fun _ => 0))) rfl w_arrI rfl ra_int (new_int 968) (by decide) (by decide) (by decide) ⟨Nat.le_of_ble_eq_true rfl, Nat.le_of_ble_eq_true rfl⟩ dX9_init_35 rfl ?_
  refine gs_nf hk (M' := [aI ta 968, aI ta 968, aI ta 968, aI ta 968]) (m9 := 3) rfl rfl ?_
  refine g_putF cx hin (q := 40) (j := j0) gf_X9_21 pff_X9_3 ⟨rfl, rfl⟩ (GS_obj hj) (Nat.le_of_ble_eq_true rfl) dX9_init_37 rfl ?_
  refine g_eqL (L' := GS L0 j0 (.inr (8, [.ref (bs + (k + 0)), .ref (bs + (k + 1)), .ref (bs + (k + 2)), .ref (bs + (k + 3)), .null, .null])) [aI ta 968, aI ta 968, aI ta 968, aI ta 968]) (GS_set hj) ?_
  refine g_aload_n cx (q := 41) 0 rfl rfl dX9_init_40 rfl ?_
  refine g_sipush cx (q := 44) (v := 968) dX9_init_41 rfl rfl ?_
  refine g_newa cx (q := 46) (t0 := 0) (N := 968) (ty := .int) (a0 := (968, .inl (fun _ => 0))) rfl w_arrI rfl ra_int (new_int 968) (by decide) (by decide) (by decide) ⟨Nat.le_of_ble_eq_true rfl, Nat.le_of_ble_eq_true rfl⟩ dX9_init_44 rfl ?_
  refine gs_nf hk (M' := [aI ta 968, aI ta 968, aI ta 968, aI ta 968, aI ta 968]) (m9 := 4) rfl rfl ?_
  refine g_putF cx hin (q := 49) (j := j0) gf_X9_24 pff_X9_4 ⟨rfl, rfl⟩ (GS_obj hj) (Nat.le_of_ble_eq_true rfl) dX9_init_46 rfl ?_
  refine g_eqL (L' := GS L0 j0 (.inr (8, [.ref (bs + (k + 0)), .ref (bs + (k + 1)), .ref (bs + (k + 2)), .ref (bs + (k + 3)), .ref (bs + (k + 4)), .null])) [aI ta 968, aI ta 968, aI ta 968, aI ta 968, aI ta 968]) (GS_set hj) ?_
  refine g_aload_n cx (q := 50) 0 rfl rfl dX9_init_49 rfl ?_
  refine g_sipush cx (q := 53) (v := 968) dX9_init_50 rfl rfl ?_
  refine g_newa cx (q := 55) (t0 := 0) (N := 968) (ty := .int) (a0 := (968, .inl (fun _ => 0))) rfl w_arrI rfl ra_int (new_int 968) (by decide) (by decide) (by decide) ⟨Nat.le_of_ble_eq_true rfl, Nat.le_of_ble_eq_true rfl⟩ dX9_init_53 rfl ?_
  refine gs_nf hk (M' := [aI ta 968, aI ta 968, aI ta 968, aI ta 968, aI ta 968, aI ta 968]) (m9 := 5) rfl rfl ?_
  refine g_putF cx hin (q := 58) (j := j0) gf_X9_27 pff_X9_5 ⟨rfl, rfl⟩ (GS_obj hj) (Nat.le_of_ble_eq_true rfl) dX9_init_55 rfl ?_
  refine g_eqL (L' := GS L0 j0 (.inr (8, [.ref (bs + (k + 0)), .ref (bs + (k + 1)), .ref (bs + (k + 2)), .ref (bs + (k + 3)), .ref (bs + (k + 4)), .ref (bs + (k + 5))])) [aI ta 968, aI ta 968, aI ta 968, aI ta 968, aI ta 968, aI ta 968]) (GS_set hj) ?_
  exact g_vret cx hr rfl ⟨Nat.le_of_ble_eq_true rfl, Nat.le_of_ble_eq_true rfl⟩ dX9_init_58
theorem pff_X6_1 : PFf RX6 5 1 (.array .int) := ⟨RX6, TX6, 7, tyX6, rfl, tyX6_ok, nmX6, rfl, by decide +kernel, rfl⟩
theorem pff_X6_0 : PFf RX6 5 0 (.object "RationLisp$Tree") := ⟨RX6, TX6, 7, tyX6, rfl, tyX6_ok, nmX6, rfl, by decide +kernel, rfl⟩
set_option maxHeartbeats 4000000 in
set_option maxRecDepth 100000 in
theorem gc_X6 (l : Launch) (D : va_G) (ta : wTa) (bs : Nat) {L0 : List va_E} {j0 k a1 : Nat} (hk : L0.length = k) (h0 : L0[j0]? = some (.inr (5, fs6))) : GC l D ta bs yX6_init cX6_init 2 1 1 21 [.ref (bs + j0), .ref a1] L0 (GS L0 j0 (.inr (5, [.ref a1, .ref (bs + (k + 0)), .int 0, .int 0, .int 0, .int 0, .int 0])) [aI ta 21]) := by
  have hj : j0 < L0.length := (List.getElem?_eq_some_iff.mp h0).1
  refine GC.of (by decide) (Nat.le_of_ble_eq_true rfl) (fun p e s m args below meth c cx hr hn9 => ?_)
  have hin : meth.name = "<init>" := hn9.symm
  refine g_eqL (GS_0 h0) ?_
  refine g_aload_n cx (q := 1) 0 rfl rfl dX6_init_0 rfl ?_
  refine g_obj cx (q := 4) (BG_at 105 (by decide +kernel) (by decide +kernel)) w_obj2 w_obj3 ⟨by decide, by decide⟩ dX6_init_1 rfl ?_
  refine g_aload_n cx (q := 5) 0 rfl rfl dX6_init_4 rfl ?_
  refine g_bipush cx (q := 7) (v := 21) dX6_init_5 rfl rfl ?_
  refine g_newa cx (q := 9) (t0 := 0) (N := 21) (ty := .int) (a0 := (21, .inl (fun _ => 0))) rfl w_arrI rfl ra_int (new_int 21) (by decide) (by decide) (by decide) ⟨Nat.le_of_ble_eq_true rfl, Nat.le_of_ble_eq_true rfl⟩ dX6_init_7 rfl ?_
  refine gs_nf hk (M' := [aI ta 21]) (m9 := 0) rfl rfl ?_
  refine g_putF cx hin (q := 12) (j := j0) gf_X6_9 pff_X6_1 ⟨rfl, rfl⟩ (GS_obj hj) (Nat.le_of_ble_eq_true rfl) dX6_init_9 rfl ?_
  refine g_eqL (L' := GS L0 j0 (.inr (5, [.null, .ref (bs + (k + 0)), .int 0, .int 0, .int 0, .int 0, .int 0])) [aI ta 21]) (GS_set hj) ?_
  refine g_aload_n cx (q := 13) 0 rfl rfl dX6_init_12 rfl ?_
  refine g_aload_n cx (q := 14) 1 rfl rfl dX6_init_13 rfl ?_
  refine g_putF cx hin (q := 17) (j := j0) gf_X6_13 pff_X6_0 ⟨rfl, rfl⟩ (GS_obj hj) (Nat.le_of_ble_eq_true rfl) dX6_init_14 rfl ?_
  refine g_eqL (L' := GS L0 j0 (.inr (5, [.ref a1, .ref (bs + (k + 0)), .int 0, .int 0, .int 0, .int 0, .int 0])) [aI ta 21]) (GS_set hj) ?_
  exact g_vret cx hr rfl ⟨Nat.le_of_ble_eq_true rfl, Nat.le_of_ble_eq_true rfl⟩ dX6_init_17
theorem pff_X8_0 : PFf RX8 7 0 (.array .int) := ⟨RX8, TX8, 5, tyX8, rfl, tyX8_ok, nmX8, rfl, by decide +kernel, rfl⟩
theorem pff_X8_1 : PFf RX8 7 1 (.array .int) := ⟨RX8, TX8, 5, tyX8, rfl, tyX8_ok, nmX8, rfl, by decide +kernel, rfl⟩
theorem pff_X8_2 : PFf RX8 7 2 (.array .int) := ⟨RX8, TX8, 5, tyX8, rfl, tyX8_ok, nmX8, rfl, by decide +kernel, rfl⟩
theorem pff_X8_3 : PFf RX8 7 3 (.array .boolean) := ⟨RX8, TX8, 5, tyX8, rfl, tyX8_ok, nmX8, rfl, by decide +kernel, rfl⟩
theorem ci_X8_27 : CI RX8 27 yX6_init cX6_init 2 1 := ⟨⟨BG_at 102 (by decide +kernel) (by decide +kernel), BG_at 103 (by decide +kernel) (by decide +kernel), BG_at 39 (by decide +kernel) (by decide +kernel), BG_at 104 (by decide +kernel) (by decide +kernel)⟩, rfl, by decide, by decide, by decide +kernel⟩
theorem pff_X8_4 : PFf RX8 7 4 (.object "RationLisp$Reader") := ⟨RX8, TX8, 5, tyX8, rfl, tyX8_ok, nmX8, rfl, by decide +kernel, rfl⟩
set_option maxHeartbeats 4000000 in
set_option maxRecDepth 100000 in
theorem gc_X8 (l : Launch) (D : va_G) (ta : wTa) (bs : Nat) {L0 : List va_E} {j0 k a1 : Nat} (hk : L0.length = k) (h0 : L0[j0]? = some (.inr (7, fs8))) : GC l D ta bs yX8_init cX8_init 2 2 6 1012 [.ref (bs + j0), .ref a1] L0 (GS L0 j0 (.inr (7, [.ref (bs + (k + 0)), .ref (bs + (k + 1)), .ref (bs + (k + 2)), .ref (bs + (k + 3)), .ref (bs + (k + 4))])) [aI ta 960, aI ta 8, aI ta 8, aZ ta 8, .inr (5, [.ref a1, .ref (bs + (k + 5)), .int 0, .int 0, .int 0, .int 0, .int 0]), aI ta 21]) := by
  have hj : j0 < L0.length := (List.getElem?_eq_some_iff.mp h0).1
  refine GC.of (by decide) (Nat.le_of_ble_eq_true rfl) (fun p e s m args below meth c cx hr hn9 => ?_)
  have hin : meth.name = "<init>" := hn9.symm
  refine g_eqL (GS_0 h0) ?_
  refine g_aload_n cx (q := 1) 0 rfl rfl dX8_init_0 rfl ?_
  refine g_obj cx (q := 4) (BG_at 99 (by decide +kernel) (by decide +kernel)) w_obj2 w_obj3 ⟨by decide, by decide⟩ dX8_init_1 rfl ?_
  refine g_aload_n cx (q := 5) 0 rfl rfl dX8_init_4 rfl ?_
  refine g_sipush cx (q := 8) (v := 960) dX8_init_5 rfl rfl ?_
  refine g_newa cx (q := 10) (t0 := 0) (N := 960) (ty := .int) (a0 := (960, .inl (fun _ => 0))) rfl w_arrI rfl ra_int (new_int 960) (by decide) (by decide) (by decide) ⟨Nat.le_of_ble_eq_true rfl, Nat.le_of_ble_eq_true rfl⟩ dX8_init_8 rfl ?_
  refine gs_nf hk (M' := [aI ta 960]) (m9 := 0) rfl rfl ?_
  refine g_putF cx hin (q := 13) (j := j0) gf_X8_9 pff_X8_0 ⟨rfl, rfl⟩ (GS_obj hj) (Nat.le_of_ble_eq_true rfl) dX8_init_10 rfl ?_
  refine g_eqL (L' := GS L0 j0 (.inr (7, [.ref (bs + (k + 0)), .null, .null, .null, .null])) [aI ta 960]) (GS_set hj) ?_
  refine g_aload_n cx (q := 14) 0 rfl rfl dX8_init_13 rfl ?_
  refine g_bipush cx (q := 16) (v := 8) dX8_init_14 rfl rfl ?_
  refine g_newa cx (q := 18) (t0 := 0) (N := 8) (ty := .int) (a0 := (8, .inl (fun _ => 0))) rfl w_arrI rfl ra_int (new_int 8) (by decide) (by decide) (by decide) ⟨Nat.le_of_ble_eq_true rfl, Nat.le_of_ble_eq_true rfl⟩ dX8_init_16 rfl ?_
  refine gs_nf hk (M' := [aI ta 960, aI ta 8]) (m9 := 1) rfl rfl ?_
  refine g_putF cx hin (q := 21) (j := j0) gf_X8_15 pff_X8_1 ⟨rfl, rfl⟩ (GS_obj hj) (Nat.le_of_ble_eq_true rfl) dX8_init_18 rfl ?_
  refine g_eqL (L' := GS L0 j0 (.inr (7, [.ref (bs + (k + 0)), .ref (bs + (k + 1)), .null, .null, .null])) [aI ta 960, aI ta 8]) (GS_set hj) ?_
  refine g_aload_n cx (q := 22) 0 rfl rfl dX8_init_21 rfl ?_
  refine g_bipush cx (q := 24) (v := 8) dX8_init_22 rfl rfl ?_
  refine g_newa cx (q := 26) (t0 := 0) (N := 8) (ty := .int) (a0 := (8, .inl (fun _ => 0))) rfl w_arrI rfl ra_int (new_int 8) (by decide) (by decide) (by decide) ⟨Nat.le_of_ble_eq_true rfl, Nat.le_of_ble_eq_true rfl⟩ dX8_init_24 rfl ?_
  refine gs_nf hk (M' := [aI ta 960, aI ta 8, aI ta 8]) (m9 := 2) rfl rfl ?_
  refine g_putF cx hin (q := 29) (j := j0) gf_X8_18 pff_X8_2 ⟨rfl, rfl⟩ (GS_obj hj) (Nat.le_of_ble_eq_true rfl) dX8_init_26 rfl ?_
  refine g_eqL (L' := GS L0 j0 (.inr (7, [.ref (bs + (k + 0)), .ref (bs + (k + 1)), .ref (bs + (k + 2)), .null, .null])) [aI ta 960, aI ta 8, aI ta 8]) (GS_set hj) ?_
  refine g_aload_n cx (q := 30) 0 rfl rfl dX8_init_29 rfl ?_
  refine g_bipush cx (q := 32) (v := 8) dX8_init_30 rfl rfl ?_
  refine g_newa cx (q := 34) (t0 := 1) (N := 8) (ty := .boolean) (a0 := (8, .inl (fun _ => 0))) rfl w_arrZ rfl ra_bool (new_bool 8) (by decide) (by decide) (by decide) ⟨Nat.le_of_ble_eq_true rfl, Nat.le_of_ble_eq_true rfl⟩ dX8_init_32 rfl ?_
  refine gs_nf hk (M' := [aI ta 960, aI ta 8, aI ta 8, aZ ta 8]) (m9 := 3) rfl rfl ?_
  refine g_putF cx hin (q := 37) (j := j0) gf_X8_21 pff_X8_3 ⟨rfl, rfl⟩ (GS_obj hj) (Nat.le_of_ble_eq_true rfl) dX8_init_34 rfl ?_
  refine g_eqL (L' := GS L0 j0 (.inr (7, [.ref (bs + (k + 0)), .ref (bs + (k + 1)), .ref (bs + (k + 2)), .ref (bs + (k + 3)), .null])) [aI ta 960, aI ta 8, aI ta 8, aZ ta 8]) (GS_set hj) ?_
  refine g_aload_n cx (q := 38) 0 rfl rfl dX8_init_37 rfl ?_
  refine g_new cx (q := 41) (C := RX6) (T := TX6) (N := 7) (ci := 5) (fs := fs6) inB_X6 tyX6 tyX6_ok (BG_at 100 (by decide +kernel) (by decide +kernel)) (BG_at 101 (by decide +kernel) (by decide +kernel)) (BG_at 39 (by decide +kernel) (by decide +kernel)) rfl fs6_ok ⟨Nat.le_of_ble_eq_true rfl, Nat.le_of_ble_eq_true rfl⟩ dX8_init_38 rfl ?_
  refine gs_nf hk (M' := [aI ta 960, aI ta 8, aI ta 8, aZ ta 8, .inr (5, fs6)]) (m9 := 4) rfl rfl ?_
  refine g_dup cx (q := 42) dX8_init_41 rfl rfl ?_
  refine g_aload_n cx (q := 43) 1 rfl rfl dX8_init_42 rfl ?_
  refine g_call cx (q := 46) (a := bs + (k + 4)) (As := [.ref a1]) (gc_X6 l D ta bs (j0 := k + 4) (k := k + 5) (a1 := a1) (GS_len hk rfl) (GS_at hk rfl)) ci_X8_27 ⟨by decide, by decide⟩ ⟨Nat.le_of_ble_eq_true rfl, Nat.le_of_ble_eq_true rfl⟩ (by simp [Value.category]) rfl dX8_init_43 rfl ?_
  refine g_eqL (GS_nest hk (M' := [aI ta 960, aI ta 8, aI ta 8, aZ ta 8, .inr (5, [.ref a1, .ref (bs + (k + 5)), .int 0, .int 0, .int 0, .int 0, .int 0]), aI ta 21]) rfl) ?_
  refine g_putF cx hin (q := 49) (j := j0) gf_X8_30 pff_X8_4 ⟨rfl, rfl⟩ (GS_obj hj) (Nat.le_of_ble_eq_true rfl) dX8_init_46 rfl ?_
  refine g_eqL (L' := GS L0 j0 (.inr (7, [.ref (bs + (k + 0)), .ref (bs + (k + 1)), .ref (bs + (k + 2)), .ref (bs + (k + 3)), .ref (bs + (k + 4))])) [aI ta 960, aI ta 8, aI ta 8, aZ ta 8, .inr (5, [.ref a1, .ref (bs + (k + 5)), .int 0, .int 0, .int 0, .int 0, .int 0]), aI ta 21]) (GS_set hj) ?_
  exact g_vret cx hr rfl ⟨Nat.le_of_ble_eq_true rfl, Nat.le_of_ble_eq_true rfl⟩ dX8_init_49
theorem pff_X5_0 : PFf RX5 4 0 (.array .int) := ⟨RX5, TX5, 6, tyX5, rfl, tyX5_ok, nmX5, rfl, by decide +kernel, rfl⟩
theorem pff_X5_1 : PFf RX5 4 1 (.array .int) := ⟨RX5, TX5, 6, tyX5, rfl, tyX5_ok, nmX5, rfl, by decide +kernel, rfl⟩
theorem pff_X5_2 : PFf RX5 4 2 (.array .boolean) := ⟨RX5, TX5, 6, tyX5, rfl, tyX5_ok, nmX5, rfl, by decide +kernel, rfl⟩
theorem pff_X5_3 : PFf RX5 4 3 (.array (.array .int)) := ⟨RX5, TX5, 6, tyX5, rfl, tyX5_ok, nmX5, rfl, by decide +kernel, rfl⟩
theorem pff_X5_4 : PFf RX5 4 4 (.array (.array .int)) := ⟨RX5, TX5, 6, tyX5, rfl, tyX5_ok, nmX5, rfl, by decide +kernel, rfl⟩
theorem pfi_X5_5 : PF 4 5 (.int) := ⟨RX5, TX5, 6, tyX5, rfl, tyX5_ok, nmX5, rfl, by decide +kernel⟩
set_option maxHeartbeats 4000000 in
set_option maxRecDepth 100000 in
theorem gc_X5 (l : Launch) (D : va_G) (ta : wTa) (bs : Nat) {L0 : List va_E} {j0 k : Nat} (hk : L0.length = k) (h0 : L0[j0]? = some (.inr (4, fs5))) : GC l D ta bs yX5_init cX5_init 1 1 13 52 [.ref (bs + j0)] L0 (GS L0 j0 (.inr (4, [.ref (bs + (k + 0)), .ref (bs + (k + 1)), .ref (bs + (k + 2)), .ref (bs + (k + 3)), .ref (bs + (k + 8)), .int 10])) [aI ta 4, aI ta 4, aZ ta 4, aR ta 2 4 (bs + (k + 4)), aI ta 4, aI ta 4, aI ta 4, aI ta 4, aR ta 2 4 (bs + (k + 9)), aI ta 4, aI ta 4, aI ta 4, aI ta 4]) := by
  have hj : j0 < L0.length := (List.getElem?_eq_some_iff.mp h0).1
  refine GC.of (by decide) (Nat.le_of_ble_eq_true rfl) (fun p e s m args below meth c cx hr hn9 => ?_)
  have hin : meth.name = "<init>" := hn9.symm
  refine g_eqL (GS_0 h0) ?_
  refine g_aload_n cx (q := 1) 0 rfl rfl dX5_init_0 rfl ?_
  refine g_obj cx (q := 4) (BG_at 150 (by decide +kernel) (by decide +kernel)) w_obj2 w_obj3 ⟨by decide, by decide⟩ dX5_init_1 rfl ?_
  refine g_aload_n cx (q := 5) 0 rfl rfl dX5_init_4 rfl ?_
  refine g_iconst cx (q := 6) (v := 4) dX5_init_5 rfl rfl ?_
  refine g_newa cx (q := 8) (t0 := 0) (N := 4) (ty := .int) (a0 := (4, .inl (fun _ => 0))) rfl w_arrI rfl ra_int (new_int 4) (by decide) (by decide) (by decide) ⟨Nat.le_of_ble_eq_true rfl, Nat.le_of_ble_eq_true rfl⟩ dX5_init_6 rfl ?_
  refine gs_nf hk (M' := [aI ta 4]) (m9 := 0) rfl rfl ?_
  refine g_putF cx hin (q := 11) (j := j0) gf_X5_9 pff_X5_0 ⟨rfl, rfl⟩ (GS_obj hj) (Nat.le_of_ble_eq_true rfl) dX5_init_8 rfl ?_
  refine g_eqL (L' := GS L0 j0 (.inr (4, [.ref (bs + (k + 0)), .null, .null, .null, .null, .int 0])) [aI ta 4]) (GS_set hj) ?_
  refine g_aload_n cx (q := 12) 0 rfl rfl dX5_init_11 rfl ?_
  refine g_iconst cx (q := 13) (v := 4) dX5_init_12 rfl rfl ?_
  refine g_newa cx (q := 15) (t0 := 0) (N := 4) (ty := .int) (a0 := (4, .inl (fun _ => 0))) rfl w_arrI rfl ra_int (new_int 4) (by decide) (by decide) (by decide) ⟨Nat.le_of_ble_eq_true rfl, Nat.le_of_ble_eq_true rfl⟩ dX5_init_13 rfl ?_
  refine gs_nf hk (M' := [aI ta 4, aI ta 4]) (m9 := 1) rfl rfl ?_
  refine g_putF cx hin (q := 18) (j := j0) gf_X5_15 pff_X5_1 ⟨rfl, rfl⟩ (GS_obj hj) (Nat.le_of_ble_eq_true rfl) dX5_init_15 rfl ?_
  refine g_eqL (L' := GS L0 j0 (.inr (4, [.ref (bs + (k + 0)), .ref (bs + (k + 1)), .null, .null, .null, .int 0])) [aI ta 4, aI ta 4]) (GS_set hj) ?_
  refine g_aload_n cx (q := 19) 0 rfl rfl dX5_init_18 rfl ?_
  refine g_iconst cx (q := 20) (v := 4) dX5_init_19 rfl rfl ?_
  refine g_newa cx (q := 22) (t0 := 1) (N := 4) (ty := .boolean) (a0 := (4, .inl (fun _ => 0))) rfl w_arrZ rfl ra_bool (new_bool 4) (by decide) (by decide) (by decide) ⟨Nat.le_of_ble_eq_true rfl, Nat.le_of_ble_eq_true rfl⟩ dX5_init_20 rfl ?_
  refine gs_nf hk (M' := [aI ta 4, aI ta 4, aZ ta 4]) (m9 := 2) rfl rfl ?_
  refine g_putF cx hin (q := 25) (j := j0) gf_X5_18 pff_X5_2 ⟨rfl, rfl⟩ (GS_obj hj) (Nat.le_of_ble_eq_true rfl) dX5_init_22 rfl ?_
  refine g_eqL (L' := GS L0 j0 (.inr (4, [.ref (bs + (k + 0)), .ref (bs + (k + 1)), .ref (bs + (k + 2)), .null, .null, .int 0])) [aI ta 4, aI ta 4, aZ ta 4]) (GS_set hj) ?_
  refine g_aload_n cx (q := 26) 0 rfl rfl dX5_init_25 rfl ?_
  refine g_iconst cx (q := 27) (v := 4) dX5_init_26 rfl rfl ?_
  refine g_iconst cx (q := 28) (v := 4) dX5_init_27 rfl rfl ?_
  refine g_mna cx (q := 32) (t1 := 2) (t0 := 0) (N := 4) (K' := 4) (ty := .int) (z := (4, .inl (fun _ => 0))) (BG_at 151 (by decide +kernel) (by decide +kernel)) cx.ov.1 w_arrI rfl rfl ra_rows ra_int (by decide) (by decide) (by decide) (by decide) (by decide) (by decide) (by decide) rfl rfl ⟨Nat.le_of_ble_eq_true rfl, Nat.le_of_ble_eq_true rfl⟩ (new_row 4) dX5_init_28 rfl ?_
  refine gs_nf2 hk (a := bs + (k + 4)) (M' := [aI ta 4, aI ta 4, aZ ta 4, aR ta 2 4 (bs + (k + 4)), aI ta 4, aI ta 4, aI ta 4, aI ta 4]) (m9 := 3) rfl rfl rfl ?_
  refine g_putF cx hin (q := 35) (j := j0) gf_X5_24 pff_X5_3 ⟨rfl, rfl⟩ (GS_obj hj) (Nat.le_of_ble_eq_true rfl) dX5_init_32 rfl ?_
  refine g_eqL (L' := GS L0 j0 (.inr (4, [.ref (bs + (k + 0)), .ref (bs + (k + 1)), .ref (bs + (k + 2)), .ref (bs + (k + 3)), .null, .int 0])) [aI ta 4, aI ta 4, aZ ta 4, aR ta 2 4 (bs + (k + 4)), aI ta 4, aI ta 4, aI ta 4, aI ta 4]) (GS_set hj) ?_
  refine g_aload_n cx (q := 36) 0 rfl rfl dX5_init_35 rfl ?_
  refine g_iconst cx (q := 37) (v := 4) dX5_init_36 rfl rfl ?_
  refine g_iconst cx (q := 38) (v := 4) dX5_init_37 rfl rfl ?_
  refine g_mna cx (q := 42) (t1 := 2) (t0 := 0) (N := 4) (K' := 4) (ty := .int) (z := (4, .inl (fun _ => 0))) (BG_at 151 (by decide +kernel) (by decide +kernel)) cx.ov.1 w_arrI rfl rfl ra_rows ra_int (by decide) (by decide) (by decide) (by decide) (by decide) (by decide) (by decide) rfl rfl ⟨Nat.le_of_ble_eq_true rfl, Nat.le_of_ble_eq_true rfl⟩ (new_row 4) dX5_init_38 rfl ?_
  refine gs_nf2 hk (a := bs + (k + 9)) (M' := [aI ta 4, aI ta 4, aZ ta 4, aR ta 2 4 (bs + (k + 4)), aI ta 4, aI ta 4, aI ta 4, aI ta 4, aR ta 2 4 (bs + (k + 9)), aI ta 4, aI ta 4, aI ta 4, aI ta 4]) (m9 := 8) rfl rfl rfl ?_
  refine g_putF cx hin (q := 45) (j := j0) gf_X5_27 pff_X5_4 ⟨rfl, rfl⟩ (GS_obj hj) (Nat.le_of_ble_eq_true rfl) dX5_init_42 rfl ?_
  refine g_eqL (L' := GS L0 j0 (.inr (4, [.ref (bs + (k + 0)), .ref (bs + (k + 1)), .ref (bs + (k + 2)), .ref (bs + (k + 3)), .ref (bs + (k + 8)), .int 0])) [aI ta 4, aI ta 4, aZ ta 4, aR ta 2 4 (bs + (k + 4)), aI ta 4, aI ta 4, aI ta 4, aI ta 4, aR ta 2 4 (bs + (k + 9)), aI ta 4, aI ta 4, aI ta 4, aI ta 4]) (GS_set hj) ?_
  refine g_aload_n cx (q := 46) 0 rfl rfl dX5_init_45 rfl ?_
  refine g_bipush cx (q := 48) (v := 10) dX5_init_46 rfl rfl ?_
  refine g_put cx (q := 51) (j := j0) gf_X5_30 pfi_X5_5 ⟨rfl, rfl⟩ (GS_obj hj) (Nat.le_of_ble_eq_true rfl) dX5_init_48 rfl ?_
  refine g_eqL (L' := GS L0 j0 (.inr (4, [.ref (bs + (k + 0)), .ref (bs + (k + 1)), .ref (bs + (k + 2)), .ref (bs + (k + 3)), .ref (bs + (k + 8)), .int 10])) [aI ta 4, aI ta 4, aZ ta 4, aR ta 2 4 (bs + (k + 4)), aI ta 4, aI ta 4, aI ta 4, aI ta 4, aR ta 2 4 (bs + (k + 9)), aI ta 4, aI ta 4, aI ta 4, aI ta 4]) (GS_set hj) ?_
  exact g_vret cx hr rfl ⟨Nat.le_of_ble_eq_true rfl, Nat.le_of_ble_eq_true rfl⟩ dX5_init_51
theorem pff_X1_0 : PFf RX1 0 0 (.array (.array .int)) := ⟨RX1, TX1, 8, tyX1, rfl, tyX1_ok, nmX1, rfl, by decide +kernel, rfl⟩
theorem pff_X1_1 : PFf RX1 0 1 (.array .int) := ⟨RX1, TX1, 8, tyX1, rfl, tyX1_ok, nmX1, rfl, by decide +kernel, rfl⟩
theorem pff_X1_2 : PFf RX1 0 2 (.array .int) := ⟨RX1, TX1, 8, tyX1, rfl, tyX1_ok, nmX1, rfl, by decide +kernel, rfl⟩
theorem pff_X1_3 : PFf RX1 0 3 (.array .int) := ⟨RX1, TX1, 8, tyX1, rfl, tyX1_ok, nmX1, rfl, by decide +kernel, rfl⟩
theorem pff_X1_4 : PFf RX1 0 4 (.array .int) := ⟨RX1, TX1, 8, tyX1, rfl, tyX1_ok, nmX1, rfl, by decide +kernel, rfl⟩
theorem pff_X1_5 : PFf RX1 0 5 (.array .int) := ⟨RX1, TX1, 8, tyX1, rfl, tyX1_ok, nmX1, rfl, by decide +kernel, rfl⟩
theorem pff_X1_6 : PFf RX1 0 6 (.array .int) := ⟨RX1, TX1, 8, tyX1, rfl, tyX1_ok, nmX1, rfl, by decide +kernel, rfl⟩
set_option maxHeartbeats 4000000 in
set_option maxRecDepth 100000 in
theorem gc_X1 (l : Launch) (D : va_G) (ta : wTa) (bs : Nat) {L0 : List va_E} {j0 k : Nat} (hk : L0.length = k) (h0 : L0[j0]? = some (.inr (0, fs1))) : GC l D ta bs yX1_init cX1_init 1 1 12 15053 [.ref (bs + j0)] L0 (GS L0 j0 (.inr (0, [.ref (bs + (k + 0)), .ref (bs + (k + 6)), .ref (bs + (k + 7)), .ref (bs + (k + 8)), .ref (bs + (k + 9)), .ref (bs + (k + 10)), .ref (bs + (k + 11)), .int 0])) [aR ta 2 5 (bs + (k + 1)), aI ta 8, aI ta 8, aI ta 8, aI ta 8, aI ta 8, aI ta 8, aI ta 3000, aI ta 3000, aI ta 3000, aI ta 3000, aI ta 3000]) := by
  have hj : j0 < L0.length := (List.getElem?_eq_some_iff.mp h0).1
  refine GC.of (by decide) (Nat.le_of_ble_eq_true rfl) (fun p e s m args below meth c cx hr hn9 => ?_)
  have hin : meth.name = "<init>" := hn9.symm
  refine g_eqL (GS_0 h0) ?_
  refine g_aload_n cx (q := 1) 0 rfl rfl dX1_init_0 rfl ?_
  refine g_obj cx (q := 4) (BG_at 177 (by decide +kernel) (by decide +kernel)) w_obj2 w_obj3 ⟨by decide, by decide⟩ dX1_init_1 rfl ?_
  refine g_aload_n cx (q := 5) 0 rfl rfl dX1_init_4 rfl ?_
  refine g_iconst cx (q := 6) (v := 5) dX1_init_5 rfl rfl ?_
  refine g_bipush cx (q := 8) (v := 8) dX1_init_6 rfl rfl ?_
  refine g_mna cx (q := 12) (t1 := 2) (t0 := 0) (N := 5) (K' := 8) (ty := .int) (z := (8, .inl (fun _ => 0))) (BG_at 178 (by decide +kernel) (by decide +kernel)) cx.ov.1 w_arrI rfl rfl ra_rows ra_int (by decide) (by decide) (by decide) (by decide) (by decide) (by decide) (by decide) rfl rfl ⟨Nat.le_of_ble_eq_true rfl, Nat.le_of_ble_eq_true rfl⟩ (new_row 8) dX1_init_8 rfl ?_
  refine gs_nf2 hk (a := bs + (k + 1)) (M' := [aR ta 2 5 (bs + (k + 1)), aI ta 8, aI ta 8, aI ta 8, aI ta 8, aI ta 8]) (m9 := 0) rfl rfl rfl ?_
  refine g_putF cx hin (q := 15) (j := j0) gf_X1_11 pff_X1_0 ⟨rfl, rfl⟩ (GS_obj hj) (Nat.le_of_ble_eq_true rfl) dX1_init_12 rfl ?_
  refine g_eqL (L' := GS L0 j0 (.inr (0, [.ref (bs + (k + 0)), .null, .null, .null, .null, .null, .null, .int 0])) [aR ta 2 5 (bs + (k + 1)), aI ta 8, aI ta 8, aI ta 8, aI ta 8, aI ta 8]) (GS_set hj) ?_
  refine g_aload_n cx (q := 16) 0 rfl rfl dX1_init_15 rfl ?_
  refine g_bipush cx (q := 18) (v := 8) dX1_init_16 rfl rfl ?_
  refine g_newa cx (q := 20) (t0 := 0) (N := 8) (ty := .int) (a0 := (8, .inl (fun _ => 0))) rfl w_arrI rfl ra_int (new_int 8) (by decide) (by decide) (by decide) ⟨Nat.le_of_ble_eq_true rfl, Nat.le_of_ble_eq_true rfl⟩ dX1_init_18 rfl ?_
  refine gs_nf hk (M' := [aR ta 2 5 (bs + (k + 1)), aI ta 8, aI ta 8, aI ta 8, aI ta 8, aI ta 8, aI ta 8]) (m9 := 6) rfl rfl ?_
  refine g_putF cx hin (q := 23) (j := j0) gf_X1_16 pff_X1_1 ⟨rfl, rfl⟩ (GS_obj hj) (Nat.le_of_ble_eq_true rfl) dX1_init_20 rfl ?_
  refine g_eqL (L' := GS L0 j0 (.inr (0, [.ref (bs + (k + 0)), .ref (bs + (k + 6)), .null, .null, .null, .null, .null, .int 0])) [aR ta 2 5 (bs + (k + 1)), aI ta 8, aI ta 8, aI ta 8, aI ta 8, aI ta 8, aI ta 8]) (GS_set hj) ?_
  refine g_aload_n cx (q := 24) 0 rfl rfl dX1_init_23 rfl ?_
  refine g_sipush cx (q := 27) (v := 3000) dX1_init_24 rfl rfl ?_
  refine g_newa cx (q := 29) (t0 := 0) (N := 3000) (ty := .int) (a0 := (3000, .inl (fun _ => 0))) rfl w_arrI rfl ra_int (new_int 3000) (by decide) (by decide) (by decide) ⟨Nat.le_of_ble_eq_true rfl, Nat.le_of_ble_eq_true rfl⟩ dX1_init_27 rfl ?_
  refine gs_nf hk (M' := [aR ta 2 5 (bs + (k + 1)), aI ta 8, aI ta 8, aI ta 8, aI ta 8, aI ta 8, aI ta 8, aI ta 3000]) (m9 := 7) rfl rfl ?_
  refine g_putF cx hin (q := 32) (j := j0) gf_X1_20 pff_X1_2 ⟨rfl, rfl⟩ (GS_obj hj) (Nat.le_of_ble_eq_true rfl) dX1_init_29 rfl ?_
  refine g_eqL (L' := GS L0 j0 (.inr (0, [.ref (bs + (k + 0)), .ref (bs + (k + 6)), .ref (bs + (k + 7)), .null, .null, .null, .null, .int 0])) [aR ta 2 5 (bs + (k + 1)), aI ta 8, aI ta 8, aI ta 8, aI ta 8, aI ta 8, aI ta 8, aI ta 3000]) (GS_set hj) ?_
  refine g_aload_n cx (q := 33) 0 rfl rfl dX1_init_32 rfl ?_
  refine g_sipush cx (q := 36) (v := 3000) dX1_init_33 rfl rfl ?_
  refine g_newa cx (q := 38) (t0 := 0) (N := 3000) (ty := .int) (a0 := (3000, .inl (fun _ => 0))) rfl w_arrI rfl ra_int (new_int 3000) (by decide) (by decide) (by decide) ⟨Nat.le_of_ble_eq_true rfl, Nat.le_of_ble_eq_true rfl⟩ dX1_init_36 rfl ?_
  refine gs_nf hk (M' := [aR ta 2 5 (bs + (k + 1)), aI ta 8, aI ta 8, aI ta 8, aI ta 8, aI ta 8, aI ta 8, aI ta 3000, aI ta 3000]) (m9 := 8) rfl rfl ?_
  refine g_putF cx hin (q := 41) (j := j0) gf_X1_23 pff_X1_3 ⟨rfl, rfl⟩ (GS_obj hj) (Nat.le_of_ble_eq_true rfl) dX1_init_38 rfl ?_
  refine g_eqL (L' := GS L0 j0 (.inr (0, [.ref (bs + (k + 0)), .ref (bs + (k + 6)), .ref (bs + (k + 7)), .ref (bs + (k + 8)), .null, .null, .null, .int 0])) [aR ta 2 5 (bs + (k + 1)), aI ta 8, aI ta 8, aI ta 8, aI ta 8, aI ta 8, aI ta 8, aI ta 3000, aI ta 3000]) (GS_set hj) ?_
  refine g_aload_n cx (q := 42) 0 rfl rfl dX1_init_41 rfl ?_
  refine g_sipush cx (q := 45) (v := 3000) dX1_init_42 rfl rfl ?_
  refine g_newa cx (q := 47) (t0 := 0) (N := 3000) (ty := .int) (a0 := (3000, .inl (fun _ => 0))) rfl w_arrI rfl ra_int (new_int 3000) (by decide) (by decide) (by decide) ⟨Nat.le_of_ble_eq_true rfl, Nat.le_of_ble_eq_true rfl⟩ dX1_init_45 rfl ?_
  refine gs_nf hk (M' := [aR ta 2 5 (bs + (k + 1)), aI ta 8, aI ta 8, aI ta 8, aI ta 8, aI ta 8, aI ta 8, aI ta 3000, aI ta 3000, aI ta 3000]) (m9 := 9) rfl rfl ?_
  refine g_putF cx hin (q := 50) (j := j0) gf_X1_26 pff_X1_4 ⟨rfl, rfl⟩ (GS_obj hj) (Nat.le_of_ble_eq_true rfl) dX1_init_47 rfl ?_
  refine g_eqL (L' := GS L0 j0 (.inr (0, [.ref (bs + (k + 0)), .ref (bs + (k + 6)), .ref (bs + (k + 7)), .ref (bs + (k + 8)), .ref (bs + (k + 9)), .null, .null, .int 0])) [aR ta 2 5 (bs + (k + 1)), aI ta 8, aI ta 8, aI ta 8, aI ta 8, aI ta 8, aI ta 8, aI ta 3000, aI ta 3000, aI ta 3000]) (GS_set hj) ?_
  refine g_aload_n cx (q := 51) 0 rfl rfl dX1_init_50 rfl ?_
  refine g_sipush cx (q := 54) (v := 3000) dX1_init_51 rfl rfl ?_
  refine g_newa cx (q := 56) (t0 := 0) (N := 3000) (ty := .int) (a0 := (3000, .inl (fun _ => 0))) rfl w_arrI rfl ra_int (new_int 3000) (by decide) (by decide) (by decide) ⟨Nat.le_of_ble_eq_true rfl, Nat.le_of_ble_eq_true rfl⟩ dX1_init_54 rfl ?_
  refine gs_nf hk (M' := [aR ta 2 5 (bs + (k + 1)), aI ta 8, aI ta 8, aI ta 8, aI ta 8, aI ta 8, aI ta 8, aI ta 3000, aI ta 3000, aI ta 3000, aI ta 3000]) (m9 := 10) rfl rfl ?_
  refine g_putF cx hin (q := 59) (j := j0) gf_X1_29 pff_X1_5 ⟨rfl, rfl⟩ (GS_obj hj) (Nat.le_of_ble_eq_true rfl) dX1_init_56 rfl ?_
  refine g_eqL (L' := GS L0 j0 (.inr (0, [.ref (bs + (k + 0)), .ref (bs + (k + 6)), .ref (bs + (k + 7)), .ref (bs + (k + 8)), .ref (bs + (k + 9)), .ref (bs + (k + 10)), .null, .int 0])) [aR ta 2 5 (bs + (k + 1)), aI ta 8, aI ta 8, aI ta 8, aI ta 8, aI ta 8, aI ta 8, aI ta 3000, aI ta 3000, aI ta 3000, aI ta 3000]) (GS_set hj) ?_
  refine g_aload_n cx (q := 60) 0 rfl rfl dX1_init_59 rfl ?_
  refine g_sipush cx (q := 63) (v := 3000) dX1_init_60 rfl rfl ?_
  refine g_newa cx (q := 65) (t0 := 0) (N := 3000) (ty := .int) (a0 := (3000, .inl (fun _ => 0))) rfl w_arrI rfl ra_int (new_int 3000) (by decide) (by decide) (by decide) ⟨Nat.le_of_ble_eq_true rfl, Nat.le_of_ble_eq_true rfl⟩ dX1_init_63 rfl ?_
  refine gs_nf hk (M' := [aR ta 2 5 (bs + (k + 1)), aI ta 8, aI ta 8, aI ta 8, aI ta 8, aI ta 8, aI ta 8, aI ta 3000, aI ta 3000, aI ta 3000, aI ta 3000, aI ta 3000]) (m9 := 11) rfl rfl ?_
  refine g_putF cx hin (q := 68) (j := j0) gf_X1_32 pff_X1_6 ⟨rfl, rfl⟩ (GS_obj hj) (Nat.le_of_ble_eq_true rfl) dX1_init_65 rfl ?_
  refine g_eqL (L' := GS L0 j0 (.inr (0, [.ref (bs + (k + 0)), .ref (bs + (k + 6)), .ref (bs + (k + 7)), .ref (bs + (k + 8)), .ref (bs + (k + 9)), .ref (bs + (k + 10)), .ref (bs + (k + 11)), .int 0])) [aR ta 2 5 (bs + (k + 1)), aI ta 8, aI ta 8, aI ta 8, aI ta 8, aI ta 8, aI ta 8, aI ta 3000, aI ta 3000, aI ta 3000, aI ta 3000, aI ta 3000]) (GS_set hj) ?_
  exact g_vret cx hr rfl ⟨Nat.le_of_ble_eq_true rfl, Nat.le_of_ble_eq_true rfl⟩ dX1_init_68
theorem pff_X2_0 : PFf RX2 1 0 (.array .int) := ⟨RX2, TX2, 7, tyX2, rfl, tyX2_ok, nmX2, rfl, by decide +kernel, rfl⟩
theorem pff_X2_1 : PFf RX2 1 1 (.array .int) := ⟨RX2, TX2, 7, tyX2, rfl, tyX2_ok, nmX2, rfl, by decide +kernel, rfl⟩
theorem pff_X2_4 : PFf RX2 1 4 (.array .int) := ⟨RX2, TX2, 7, tyX2, rfl, tyX2_ok, nmX2, rfl, by decide +kernel, rfl⟩
theorem pff_X2_5 : PFf RX2 1 5 (.array .int) := ⟨RX2, TX2, 7, tyX2, rfl, tyX2_ok, nmX2, rfl, by decide +kernel, rfl⟩
set_option maxHeartbeats 4000000 in
set_option maxRecDepth 100000 in
theorem gc_X2 (l : Launch) (D : va_G) (ta : wTa) (bs : Nat) {L0 : List va_E} {j0 k : Nat} (hk : L0.length = k) (h0 : L0[j0]? = some (.inr (1, fs2))) : GC l D ta bs yX2_init cX2_init 1 1 4 196 [.ref (bs + j0)] L0 (GS L0 j0 (.inr (1, [.ref (bs + (k + 0)), .ref (bs + (k + 1)), .int 0, .int 0, .ref (bs + (k + 2)), .ref (bs + (k + 3)), .int 0])) [aI ta 90, aI ta 90, aI ta 8, aI ta 8]) := by
  have hj : j0 < L0.length := (List.getElem?_eq_some_iff.mp h0).1
  refine GC.of (by decide) (Nat.le_of_ble_eq_true rfl) (fun p e s m args below meth c cx hr hn9 => ?_)
  have hin : meth.name = "<init>" := hn9.symm
  refine g_eqL (GS_0 h0) ?_
  refine g_aload_n cx (q := 1) 0 rfl rfl dX2_init_0 rfl ?_
  refine g_obj cx (q := 4) (BG_at 289 (by decide +kernel) (by decide +kernel)) w_obj2 w_obj3 ⟨by decide, by decide⟩ dX2_init_1 rfl ?_
  refine g_aload_n cx (q := 5) 0 rfl rfl dX2_init_4 rfl ?_
  refine g_bipush cx (q := 7) (v := 90) dX2_init_5 rfl rfl ?_
  refine g_newa cx (q := 9) (t0 := 0) (N := 90) (ty := .int) (a0 := (90, .inl (fun _ => 0))) rfl w_arrI rfl ra_int (new_int 90) (by decide) (by decide) (by decide) ⟨Nat.le_of_ble_eq_true rfl, Nat.le_of_ble_eq_true rfl⟩ dX2_init_7 rfl ?_
  refine gs_nf hk (M' := [aI ta 90]) (m9 := 0) rfl rfl ?_
  refine g_putF cx hin (q := 12) (j := j0) gf_X2_13 pff_X2_0 ⟨rfl, rfl⟩ (GS_obj hj) (Nat.le_of_ble_eq_true rfl) dX2_init_9 rfl ?_
  refine g_eqL (L' := GS L0 j0 (.inr (1, [.ref (bs + (k + 0)), .null, .int 0, .int 0, .null, .null, .int 0])) [aI ta 90]) (GS_set hj) ?_
  refine g_aload_n cx (q := 13) 0 rfl rfl dX2_init_12 rfl ?_
  refine g_bipush cx (q := 15) (v := 90) dX2_init_13 rfl rfl ?_
  refine g_newa cx (q := 17) (t0 := 0) (N := 90) (ty := .int) (a0 := (90, .inl (fun _ => 0))) rfl w_arrI rfl ra_int (new_int 90) (by decide) (by decide) (by decide) ⟨Nat.le_of_ble_eq_true rfl, Nat.le_of_ble_eq_true rfl⟩ dX2_init_15 rfl ?_
  refine gs_nf hk (M' := [aI ta 90, aI ta 90]) (m9 := 1) rfl rfl ?_
  refine g_putF cx hin (q := 20) (j := j0) gf_X2_17 pff_X2_1 ⟨rfl, rfl⟩ (GS_obj hj) (Nat.le_of_ble_eq_true rfl) dX2_init_17 rfl ?_
  refine g_eqL (L' := GS L0 j0 (.inr (1, [.ref (bs + (k + 0)), .ref (bs + (k + 1)), .int 0, .int 0, .null, .null, .int 0])) [aI ta 90, aI ta 90]) (GS_set hj) ?_
  refine g_aload_n cx (q := 21) 0 rfl rfl dX2_init_20 rfl ?_
  refine g_bipush cx (q := 23) (v := 8) dX2_init_21 rfl rfl ?_
  refine g_newa cx (q := 25) (t0 := 0) (N := 8) (ty := .int) (a0 := (8, .inl (fun _ => 0))) rfl w_arrI rfl ra_int (new_int 8) (by decide) (by decide) (by decide) ⟨Nat.le_of_ble_eq_true rfl, Nat.le_of_ble_eq_true rfl⟩ dX2_init_23 rfl ?_
  refine gs_nf hk (M' := [aI ta 90, aI ta 90, aI ta 8]) (m9 := 2) rfl rfl ?_
  refine g_putF cx hin (q := 28) (j := j0) gf_X2_20 pff_X2_4 ⟨rfl, rfl⟩ (GS_obj hj) (Nat.le_of_ble_eq_true rfl) dX2_init_25 rfl ?_
  refine g_eqL (L' := GS L0 j0 (.inr (1, [.ref (bs + (k + 0)), .ref (bs + (k + 1)), .int 0, .int 0, .ref (bs + (k + 2)), .null, .int 0])) [aI ta 90, aI ta 90, aI ta 8]) (GS_set hj) ?_
  refine g_aload_n cx (q := 29) 0 rfl rfl dX2_init_28 rfl ?_
  refine g_bipush cx (q := 31) (v := 8) dX2_init_29 rfl rfl ?_
  refine g_newa cx (q := 33) (t0 := 0) (N := 8) (ty := .int) (a0 := (8, .inl (fun _ => 0))) rfl w_arrI rfl ra_int (new_int 8) (by decide) (by decide) (by decide) ⟨Nat.le_of_ble_eq_true rfl, Nat.le_of_ble_eq_true rfl⟩ dX2_init_31 rfl ?_
  refine gs_nf hk (M' := [aI ta 90, aI ta 90, aI ta 8, aI ta 8]) (m9 := 3) rfl rfl ?_
  refine g_putF cx hin (q := 36) (j := j0) gf_X2_23 pff_X2_5 ⟨rfl, rfl⟩ (GS_obj hj) (Nat.le_of_ble_eq_true rfl) dX2_init_33 rfl ?_
  refine g_eqL (L' := GS L0 j0 (.inr (1, [.ref (bs + (k + 0)), .ref (bs + (k + 1)), .int 0, .int 0, .ref (bs + (k + 2)), .ref (bs + (k + 3)), .int 0])) [aI ta 90, aI ta 90, aI ta 8, aI ta 8]) (GS_set hj) ?_
  exact g_vret cx hr rfl ⟨Nat.le_of_ble_eq_true rfl, Nat.le_of_ble_eq_true rfl⟩ dX2_init_36
theorem ci_X7_11 : CIN RX7 11 yX2_init cX2_init 1 0 := ⟨⟨"RationLisp", NG_at 286 (by decide +kernel) (by decide +kernel)⟩, BG_at 287 (by decide +kernel) (by decide +kernel), BG_at 45 (by decide +kernel) (by decide +kernel), BG_at 288 (by decide +kernel) (by decide +kernel), rfl, by decide, by decide, by decide +kernel⟩
theorem pff_X7_5 : PFf RX7 6 5 (.object "RationLisp$Names") := ⟨RX7, TX7, 11, tyX7, rfl, tyX7_ok, nmX7, rfl, by decide +kernel, rfl⟩
theorem pff_X7_0 : PFf RX7 6 0 (.object "RationLisp$Tree") := ⟨RX7, TX7, 11, tyX7, rfl, tyX7_ok, nmX7, rfl, by decide +kernel, rfl⟩
theorem pff_X7_1 : PFf RX7 6 1 (.object "RationLisp$Texts") := ⟨RX7, TX7, 11, tyX7, rfl, tyX7_ok, nmX7, rfl, by decide +kernel, rfl⟩
theorem pff_X7_2 : PFf RX7 6 2 (.object "RationLisp$Purses") := ⟨RX7, TX7, 11, tyX7, rfl, tyX7_ok, nmX7, rfl, by decide +kernel, rfl⟩
theorem pff_X7_3 : PFf RX7 6 3 (.object "RationLisp$Book") := ⟨RX7, TX7, 11, tyX7, rfl, tyX7_ok, nmX7, rfl, by decide +kernel, rfl⟩
theorem pff_X7_4 : PFf RX7 6 4 (.object "RationLisp$Orders") := ⟨RX7, TX7, 11, tyX7, rfl, tyX7_ok, nmX7, rfl, by decide +kernel, rfl⟩
set_option maxHeartbeats 4000000 in
set_option maxRecDepth 100000 in
theorem gc_X7 (l : Launch) (D : va_G) (ta : wTa) (bs : Nat) {L0 : List va_E} {j0 k a1 a2 a3 a4 a5 : Nat} (hk : L0.length = k) (h0 : L0[j0]? = some (.inr (6, fs7))) : GC l D ta bs yX7_init cX7_init 6 2 5 203 [.ref (bs + j0), .ref a1, .ref a2, .ref a3, .ref a4, .ref a5] L0 (GS L0 j0 (.inr (6, [.ref a1, .ref a2, .ref a3, .ref a4, .ref a5, .ref (bs + (k + 0)), .int 0, .int 0, .int 0, .int 0, .int 0])) [.inr (1, [.ref (bs + (k + 1)), .ref (bs + (k + 2)), .int 0, .int 0, .ref (bs + (k + 3)), .ref (bs + (k + 4)), .int 0]), aI ta 90, aI ta 90, aI ta 8, aI ta 8]) := by
  have hj : j0 < L0.length := (List.getElem?_eq_some_iff.mp h0).1
  refine GC.of (by decide) (Nat.le_of_ble_eq_true rfl) (fun p e s m args below meth c cx hr hn9 => ?_)
  have hin : meth.name = "<init>" := hn9.symm
  refine g_eqL (GS_0 h0) ?_
  refine g_aload_n cx (q := 1) 0 rfl rfl dX7_init_0 rfl ?_
  refine g_obj cx (q := 4) (BG_at 283 (by decide +kernel) (by decide +kernel)) w_obj2 w_obj3 ⟨by decide, by decide⟩ dX7_init_1 rfl ?_
  refine g_aload_n cx (q := 5) 0 rfl rfl dX7_init_4 rfl ?_
  refine g_new cx (q := 8) (C := RX2) (T := TX2) (N := 7) (ci := 1) (fs := fs2) inB_X2 tyX2 tyX2_ok (BG_at 284 (by decide +kernel) (by decide +kernel)) (BG_at 285 (by decide +kernel) (by decide +kernel)) (BG_at 45 (by decide +kernel) (by decide +kernel)) rfl fs2_ok ⟨Nat.le_of_ble_eq_true rfl, Nat.le_of_ble_eq_true rfl⟩ dX7_init_5 rfl ?_
  refine gs_nf hk (M' := [.inr (1, fs2)]) (m9 := 0) rfl rfl ?_
  refine g_dup cx (q := 9) dX7_init_8 rfl rfl ?_
  refine g_callN cx (q := 12) (a := bs + (k + 0)) (As := []) (gc_X2 l D ta bs (j0 := k + 0) (k := k + 1) (GS_len hk rfl) (GS_at hk rfl)) ci_X7_11 ⟨by decide, by decide⟩ ⟨Nat.le_of_ble_eq_true rfl, Nat.le_of_ble_eq_true rfl⟩ (by simp [Value.category]) rfl dX7_init_9 rfl ?_
  refine g_eqL (GS_nest hk (M' := [.inr (1, [.ref (bs + (k + 1)), .ref (bs + (k + 2)), .int 0, .int 0, .ref (bs + (k + 3)), .ref (bs + (k + 4)), .int 0]), aI ta 90, aI ta 90, aI ta 8, aI ta 8]) rfl) ?_
  refine g_putF cx hin (q := 15) (j := j0) gf_X7_12 pff_X7_5 ⟨rfl, rfl⟩ (GS_obj hj) (Nat.le_of_ble_eq_true rfl) dX7_init_12 rfl ?_
  refine g_eqL (L' := GS L0 j0 (.inr (6, [.null, .null, .null, .null, .null, .ref (bs + (k + 0)), .int 0, .int 0, .int 0, .int 0, .int 0])) [.inr (1, [.ref (bs + (k + 1)), .ref (bs + (k + 2)), .int 0, .int 0, .ref (bs + (k + 3)), .ref (bs + (k + 4)), .int 0]), aI ta 90, aI ta 90, aI ta 8, aI ta 8]) (GS_set hj) ?_
  refine g_aload_n cx (q := 16) 0 rfl rfl dX7_init_15 rfl ?_
  refine g_aload_n cx (q := 17) 1 rfl rfl dX7_init_16 rfl ?_
  refine g_putF cx hin (q := 20) (j := j0) gf_X7_18 pff_X7_0 ⟨rfl, rfl⟩ (GS_obj hj) (Nat.le_of_ble_eq_true rfl) dX7_init_17 rfl ?_
  refine g_eqL (L' := GS L0 j0 (.inr (6, [.ref a1, .null, .null, .null, .null, .ref (bs + (k + 0)), .int 0, .int 0, .int 0, .int 0, .int 0])) [.inr (1, [.ref (bs + (k + 1)), .ref (bs + (k + 2)), .int 0, .int 0, .ref (bs + (k + 3)), .ref (bs + (k + 4)), .int 0]), aI ta 90, aI ta 90, aI ta 8, aI ta 8]) (GS_set hj) ?_
  refine g_aload_n cx (q := 21) 0 rfl rfl dX7_init_20 rfl ?_
  refine g_aload_n cx (q := 22) 2 rfl rfl dX7_init_21 rfl ?_
  refine g_putF cx hin (q := 25) (j := j0) gf_X7_22 pff_X7_1 ⟨rfl, rfl⟩ (GS_obj hj) (Nat.le_of_ble_eq_true rfl) dX7_init_22 rfl ?_
  refine g_eqL (L' := GS L0 j0 (.inr (6, [.ref a1, .ref a2, .null, .null, .null, .ref (bs + (k + 0)), .int 0, .int 0, .int 0, .int 0, .int 0])) [.inr (1, [.ref (bs + (k + 1)), .ref (bs + (k + 2)), .int 0, .int 0, .ref (bs + (k + 3)), .ref (bs + (k + 4)), .int 0]), aI ta 90, aI ta 90, aI ta 8, aI ta 8]) (GS_set hj) ?_
  refine g_aload_n cx (q := 26) 0 rfl rfl dX7_init_25 rfl ?_
  refine g_aload_n cx (q := 27) 3 rfl rfl dX7_init_26 rfl ?_
  refine g_putF cx hin (q := 30) (j := j0) gf_X7_26 pff_X7_2 ⟨rfl, rfl⟩ (GS_obj hj) (Nat.le_of_ble_eq_true rfl) dX7_init_27 rfl ?_
  refine g_eqL (L' := GS L0 j0 (.inr (6, [.ref a1, .ref a2, .ref a3, .null, .null, .ref (bs + (k + 0)), .int 0, .int 0, .int 0, .int 0, .int 0])) [.inr (1, [.ref (bs + (k + 1)), .ref (bs + (k + 2)), .int 0, .int 0, .ref (bs + (k + 3)), .ref (bs + (k + 4)), .int 0]), aI ta 90, aI ta 90, aI ta 8, aI ta 8]) (GS_set hj) ?_
  refine g_aload_n cx (q := 31) 0 rfl rfl dX7_init_30 rfl ?_
  refine g_aload cx (q := 33) 4 rfl dX7_init_31 rfl ?_
  refine g_putF cx hin (q := 36) (j := j0) gf_X7_30 pff_X7_3 ⟨rfl, rfl⟩ (GS_obj hj) (Nat.le_of_ble_eq_true rfl) dX7_init_33 rfl ?_
  refine g_eqL (L' := GS L0 j0 (.inr (6, [.ref a1, .ref a2, .ref a3, .ref a4, .null, .ref (bs + (k + 0)), .int 0, .int 0, .int 0, .int 0, .int 0])) [.inr (1, [.ref (bs + (k + 1)), .ref (bs + (k + 2)), .int 0, .int 0, .ref (bs + (k + 3)), .ref (bs + (k + 4)), .int 0]), aI ta 90, aI ta 90, aI ta 8, aI ta 8]) (GS_set hj) ?_
  refine g_aload_n cx (q := 37) 0 rfl rfl dX7_init_36 rfl ?_
  refine g_aload cx (q := 39) 5 rfl dX7_init_37 rfl ?_
  refine g_putF cx hin (q := 42) (j := j0) gf_X7_34 pff_X7_4 ⟨rfl, rfl⟩ (GS_obj hj) (Nat.le_of_ble_eq_true rfl) dX7_init_39 rfl ?_
  refine g_eqL (L' := GS L0 j0 (.inr (6, [.ref a1, .ref a2, .ref a3, .ref a4, .ref a5, .ref (bs + (k + 0)), .int 0, .int 0, .int 0, .int 0, .int 0])) [.inr (1, [.ref (bs + (k + 1)), .ref (bs + (k + 2)), .int 0, .int 0, .ref (bs + (k + 3)), .ref (bs + (k + 4)), .int 0]), aI ta 90, aI ta 90, aI ta 8, aI ta 8]) (GS_set hj) ?_
  exact g_vret cx hr rfl ⟨Nat.le_of_ble_eq_true rfl, Nat.le_of_ble_eq_true rfl⟩ dX7_init_42
set_option maxHeartbeats 4000000 in
set_option maxRecDepth 100000 in
theorem gc_X3 (l : Launch) (D : va_G) (ta : wTa) (bs : Nat) {L0 : List va_E} {j0 k : Nat} (hk : L0.length = k) (h0 : L0[j0]? = some (.inr (2, fs3))) : GC l D ta bs yX3_init cX3_init 1 1 0 0 [.ref (bs + j0)] L0 (GS L0 j0 (.inr (2, [.int 0, .int 0, .int 0, .int 0, .int 0, .int 0, .int 0, .int 0, .int 0])) []) := by
  have hj : j0 < L0.length := (List.getElem?_eq_some_iff.mp h0).1
  refine GC.of (by decide) (Nat.le_of_ble_eq_true rfl) (fun p e s m args below meth c cx hr hn9 => ?_)
  have hin : meth.name = "<init>" := hn9.symm
  refine g_eqL (GS_0 h0) ?_
  refine g_aload_n cx (q := 1) 0 rfl rfl dX3_init_0 rfl ?_
  refine g_obj cx (q := 4) (BG_at 223 (by decide +kernel) (by decide +kernel)) w_obj2 w_obj3 ⟨by decide, by decide⟩ dX3_init_1 rfl ?_
  exact g_vret cx hr rfl ⟨Nat.le_of_ble_eq_true rfl, Nat.le_of_ble_eq_true rfl⟩ dX3_init_4
theorem ci_X4_17 : CIN RX4 17 yX3_init cX3_init 1 0 := ⟨⟨"RationLisp", NG_at 220 (by decide +kernel) (by decide +kernel)⟩, BG_at 221 (by decide +kernel) (by decide +kernel), BG_at 43 (by decide +kernel) (by decide +kernel), BG_at 222 (by decide +kernel) (by decide +kernel), rfl, by decide, by decide, by decide +kernel⟩
theorem pff_X4_0 : PFf RX4 3 0 (.array (.object "RationLisp$Order")) := ⟨RX4, TX4, 3, tyX4, rfl, tyX4_ok, nmX4, rfl, by decide +kernel, rfl⟩
def oRow (ta : wTa) (a i : Nat) : va_E := aQ ta 3 60 (fun j => if j < i then some (a + j) else none)
theorem up_row (a i : Nat) : va_up (fun j => if j < i then some (a + j) else none) i (some (a + i)) = fun j => if j < i + 1 then some (a + j) else none := by
  funext j
  unfold va_up
  by_cases c : j = i
  · subst c; simp
  · rw [if_neg c]
    show (if j < i then some (a + j) else none) = _
    by_cases d : j < i
    · rw [if_pos d, if_pos (by omega)]
    · rw [if_neg d, if_neg (by omega)]
set_option maxHeartbeats 4000000 in
theorem gc_X4 (l : Launch) (D : va_G) (ta : wTa) (bs : Nat) {L0 : List va_E} {j0 k : Nat} (hk : L0.length = k) (h0 : L0[j0]? = some (.inr (3, fs4))) : GC l D ta bs yX4_init cX4_init 2 2 61 600 [.ref (bs + j0)] L0 (GS L0 j0 (.inr (3, [.ref (bs + (k + 0)), .int 0, .int 0])) ([aR ta 3 60 (bs + (k + 1))] ++ List.replicate 60 oOrd)) := by
  have hj : j0 < L0.length := (List.getElem?_eq_some_iff.mp h0).1
  refine GC.of (by decide) (Nat.le_of_ble_eq_true rfl) (fun p e s m args below meth c cx hr hn9 => ?_)
  have hin : meth.name = "<init>" := hn9.symm
  refine g_eqL (GS_0 h0) ?_
  refine g_aload_n cx (q := 1) 0 rfl rfl dX4_init_0 rfl ?_
  refine g_obj cx (q := 4) (BG_at 216 (by decide +kernel) (by decide +kernel)) w_obj2 w_obj3 ⟨by decide, by decide⟩ dX4_init_1 rfl ?_
  refine g_aload_n cx (q := 5) 0 rfl rfl dX4_init_4 rfl ?_
  refine g_bipush cx (q := 7) (v := 60) dX4_init_5 rfl rfl ?_
  refine g_anew cx (q := 10) (C := "RationLisp$Order") (t0 := 3) (N := 60) (BG_at 217 (by decide +kernel) (by decide +kernel)) cx.ov.2 rfl (by decide) (by decide) (by decide) ⟨Nat.le_of_ble_eq_true rfl, Nat.le_of_ble_eq_true rfl⟩ dX4_init_7 rfl ?_
  refine gs_nf hk (M' := [oRow ta (bs + (k + 1)) 0]) (m9 := 0) (by unfold oRow aQ; simp) rfl ?_
  refine g_putF cx hin (q := 13) (j := j0) gf_X4_13 pff_X4_0 ⟨rfl, rfl⟩ (GS_obj hj) (Nat.le_of_ble_eq_true rfl) dX4_init_10 rfl ?_
  refine g_eqL (L' := GS L0 j0 (.inr (3, [.ref (bs + (k + 0)), .int 0, .int 0])) ([oRow ta (bs + (k + 1)) 0] ++ List.replicate 0 oOrd)) (GS_set hj) ?_
  refine g_iconst cx (q := 14) (v := 0) dX4_init_13 rfl rfl ?_
  refine g_istore_n cx (q := 15) (lv' := [(1, .int 0), (0, .ref (bs + j0))]) rfl rfl (by decide) dX4_init_14 rfl ?_
  have t60 : (60 : Int32).toInt = 60 := by decide
  have key : ∀ (f i : Nat) (x : Int32) (cells slots : Nat), i + f = 60 → x = nI i → cells = 1 + i → slots = 60 + 9 * i → gw p l e (rmg 2 61 600) s m args below meth c cells slots (MQ below (gQ D bs (GS L0 j0 (.inr (3, [.ref (bs + (k + 0)), .int 0, .int 0])) ([aR ta 3 60 (bs + (k + 1))] ++ List.replicate 60 oOrd))) args s 61 600 (gA bs)) D bs 2 (GS L0 j0 (.inr (3, [.ref (bs + (k + 0)), .int 0, .int 0])) ([oRow ta (bs + (k + 1)) i] ++ List.replicate i oOrd)) 15 [(1, .int x), (0, .ref (bs + j0))] [] := by
    intro f
    induction f with
    | zero =>
      intro i x cells slots hi hx hc hs
      have hi60 : i = 60 := by omega
      subst hi60
      refine g_iload_n cx (q := 16) 0 rfl rfl dX4_init_15 rfl ?_
      refine g_bipush cx (q := 18) (v := 60) dX4_init_16 rfl rfl ?_
      refine g_icmp_ge cx (tgt := 40) (q := 21) dX4_init_18 (by decide) rfl (fun _ => ?_) (fun h => absurd (by rw [hx]; decide) h)
      exact g_vret cx hr rfl ⟨by omega, by omega⟩ dX4_init_40
    | succ f ih =>
      intro i x cells slots hi hx hc hs
      have hlt : i < 60 := by omega
      have hxi : x.toInt = i := by rw [hx, nI_toInt (by omega)]
      have hin60 : vp_in x 60 := by rw [vp_in_iff]; omega
      have hcl : x.toNatClampNeg = i := by rw [hx, nI_clamp (by omega)]
      refine g_iload_n cx (q := 16) 0 rfl rfl dX4_init_15 rfl ?_
      refine g_bipush cx (q := 18) (v := 60) dX4_init_16 rfl rfl ?_
      refine g_icmp_ge cx (tgt := 40) (q := 21) dX4_init_18 (by decide) rfl (fun h => absurd h (by simp only [i32le, t60]; omega)) (fun _ => ?_)
      refine g_aload_n cx (q := 22) 1 rfl rfl dX4_init_21 rfl ?_
      refine g_get cx (q := 25) (j := j0) (v := .ref (bs + (k + 0))) gf_X4_13 (GS_obj hj) rfl dX4_init_22 rfl ?_
      refine g_iload_n cx (q := 26) 0 rfl rfl dX4_init_25 rfl ?_
      refine g_new cx (q := 29) (C := RX3) (T := TX3) (N := 9) (ci := 2) (fs := fs3) inB_X3 tyX3 tyX3_ok (BG_at 217 (by decide +kernel) (by decide +kernel)) (BG_at 219 (by decide +kernel) (by decide +kernel)) (BG_at 43 (by decide +kernel) (by decide +kernel)) rfl fs3_ok ⟨by show cells + 1 ≤ 61; omega, by show slots + 9 ≤ 600; omega⟩ dX4_init_26 rfl ?_
      refine gs_nf hk (M' := [oRow ta (bs + (k + 1)) i] ++ List.replicate (i + 1) oOrd) (m9 := 1 + i) (by
        rw [List.append_assoc]
        exact congrArg _ List.replicate_succ'.symm) (by simp; omega) ?_
      refine g_dup cx (q := 30) dX4_init_29 rfl rfl ?_
      refine g_callN cx (q := 33) (a := bs + (k + (1 + i))) (As := []) (gc_X3 l D ta bs (j0 := k + (1 + i)) (k := k + (2 + i)) (GS_len hk (by simp; omega)) (GS_at hk (by
        rw [List.getElem?_append_right (by simp)]
        simp [List.getElem?_replicate]
        rfl))) ci_X4_17 ⟨by decide, by decide⟩ ⟨by show cells + 1 + 0 ≤ 61; omega, by show slots + 9 + 0 ≤ 600; omega⟩ (by simp [Value.category]) rfl dX4_init_30 rfl ?_
      refine g_eqL (GS_nest hk (M' := [oRow ta (bs + (k + 1)) i] ++ List.replicate (i + 1) oOrd) (by
        rw [List.append_nil, List.set_append_right _ _ (by simp)]
        simp only [List.length_cons, List.length_nil]
        congr 1
        refine List.ext_getElem? (fun w => ?_)
        rw [List.getElem?_set, List.getElem?_replicate]
        simp only [List.length_replicate]
        by_cases c9 : 1 + i - (0 + 1) = w
        · rw [if_pos c9, if_pos (by omega), if_pos (by omega)]; rfl
        · rw [if_neg c9])) ?_
      refine g_aast cx (q := 34) (j := k + 0) (N := 60) (t0 := 3) (ci := 2) (v := k + (1 + i)) (r := (RX3, TX3, 9)) (f := fun j => if j < i then some (bs + (k + 1) + j) else none) (vs := [.int 0, .int 0, .int 0, .int 0, .int 0, .int 0, .int 0, .int 0, .int 0]) (GS_at hk rfl) rfl (GS_at hk (by
        rw [List.getElem?_append_right (by simp)]
        simp [List.getElem?_replicate]
        rfl)) rfl hin60 dX4_init_33 rfl ?_
      refine g_eqL (GS_setM hk (M' := [oRow ta (bs + (k + 1)) (i + 1)] ++ List.replicate (i + 1) oOrd) (by
        rw [hcl, show bs + (k + (1 + i)) = bs + (k + 1) + i by omega, up_row]; rfl)) ?_
      refine g_iinc cx (q := 37) (v := nI (i + 1)) (lv' := [(1, .int (nI (i + 1))), (0, .ref (bs + j0))]) 0 rfl (by rw [hx]; exact nI_1 i) rfl (by decide) dX4_init_34 rfl ?_
      refine g_goto cx (tgt := 15) dX4_init_37 (by decide) ?_
      exact ih (i + 1) (nI (i + 1)) _ _ (by omega) rfl (by omega) (by omega)
  exact key 60 0 0 _ _ rfl rfl rfl rfl

theorem ci_X11_9 : CIN RX11 9 yX9_init cX9_init 1 0 := ⟨⟨"RationLisp", NG_at 70 (by decide +kernel) (by decide +kernel)⟩, BG_at 71 (by decide +kernel) (by decide +kernel), BG_at 37 (by decide +kernel) (by decide +kernel), BG_at 72 (by decide +kernel) (by decide +kernel), rfl, by decide, by decide, by decide +kernel⟩
theorem pff_X11_0 : PFf RX11 9 0 (.object "RationLisp$Tree") := ⟨RX11, TX11, 6, tyX11, rfl, tyX11_ok, nmX11, rfl, by decide +kernel, rfl⟩
theorem ci_X11_18 : CI RX11 18 yX8_init cX8_init 2 1 := ⟨⟨BG_at 96 (by decide +kernel) (by decide +kernel), BG_at 97 (by decide +kernel) (by decide +kernel), BG_at 38 (by decide +kernel) (by decide +kernel), BG_at 98 (by decide +kernel) (by decide +kernel)⟩, rfl, by decide, by decide, by decide +kernel⟩
theorem pff_X11_1 : PFf RX11 9 1 (.object "RationLisp$Texts") := ⟨RX11, TX11, 6, tyX11, rfl, tyX11_ok, nmX11, rfl, by decide +kernel, rfl⟩
theorem ci_X11_27 : CIN RX11 27 yX5_init cX5_init 1 0 := ⟨⟨"RationLisp", NG_at 147 (by decide +kernel) (by decide +kernel)⟩, BG_at 148 (by decide +kernel) (by decide +kernel), BG_at 40 (by decide +kernel) (by decide +kernel), BG_at 149 (by decide +kernel) (by decide +kernel), rfl, by decide, by decide, by decide +kernel⟩
theorem pff_X11_2 : PFf RX11 9 2 (.object "RationLisp$Purses") := ⟨RX11, TX11, 6, tyX11, rfl, tyX11_ok, nmX11, rfl, by decide +kernel, rfl⟩
theorem ci_X11_34 : CIN RX11 34 yX1_init cX1_init 1 0 := ⟨⟨"RationLisp", NG_at 174 (by decide +kernel) (by decide +kernel)⟩, BG_at 175 (by decide +kernel) (by decide +kernel), BG_at 41 (by decide +kernel) (by decide +kernel), BG_at 176 (by decide +kernel) (by decide +kernel), rfl, by decide, by decide, by decide +kernel⟩
theorem pff_X11_3 : PFf RX11 9 3 (.object "RationLisp$Book") := ⟨RX11, TX11, 6, tyX11, rfl, tyX11_ok, nmX11, rfl, by decide +kernel, rfl⟩
theorem ci_X11_41 : CI RX11 41 yX4_init cX4_init 2 0 := ⟨⟨BG_at 213 (by decide +kernel) (by decide +kernel), BG_at 214 (by decide +kernel) (by decide +kernel), BG_at 42 (by decide +kernel) (by decide +kernel), BG_at 215 (by decide +kernel) (by decide +kernel)⟩, rfl, by decide, by decide, by decide +kernel⟩
theorem pff_X11_4 : PFf RX11 9 4 (.object "RationLisp$Orders") := ⟨RX11, TX11, 6, tyX11, rfl, tyX11_ok, nmX11, rfl, by decide +kernel, rfl⟩
theorem ci_X11_48 : CI RX11 48 yX7_init cX7_init 6 5 := ⟨⟨BG_at 280 (by decide +kernel) (by decide +kernel), BG_at 281 (by decide +kernel) (by decide +kernel), BG_at 44 (by decide +kernel) (by decide +kernel), BG_at 282 (by decide +kernel) (by decide +kernel)⟩, rfl, by decide, by decide, by decide +kernel⟩
theorem pff_X11_5 : PFf RX11 9 5 (.object "RationLisp$Run") := ⟨RX11, TX11, 6, tyX11, rfl, tyX11_ok, nmX11, rfl, by decide +kernel, rfl⟩
set_option maxHeartbeats 4000000 in
set_option maxRecDepth 100000 in
theorem gc_X11 (l : Launch) (D : va_G) (ta : wTa) (bs : Nat) {L0 : List va_E} {j0 k : Nat} (hk : L0.length = k) (h0 : L0[j0]? = some (.inr (9, fs11))) : GC l D ta bs yX11_init cX11_init 1 3 109 22767 [.ref (bs + j0)] L0 (GS L0 j0 (.inr (9, [.ref (bs + (k + 0)), .ref (bs + (k + 7)), .ref (bs + (k + 14)), .ref (bs + (k + 28)), .ref (bs + (k + 41)), .ref (bs + (k + 103))])) [.inr (8, [.ref (bs + (k + 1)), .ref (bs + (k + 2)), .ref (bs + (k + 3)), .ref (bs + (k + 4)), .ref (bs + (k + 5)), .ref (bs + (k + 6))]), aI ta 968, aI ta 968, aI ta 968, aI ta 968, aI ta 968, aI ta 968, .inr (7, [.ref (bs + (k + 8)), .ref (bs + (k + 9)), .ref (bs + (k + 10)), .ref (bs + (k + 11)), .ref (bs + (k + 12))]), aI ta 960, aI ta 8, aI ta 8, aZ ta 8, .inr (5, [.ref (bs + (k + 0)), .ref (bs + (k + 13)), .int 0, .int 0, .int 0, .int 0, .int 0]), aI ta 21, .inr (4, [.ref (bs + (k + 15)), .ref (bs + (k + 16)), .ref (bs + (k + 17)), .ref (bs + (k + 18)), .ref (bs + (k + 23)), .int 10]), aI ta 4, aI ta 4, aZ ta 4, aR ta 2 4 (bs + (k + 19)), aI ta 4, aI ta 4, aI ta 4, aI ta 4, aR ta 2 4 (bs + (k + 24)), aI ta 4, aI ta 4, aI ta 4, aI ta 4, .inr (0, [.ref (bs + (k + 29)), .ref (bs + (k + 35)), .ref (bs + (k + 36)), .ref (bs + (k + 37)), .ref (bs + (k + 38)), .ref (bs + (k + 39)), .ref (bs + (k + 40)), .int 0]), aR ta 2 5 (bs + (k + 30)), aI ta 8, aI ta 8, aI ta 8, aI ta 8, aI ta 8, aI ta 8, aI ta 3000, aI ta 3000, aI ta 3000, aI ta 3000, aI ta 3000, .inr (3, [.ref (bs + (k + 42)), .int 0, .int 0]), aR ta 3 60 (bs + (k + 43)), oOrd, oOrd, oOrd, oOrd, oOrd, oOrd, oOrd, oOrd, oOrd, oOrd, oOrd, oOrd, oOrd, oOrd, oOrd, oOrd, oOrd, oOrd, oOrd, oOrd, oOrd, oOrd, oOrd, oOrd, oOrd, oOrd, oOrd, oOrd, oOrd, oOrd, oOrd, oOrd, oOrd, oOrd, oOrd, oOrd, oOrd, oOrd, oOrd, oOrd, oOrd, oOrd, oOrd, oOrd, oOrd, oOrd, oOrd, oOrd, oOrd, oOrd, oOrd, oOrd, oOrd, oOrd, oOrd, oOrd, oOrd, oOrd, oOrd, oOrd, .inr (6, [.ref (bs + (k + 0)), .ref (bs + (k + 7)), .ref (bs + (k + 14)), .ref (bs + (k + 28)), .ref (bs + (k + 41)), .ref (bs + (k + 104)), .int 0, .int 0, .int 0, .int 0, .int 0]), .inr (1, [.ref (bs + (k + 105)), .ref (bs + (k + 106)), .int 0, .int 0, .ref (bs + (k + 107)), .ref (bs + (k + 108)), .int 0]), aI ta 90, aI ta 90, aI ta 8, aI ta 8]) := by
  have hj : j0 < L0.length := (List.getElem?_eq_some_iff.mp h0).1
  refine GC.of (by decide) (Nat.le_of_ble_eq_true rfl) (fun p e s m args below meth c cx hr hn9 => ?_)
  have hin : meth.name = "<init>" := hn9.symm
  refine g_eqL (GS_0 h0) ?_
  refine g_aload_n cx (q := 1) 0 rfl rfl dX11_init_0 rfl ?_
  refine g_obj cx (q := 4) (BG_at 65 (by decide +kernel) (by decide +kernel)) w_obj2 w_obj3 ⟨by decide, by decide⟩ dX11_init_1 rfl ?_
  refine g_aload_n cx (q := 5) 0 rfl rfl dX11_init_4 rfl ?_
  refine g_new cx (q := 8) (C := RX9) (T := TX9) (N := 6) (ci := 8) (fs := fs9) inB_X9 tyX9 tyX9_ok (BG_at 68 (by decide +kernel) (by decide +kernel)) (BG_at 69 (by decide +kernel) (by decide +kernel)) (BG_at 37 (by decide +kernel) (by decide +kernel)) rfl fs9_ok ⟨Nat.le_of_ble_eq_true rfl, Nat.le_of_ble_eq_true rfl⟩ dX11_init_5 rfl ?_
  refine gs_nf hk (M' := [.inr (8, fs9)]) (m9 := 0) rfl rfl ?_
  refine g_dup cx (q := 9) dX11_init_8 rfl rfl ?_
  refine g_callN cx (q := 12) (a := bs + (k + 0)) (As := []) (gc_X9 l D ta bs (j0 := k + 0) (k := k + 1) (GS_len hk rfl) (GS_at hk rfl)) ci_X11_9 ⟨by decide, by decide⟩ ⟨Nat.le_of_ble_eq_true rfl, Nat.le_of_ble_eq_true rfl⟩ (by simp [Value.category]) rfl dX11_init_9 rfl ?_
  refine g_eqL (GS_nest hk (M' := [.inr (8, [.ref (bs + (k + 1)), .ref (bs + (k + 2)), .ref (bs + (k + 3)), .ref (bs + (k + 4)), .ref (bs + (k + 5)), .ref (bs + (k + 6))]), aI ta 968, aI ta 968, aI ta 968, aI ta 968, aI ta 968, aI ta 968]) rfl) ?_
  refine g_putF cx hin (q := 15) (j := j0) gf_X11_10 pff_X11_0 ⟨rfl, rfl⟩ (GS_obj hj) (Nat.le_of_ble_eq_true rfl) dX11_init_12 rfl ?_
  refine g_eqL (L' := GS L0 j0 (.inr (9, [.ref (bs + (k + 0)), .null, .null, .null, .null, .null])) [.inr (8, [.ref (bs + (k + 1)), .ref (bs + (k + 2)), .ref (bs + (k + 3)), .ref (bs + (k + 4)), .ref (bs + (k + 5)), .ref (bs + (k + 6))]), aI ta 968, aI ta 968, aI ta 968, aI ta 968, aI ta 968, aI ta 968]) (GS_set hj) ?_
  refine g_aload_n cx (q := 16) 0 rfl rfl dX11_init_15 rfl ?_
  refine g_new cx (q := 19) (C := RX8) (T := TX8) (N := 5) (ci := 7) (fs := fs8) inB_X8 tyX8 tyX8_ok (BG_at 94 (by decide +kernel) (by decide +kernel)) (BG_at 95 (by decide +kernel) (by decide +kernel)) (BG_at 38 (by decide +kernel) (by decide +kernel)) rfl fs8_ok ⟨Nat.le_of_ble_eq_true rfl, Nat.le_of_ble_eq_true rfl⟩ dX11_init_16 rfl ?_
  refine gs_nf hk (M' := [.inr (8, [.ref (bs + (k + 1)), .ref (bs + (k + 2)), .ref (bs + (k + 3)), .ref (bs + (k + 4)), .ref (bs + (k + 5)), .ref (bs + (k + 6))]), aI ta 968, aI ta 968, aI ta 968, aI ta 968, aI ta 968, aI ta 968, .inr (7, fs8)]) (m9 := 7) rfl rfl ?_
  refine g_dup cx (q := 20) dX11_init_19 rfl rfl ?_
  refine g_aload_n cx (q := 21) 0 rfl rfl dX11_init_20 rfl ?_
  refine g_get cx (q := 24) (j := j0) (v := .ref (bs + (k + 0))) gf_X11_10 (GS_obj hj) rfl dX11_init_21 rfl ?_
  refine g_call cx (q := 27) (a := bs + (k + 7)) (As := [.ref (bs + (k + 0))]) (gc_X8 l D ta bs (j0 := k + 7) (k := k + 8) (a1 := bs + (k + 0)) (GS_len hk rfl) (GS_at hk rfl)) ci_X11_18 ⟨by decide, by decide⟩ ⟨Nat.le_of_ble_eq_true rfl, Nat.le_of_ble_eq_true rfl⟩ (by simp [Value.category]) rfl dX11_init_24 rfl ?_
  refine g_eqL (GS_nest hk (M' := [.inr (8, [.ref (bs + (k + 1)), .ref (bs + (k + 2)), .ref (bs + (k + 3)), .ref (bs + (k + 4)), .ref (bs + (k + 5)), .ref (bs + (k + 6))]), aI ta 968, aI ta 968, aI ta 968, aI ta 968, aI ta 968, aI ta 968, .inr (7, [.ref (bs + (k + 8)), .ref (bs + (k + 9)), .ref (bs + (k + 10)), .ref (bs + (k + 11)), .ref (bs + (k + 12))]), aI ta 960, aI ta 8, aI ta 8, aZ ta 8, .inr (5, [.ref (bs + (k + 0)), .ref (bs + (k + 13)), .int 0, .int 0, .int 0, .int 0, .int 0]), aI ta 21]) rfl) ?_
  refine g_putF cx hin (q := 30) (j := j0) gf_X11_21 pff_X11_1 ⟨rfl, rfl⟩ (GS_obj hj) (Nat.le_of_ble_eq_true rfl) dX11_init_27 rfl ?_
  refine g_eqL (L' := GS L0 j0 (.inr (9, [.ref (bs + (k + 0)), .ref (bs + (k + 7)), .null, .null, .null, .null])) [.inr (8, [.ref (bs + (k + 1)), .ref (bs + (k + 2)), .ref (bs + (k + 3)), .ref (bs + (k + 4)), .ref (bs + (k + 5)), .ref (bs + (k + 6))]), aI ta 968, aI ta 968, aI ta 968, aI ta 968, aI ta 968, aI ta 968, .inr (7, [.ref (bs + (k + 8)), .ref (bs + (k + 9)), .ref (bs + (k + 10)), .ref (bs + (k + 11)), .ref (bs + (k + 12))]), aI ta 960, aI ta 8, aI ta 8, aZ ta 8, .inr (5, [.ref (bs + (k + 0)), .ref (bs + (k + 13)), .int 0, .int 0, .int 0, .int 0, .int 0]), aI ta 21]) (GS_set hj) ?_
  refine g_aload_n cx (q := 31) 0 rfl rfl dX11_init_30 rfl ?_
  refine g_new cx (q := 34) (C := RX5) (T := TX5) (N := 6) (ci := 4) (fs := fs5) inB_X5 tyX5 tyX5_ok (BG_at 145 (by decide +kernel) (by decide +kernel)) (BG_at 146 (by decide +kernel) (by decide +kernel)) (BG_at 40 (by decide +kernel) (by decide +kernel)) rfl fs5_ok ⟨Nat.le_of_ble_eq_true rfl, Nat.le_of_ble_eq_true rfl⟩ dX11_init_31 rfl ?_
  refine gs_nf hk (M' := [.inr (8, [.ref (bs + (k + 1)), .ref (bs + (k + 2)), .ref (bs + (k + 3)), .ref (bs + (k + 4)), .ref (bs + (k + 5)), .ref (bs + (k + 6))]), aI ta 968, aI ta 968, aI ta 968, aI ta 968, aI ta 968, aI ta 968, .inr (7, [.ref (bs + (k + 8)), .ref (bs + (k + 9)), .ref (bs + (k + 10)), .ref (bs + (k + 11)), .ref (bs + (k + 12))]), aI ta 960, aI ta 8, aI ta 8, aZ ta 8, .inr (5, [.ref (bs + (k + 0)), .ref (bs + (k + 13)), .int 0, .int 0, .int 0, .int 0, .int 0]), aI ta 21, .inr (4, fs5)]) (m9 := 14) rfl rfl ?_
  refine g_dup cx (q := 35) dX11_init_34 rfl rfl ?_
  refine g_callN cx (q := 38) (a := bs + (k + 14)) (As := []) (gc_X5 l D ta bs (j0 := k + 14) (k := k + 15) (GS_len hk rfl) (GS_at hk rfl)) ci_X11_27 ⟨by decide, by decide⟩ ⟨Nat.le_of_ble_eq_true rfl, Nat.le_of_ble_eq_true rfl⟩ (by simp [Value.category]) rfl dX11_init_35 rfl ?_
  refine g_eqL (GS_nest hk (M' := [.inr (8, [.ref (bs + (k + 1)), .ref (bs + (k + 2)), .ref (bs + (k + 3)), .ref (bs + (k + 4)), .ref (bs + (k + 5)), .ref (bs + (k + 6))]), aI ta 968, aI ta 968, aI ta 968, aI ta 968, aI ta 968, aI ta 968, .inr (7, [.ref (bs + (k + 8)), .ref (bs + (k + 9)), .ref (bs + (k + 10)), .ref (bs + (k + 11)), .ref (bs + (k + 12))]), aI ta 960, aI ta 8, aI ta 8, aZ ta 8, .inr (5, [.ref (bs + (k + 0)), .ref (bs + (k + 13)), .int 0, .int 0, .int 0, .int 0, .int 0]), aI ta 21, .inr (4, [.ref (bs + (k + 15)), .ref (bs + (k + 16)), .ref (bs + (k + 17)), .ref (bs + (k + 18)), .ref (bs + (k + 23)), .int 10]), aI ta 4, aI ta 4, aZ ta 4, aR ta 2 4 (bs + (k + 19)), aI ta 4, aI ta 4, aI ta 4, aI ta 4, aR ta 2 4 (bs + (k + 24)), aI ta 4, aI ta 4, aI ta 4, aI ta 4]) rfl) ?_
  refine g_putF cx hin (q := 41) (j := j0) gf_X11_28 pff_X11_2 ⟨rfl, rfl⟩ (GS_obj hj) (Nat.le_of_ble_eq_true rfl) dX11_init_38 rfl ?_
  refine g_eqL (L' := GS L0 j0 (.inr (9, [.ref (bs + (k + 0)), .ref (bs + (k + 7)), .ref (bs + (k + 14)), .null, .null, .null])) [.inr (8, [.ref (bs + (k + 1)), .ref (bs + (k + 2)), .ref (bs + (k + 3)), .ref (bs + (k + 4)), .ref (bs + (k + 5)), .ref (bs + (k + 6))]), aI ta 968, aI ta 968, aI ta 968, aI ta 968, aI ta 968, aI ta 968, .inr (7, [.ref (bs + (k + 8)), .ref (bs + (k + 9)), .ref (bs + (k + 10)), .ref (bs + (k + 11)), .ref (bs + (k + 12))]), aI ta 960, aI ta 8, aI ta 8, aZ ta 8, .inr (5, [.ref (bs + (k + 0)), .ref (bs + (k + 13)), .int 0, .int 0, .int 0, .int 0, .int 0]), aI ta 21, .inr (4, [.ref (bs + (k + 15)), .ref (bs + (k + 16)), .ref (bs + (k + 17)), .ref (bs + (k + 18)), .ref (bs + (k + 23)), .int 10]), aI ta 4, aI ta 4, aZ ta 4, aR ta 2 4 (bs + (k + 19)), aI ta 4, aI ta 4, aI ta 4, aI ta 4, aR ta 2 4 (bs + (k + 24)), aI ta 4, aI ta 4, aI ta 4, aI ta 4]) (GS_set hj) ?_
  refine g_aload_n cx (q := 42) 0 rfl rfl dX11_init_41 rfl ?_
  refine g_new cx (q := 45) (C := RX1) (T := TX1) (N := 8) (ci := 0) (fs := fs1) inB_X1 tyX1 tyX1_ok (BG_at 172 (by decide +kernel) (by decide +kernel)) (BG_at 173 (by decide +kernel) (by decide +kernel)) (BG_at 41 (by decide +kernel) (by decide +kernel)) rfl fs1_ok ⟨Nat.le_of_ble_eq_true rfl, Nat.le_of_ble_eq_true rfl⟩ dX11_init_42 rfl ?_
  refine gs_nf hk (M' := [.inr (8, [.ref (bs + (k + 1)), .ref (bs + (k + 2)), .ref (bs + (k + 3)), .ref (bs + (k + 4)), .ref (bs + (k + 5)), .ref (bs + (k + 6))]), aI ta 968, aI ta 968, aI ta 968, aI ta 968, aI ta 968, aI ta 968, .inr (7, [.ref (bs + (k + 8)), .ref (bs + (k + 9)), .ref (bs + (k + 10)), .ref (bs + (k + 11)), .ref (bs + (k + 12))]), aI ta 960, aI ta 8, aI ta 8, aZ ta 8, .inr (5, [.ref (bs + (k + 0)), .ref (bs + (k + 13)), .int 0, .int 0, .int 0, .int 0, .int 0]), aI ta 21, .inr (4, [.ref (bs + (k + 15)), .ref (bs + (k + 16)), .ref (bs + (k + 17)), .ref (bs + (k + 18)), .ref (bs + (k + 23)), .int 10]), aI ta 4, aI ta 4, aZ ta 4, aR ta 2 4 (bs + (k + 19)), aI ta 4, aI ta 4, aI ta 4, aI ta 4, aR ta 2 4 (bs + (k + 24)), aI ta 4, aI ta 4, aI ta 4, aI ta 4, .inr (0, fs1)]) (m9 := 28) rfl rfl ?_
  refine g_dup cx (q := 46) dX11_init_45 rfl rfl ?_
  refine g_callN cx (q := 49) (a := bs + (k + 28)) (As := []) (gc_X1 l D ta bs (j0 := k + 28) (k := k + 29) (GS_len hk rfl) (GS_at hk rfl)) ci_X11_34 ⟨by decide, by decide⟩ ⟨Nat.le_of_ble_eq_true rfl, Nat.le_of_ble_eq_true rfl⟩ (by simp [Value.category]) rfl dX11_init_46 rfl ?_
  refine g_eqL (GS_nest hk (M' := [.inr (8, [.ref (bs + (k + 1)), .ref (bs + (k + 2)), .ref (bs + (k + 3)), .ref (bs + (k + 4)), .ref (bs + (k + 5)), .ref (bs + (k + 6))]), aI ta 968, aI ta 968, aI ta 968, aI ta 968, aI ta 968, aI ta 968, .inr (7, [.ref (bs + (k + 8)), .ref (bs + (k + 9)), .ref (bs + (k + 10)), .ref (bs + (k + 11)), .ref (bs + (k + 12))]), aI ta 960, aI ta 8, aI ta 8, aZ ta 8, .inr (5, [.ref (bs + (k + 0)), .ref (bs + (k + 13)), .int 0, .int 0, .int 0, .int 0, .int 0]), aI ta 21, .inr (4, [.ref (bs + (k + 15)), .ref (bs + (k + 16)), .ref (bs + (k + 17)), .ref (bs + (k + 18)), .ref (bs + (k + 23)), .int 10]), aI ta 4, aI ta 4, aZ ta 4, aR ta 2 4 (bs + (k + 19)), aI ta 4, aI ta 4, aI ta 4, aI ta 4, aR ta 2 4 (bs + (k + 24)), aI ta 4, aI ta 4, aI ta 4, aI ta 4, .inr (0, [.ref (bs + (k + 29)), .ref (bs + (k + 35)), .ref (bs + (k + 36)), .ref (bs + (k + 37)), .ref (bs + (k + 38)), .ref (bs + (k + 39)), .ref (bs + (k + 40)), .int 0]), aR ta 2 5 (bs + (k + 30)), aI ta 8, aI ta 8, aI ta 8, aI ta 8, aI ta 8, aI ta 8, aI ta 3000, aI ta 3000, aI ta 3000, aI ta 3000, aI ta 3000]) rfl) ?_
  refine g_putF cx hin (q := 52) (j := j0) gf_X11_35 pff_X11_3 ⟨rfl, rfl⟩ (GS_obj hj) (Nat.le_of_ble_eq_true rfl) dX11_init_49 rfl ?_
  refine g_eqL (L' := GS L0 j0 (.inr (9, [.ref (bs + (k + 0)), .ref (bs + (k + 7)), .ref (bs + (k + 14)), .ref (bs + (k + 28)), .null, .null])) [.inr (8, [.ref (bs + (k + 1)), .ref (bs + (k + 2)), .ref (bs + (k + 3)), .ref (bs + (k + 4)), .ref (bs + (k + 5)), .ref (bs + (k + 6))]), aI ta 968, aI ta 968, aI ta 968, aI ta 968, aI ta 968, aI ta 968, .inr (7, [.ref (bs + (k + 8)), .ref (bs + (k + 9)), .ref (bs + (k + 10)), .ref (bs + (k + 11)), .ref (bs + (k + 12))]), aI ta 960, aI ta 8, aI ta 8, aZ ta 8, .inr (5, [.ref (bs + (k + 0)), .ref (bs + (k + 13)), .int 0, .int 0, .int 0, .int 0, .int 0]), aI ta 21, .inr (4, [.ref (bs + (k + 15)), .ref (bs + (k + 16)), .ref (bs + (k + 17)), .ref (bs + (k + 18)), .ref (bs + (k + 23)), .int 10]), aI ta 4, aI ta 4, aZ ta 4, aR ta 2 4 (bs + (k + 19)), aI ta 4, aI ta 4, aI ta 4, aI ta 4, aR ta 2 4 (bs + (k + 24)), aI ta 4, aI ta 4, aI ta 4, aI ta 4, .inr (0, [.ref (bs + (k + 29)), .ref (bs + (k + 35)), .ref (bs + (k + 36)), .ref (bs + (k + 37)), .ref (bs + (k + 38)), .ref (bs + (k + 39)), .ref (bs + (k + 40)), .int 0]), aR ta 2 5 (bs + (k + 30)), aI ta 8, aI ta 8, aI ta 8, aI ta 8, aI ta 8, aI ta 8, aI ta 3000, aI ta 3000, aI ta 3000, aI ta 3000, aI ta 3000]) (GS_set hj) ?_
  refine g_aload_n cx (q := 53) 0 rfl rfl dX11_init_52 rfl ?_
  refine g_new cx (q := 56) (C := RX4) (T := TX4) (N := 3) (ci := 3) (fs := fs4) inB_X4 tyX4 tyX4_ok (BG_at 211 (by decide +kernel) (by decide +kernel)) (BG_at 212 (by decide +kernel) (by decide +kernel)) (BG_at 42 (by decide +kernel) (by decide +kernel)) rfl fs4_ok ⟨Nat.le_of_ble_eq_true rfl, Nat.le_of_ble_eq_true rfl⟩ dX11_init_53 rfl ?_
  refine gs_nf hk (M' := [.inr (8, [.ref (bs + (k + 1)), .ref (bs + (k + 2)), .ref (bs + (k + 3)), .ref (bs + (k + 4)), .ref (bs + (k + 5)), .ref (bs + (k + 6))]), aI ta 968, aI ta 968, aI ta 968, aI ta 968, aI ta 968, aI ta 968, .inr (7, [.ref (bs + (k + 8)), .ref (bs + (k + 9)), .ref (bs + (k + 10)), .ref (bs + (k + 11)), .ref (bs + (k + 12))]), aI ta 960, aI ta 8, aI ta 8, aZ ta 8, .inr (5, [.ref (bs + (k + 0)), .ref (bs + (k + 13)), .int 0, .int 0, .int 0, .int 0, .int 0]), aI ta 21, .inr (4, [.ref (bs + (k + 15)), .ref (bs + (k + 16)), .ref (bs + (k + 17)), .ref (bs + (k + 18)), .ref (bs + (k + 23)), .int 10]), aI ta 4, aI ta 4, aZ ta 4, aR ta 2 4 (bs + (k + 19)), aI ta 4, aI ta 4, aI ta 4, aI ta 4, aR ta 2 4 (bs + (k + 24)), aI ta 4, aI ta 4, aI ta 4, aI ta 4, .inr (0, [.ref (bs + (k + 29)), .ref (bs + (k + 35)), .ref (bs + (k + 36)), .ref (bs + (k + 37)), .ref (bs + (k + 38)), .ref (bs + (k + 39)), .ref (bs + (k + 40)), .int 0]), aR ta 2 5 (bs + (k + 30)), aI ta 8, aI ta 8, aI ta 8, aI ta 8, aI ta 8, aI ta 8, aI ta 3000, aI ta 3000, aI ta 3000, aI ta 3000, aI ta 3000, .inr (3, fs4)]) (m9 := 41) rfl rfl ?_
  refine g_dup cx (q := 57) dX11_init_56 rfl rfl ?_
  refine g_call cx (q := 60) (a := bs + (k + 41)) (As := []) (gc_X4 l D ta bs (j0 := k + 41) (k := k + 42) (GS_len hk rfl) (GS_at hk rfl)) ci_X11_41 ⟨by decide, by decide⟩ ⟨Nat.le_of_ble_eq_true rfl, Nat.le_of_ble_eq_true rfl⟩ (by simp [Value.category]) rfl dX11_init_57 rfl ?_
  refine g_eqL (GS_nest hk (M' := [.inr (8, [.ref (bs + (k + 1)), .ref (bs + (k + 2)), .ref (bs + (k + 3)), .ref (bs + (k + 4)), .ref (bs + (k + 5)), .ref (bs + (k + 6))]), aI ta 968, aI ta 968, aI ta 968, aI ta 968, aI ta 968, aI ta 968, .inr (7, [.ref (bs + (k + 8)), .ref (bs + (k + 9)), .ref (bs + (k + 10)), .ref (bs + (k + 11)), .ref (bs + (k + 12))]), aI ta 960, aI ta 8, aI ta 8, aZ ta 8, .inr (5, [.ref (bs + (k + 0)), .ref (bs + (k + 13)), .int 0, .int 0, .int 0, .int 0, .int 0]), aI ta 21, .inr (4, [.ref (bs + (k + 15)), .ref (bs + (k + 16)), .ref (bs + (k + 17)), .ref (bs + (k + 18)), .ref (bs + (k + 23)), .int 10]), aI ta 4, aI ta 4, aZ ta 4, aR ta 2 4 (bs + (k + 19)), aI ta 4, aI ta 4, aI ta 4, aI ta 4, aR ta 2 4 (bs + (k + 24)), aI ta 4, aI ta 4, aI ta 4, aI ta 4, .inr (0, [.ref (bs + (k + 29)), .ref (bs + (k + 35)), .ref (bs + (k + 36)), .ref (bs + (k + 37)), .ref (bs + (k + 38)), .ref (bs + (k + 39)), .ref (bs + (k + 40)), .int 0]), aR ta 2 5 (bs + (k + 30)), aI ta 8, aI ta 8, aI ta 8, aI ta 8, aI ta 8, aI ta 8, aI ta 3000, aI ta 3000, aI ta 3000, aI ta 3000, aI ta 3000, .inr (3, [.ref (bs + (k + 42)), .int 0, .int 0]), aR ta 3 60 (bs + (k + 43)), oOrd, oOrd, oOrd, oOrd, oOrd, oOrd, oOrd, oOrd, oOrd, oOrd, oOrd, oOrd, oOrd, oOrd, oOrd, oOrd, oOrd, oOrd, oOrd, oOrd, oOrd, oOrd, oOrd, oOrd, oOrd, oOrd, oOrd, oOrd, oOrd, oOrd, oOrd, oOrd, oOrd, oOrd, oOrd, oOrd, oOrd, oOrd, oOrd, oOrd, oOrd, oOrd, oOrd, oOrd, oOrd, oOrd, oOrd, oOrd, oOrd, oOrd, oOrd, oOrd, oOrd, oOrd, oOrd, oOrd, oOrd, oOrd, oOrd, oOrd]) rfl) ?_
  refine g_putF cx hin (q := 63) (j := j0) gf_X11_42 pff_X11_4 ⟨rfl, rfl⟩ (GS_obj hj) (Nat.le_of_ble_eq_true rfl) dX11_init_60 rfl ?_
  refine g_eqL (L' := GS L0 j0 (.inr (9, [.ref (bs + (k + 0)), .ref (bs + (k + 7)), .ref (bs + (k + 14)), .ref (bs + (k + 28)), .ref (bs + (k + 41)), .null])) [.inr (8, [.ref (bs + (k + 1)), .ref (bs + (k + 2)), .ref (bs + (k + 3)), .ref (bs + (k + 4)), .ref (bs + (k + 5)), .ref (bs + (k + 6))]), aI ta 968, aI ta 968, aI ta 968, aI ta 968, aI ta 968, aI ta 968, .inr (7, [.ref (bs + (k + 8)), .ref (bs + (k + 9)), .ref (bs + (k + 10)), .ref (bs + (k + 11)), .ref (bs + (k + 12))]), aI ta 960, aI ta 8, aI ta 8, aZ ta 8, .inr (5, [.ref (bs + (k + 0)), .ref (bs + (k + 13)), .int 0, .int 0, .int 0, .int 0, .int 0]), aI ta 21, .inr (4, [.ref (bs + (k + 15)), .ref (bs + (k + 16)), .ref (bs + (k + 17)), .ref (bs + (k + 18)), .ref (bs + (k + 23)), .int 10]), aI ta 4, aI ta 4, aZ ta 4, aR ta 2 4 (bs + (k + 19)), aI ta 4, aI ta 4, aI ta 4, aI ta 4, aR ta 2 4 (bs + (k + 24)), aI ta 4, aI ta 4, aI ta 4, aI ta 4, .inr (0, [.ref (bs + (k + 29)), .ref (bs + (k + 35)), .ref (bs + (k + 36)), .ref (bs + (k + 37)), .ref (bs + (k + 38)), .ref (bs + (k + 39)), .ref (bs + (k + 40)), .int 0]), aR ta 2 5 (bs + (k + 30)), aI ta 8, aI ta 8, aI ta 8, aI ta 8, aI ta 8, aI ta 8, aI ta 3000, aI ta 3000, aI ta 3000, aI ta 3000, aI ta 3000, .inr (3, [.ref (bs + (k + 42)), .int 0, .int 0]), aR ta 3 60 (bs + (k + 43)), oOrd, oOrd, oOrd, oOrd, oOrd, oOrd, oOrd, oOrd, oOrd, oOrd, oOrd, oOrd, oOrd, oOrd, oOrd, oOrd, oOrd, oOrd, oOrd, oOrd, oOrd, oOrd, oOrd, oOrd, oOrd, oOrd, oOrd, oOrd, oOrd, oOrd, oOrd, oOrd, oOrd, oOrd, oOrd, oOrd, oOrd, oOrd, oOrd, oOrd, oOrd, oOrd, oOrd, oOrd, oOrd, oOrd, oOrd, oOrd, oOrd, oOrd, oOrd, oOrd, oOrd, oOrd, oOrd, oOrd, oOrd, oOrd, oOrd, oOrd]) (GS_set hj) ?_
  refine g_aload_n cx (q := 64) 0 rfl rfl dX11_init_63 rfl ?_
  refine g_new cx (q := 67) (C := RX7) (T := TX7) (N := 11) (ci := 6) (fs := fs7) inB_X7 tyX7 tyX7_ok (BG_at 278 (by decide +kernel) (by decide +kernel)) (BG_at 279 (by decide +kernel) (by decide +kernel)) (BG_at 44 (by decide +kernel) (by decide +kernel)) rfl fs7_ok ⟨Nat.le_of_ble_eq_true rfl, Nat.le_of_ble_eq_true rfl⟩ dX11_init_64 rfl ?_
  refine gs_nf hk (M' := [.inr (8, [.ref (bs + (k + 1)), .ref (bs + (k + 2)), .ref (bs + (k + 3)), .ref (bs + (k + 4)), .ref (bs + (k + 5)), .ref (bs + (k + 6))]), aI ta 968, aI ta 968, aI ta 968, aI ta 968, aI ta 968, aI ta 968, .inr (7, [.ref (bs + (k + 8)), .ref (bs + (k + 9)), .ref (bs + (k + 10)), .ref (bs + (k + 11)), .ref (bs + (k + 12))]), aI ta 960, aI ta 8, aI ta 8, aZ ta 8, .inr (5, [.ref (bs + (k + 0)), .ref (bs + (k + 13)), .int 0, .int 0, .int 0, .int 0, .int 0]), aI ta 21, .inr (4, [.ref (bs + (k + 15)), .ref (bs + (k + 16)), .ref (bs + (k + 17)), .ref (bs + (k + 18)), .ref (bs + (k + 23)), .int 10]), aI ta 4, aI ta 4, aZ ta 4, aR ta 2 4 (bs + (k + 19)), aI ta 4, aI ta 4, aI ta 4, aI ta 4, aR ta 2 4 (bs + (k + 24)), aI ta 4, aI ta 4, aI ta 4, aI ta 4, .inr (0, [.ref (bs + (k + 29)), .ref (bs + (k + 35)), .ref (bs + (k + 36)), .ref (bs + (k + 37)), .ref (bs + (k + 38)), .ref (bs + (k + 39)), .ref (bs + (k + 40)), .int 0]), aR ta 2 5 (bs + (k + 30)), aI ta 8, aI ta 8, aI ta 8, aI ta 8, aI ta 8, aI ta 8, aI ta 3000, aI ta 3000, aI ta 3000, aI ta 3000, aI ta 3000, .inr (3, [.ref (bs + (k + 42)), .int 0, .int 0]), aR ta 3 60 (bs + (k + 43)), oOrd, oOrd, oOrd, oOrd, oOrd, oOrd, oOrd, oOrd, oOrd, oOrd, oOrd, oOrd, oOrd, oOrd, oOrd, oOrd, oOrd, oOrd, oOrd, oOrd, oOrd, oOrd, oOrd, oOrd, oOrd, oOrd, oOrd, oOrd, oOrd, oOrd, oOrd, oOrd, oOrd, oOrd, oOrd, oOrd, oOrd, oOrd, oOrd, oOrd, oOrd, oOrd, oOrd, oOrd, oOrd, oOrd, oOrd, oOrd, oOrd, oOrd, oOrd, oOrd, oOrd, oOrd, oOrd, oOrd, oOrd, oOrd, oOrd, oOrd, .inr (6, fs7)]) (m9 := 103) rfl rfl ?_
  refine g_dup cx (q := 68) dX11_init_67 rfl rfl ?_
  refine g_aload_n cx (q := 69) 0 rfl rfl dX11_init_68 rfl ?_
  refine g_get cx (q := 72) (j := j0) (v := .ref (bs + (k + 0))) gf_X11_10 (GS_obj hj) rfl dX11_init_69 rfl ?_
  refine g_aload_n cx (q := 73) 0 rfl rfl dX11_init_72 rfl ?_
  refine g_get cx (q := 76) (j := j0) (v := .ref (bs + (k + 7))) gf_X11_21 (GS_obj hj) rfl dX11_init_73 rfl ?_
  refine g_aload_n cx (q := 77) 0 rfl rfl dX11_init_76 rfl ?_
  refine g_get cx (q := 80) (j := j0) (v := .ref (bs + (k + 14))) gf_X11_28 (GS_obj hj) rfl dX11_init_77 rfl ?_
  refine g_aload_n cx (q := 81) 0 rfl rfl dX11_init_80 rfl ?_
  refine g_get cx (q := 84) (j := j0) (v := .ref (bs + (k + 28))) gf_X11_35 (GS_obj hj) rfl dX11_init_81 rfl ?_
  refine g_aload_n cx (q := 85) 0 rfl rfl dX11_init_84 rfl ?_
  refine g_get cx (q := 88) (j := j0) (v := .ref (bs + (k + 41))) gf_X11_42 (GS_obj hj) rfl dX11_init_85 rfl ?_
  refine g_call cx (q := 91) (a := bs + (k + 103)) (As := [.ref (bs + (k + 0)), .ref (bs + (k + 7)), .ref (bs + (k + 14)), .ref (bs + (k + 28)), .ref (bs + (k + 41))]) (gc_X7 l D ta bs (j0 := k + 103) (k := k + 104) (a1 := bs + (k + 0)) (a2 := bs + (k + 7)) (a3 := bs + (k + 14)) (a4 := bs + (k + 28)) (a5 := bs + (k + 41)) (GS_len hk rfl) (GS_at hk rfl)) ci_X11_48 ⟨by decide, by decide⟩ ⟨Nat.le_of_ble_eq_true rfl, Nat.le_of_ble_eq_true rfl⟩ (by simp [Value.category]) rfl dX11_init_88 rfl ?_
  refine g_eqL (GS_nest hk (M' := [.inr (8, [.ref (bs + (k + 1)), .ref (bs + (k + 2)), .ref (bs + (k + 3)), .ref (bs + (k + 4)), .ref (bs + (k + 5)), .ref (bs + (k + 6))]), aI ta 968, aI ta 968, aI ta 968, aI ta 968, aI ta 968, aI ta 968, .inr (7, [.ref (bs + (k + 8)), .ref (bs + (k + 9)), .ref (bs + (k + 10)), .ref (bs + (k + 11)), .ref (bs + (k + 12))]), aI ta 960, aI ta 8, aI ta 8, aZ ta 8, .inr (5, [.ref (bs + (k + 0)), .ref (bs + (k + 13)), .int 0, .int 0, .int 0, .int 0, .int 0]), aI ta 21, .inr (4, [.ref (bs + (k + 15)), .ref (bs + (k + 16)), .ref (bs + (k + 17)), .ref (bs + (k + 18)), .ref (bs + (k + 23)), .int 10]), aI ta 4, aI ta 4, aZ ta 4, aR ta 2 4 (bs + (k + 19)), aI ta 4, aI ta 4, aI ta 4, aI ta 4, aR ta 2 4 (bs + (k + 24)), aI ta 4, aI ta 4, aI ta 4, aI ta 4, .inr (0, [.ref (bs + (k + 29)), .ref (bs + (k + 35)), .ref (bs + (k + 36)), .ref (bs + (k + 37)), .ref (bs + (k + 38)), .ref (bs + (k + 39)), .ref (bs + (k + 40)), .int 0]), aR ta 2 5 (bs + (k + 30)), aI ta 8, aI ta 8, aI ta 8, aI ta 8, aI ta 8, aI ta 8, aI ta 3000, aI ta 3000, aI ta 3000, aI ta 3000, aI ta 3000, .inr (3, [.ref (bs + (k + 42)), .int 0, .int 0]), aR ta 3 60 (bs + (k + 43)), oOrd, oOrd, oOrd, oOrd, oOrd, oOrd, oOrd, oOrd, oOrd, oOrd, oOrd, oOrd, oOrd, oOrd, oOrd, oOrd, oOrd, oOrd, oOrd, oOrd, oOrd, oOrd, oOrd, oOrd, oOrd, oOrd, oOrd, oOrd, oOrd, oOrd, oOrd, oOrd, oOrd, oOrd, oOrd, oOrd, oOrd, oOrd, oOrd, oOrd, oOrd, oOrd, oOrd, oOrd, oOrd, oOrd, oOrd, oOrd, oOrd, oOrd, oOrd, oOrd, oOrd, oOrd, oOrd, oOrd, oOrd, oOrd, oOrd, oOrd, .inr (6, [.ref (bs + (k + 0)), .ref (bs + (k + 7)), .ref (bs + (k + 14)), .ref (bs + (k + 28)), .ref (bs + (k + 41)), .ref (bs + (k + 104)), .int 0, .int 0, .int 0, .int 0, .int 0]), .inr (1, [.ref (bs + (k + 105)), .ref (bs + (k + 106)), .int 0, .int 0, .ref (bs + (k + 107)), .ref (bs + (k + 108)), .int 0]), aI ta 90, aI ta 90, aI ta 8, aI ta 8]) rfl) ?_
  refine g_putF cx hin (q := 94) (j := j0) gf_X11_51 pff_X11_5 ⟨rfl, rfl⟩ (GS_obj hj) (Nat.le_of_ble_eq_true rfl) dX11_init_91 rfl ?_
  refine g_eqL (L' := GS L0 j0 (.inr (9, [.ref (bs + (k + 0)), .ref (bs + (k + 7)), .ref (bs + (k + 14)), .ref (bs + (k + 28)), .ref (bs + (k + 41)), .ref (bs + (k + 103))])) [.inr (8, [.ref (bs + (k + 1)), .ref (bs + (k + 2)), .ref (bs + (k + 3)), .ref (bs + (k + 4)), .ref (bs + (k + 5)), .ref (bs + (k + 6))]), aI ta 968, aI ta 968, aI ta 968, aI ta 968, aI ta 968, aI ta 968, .inr (7, [.ref (bs + (k + 8)), .ref (bs + (k + 9)), .ref (bs + (k + 10)), .ref (bs + (k + 11)), .ref (bs + (k + 12))]), aI ta 960, aI ta 8, aI ta 8, aZ ta 8, .inr (5, [.ref (bs + (k + 0)), .ref (bs + (k + 13)), .int 0, .int 0, .int 0, .int 0, .int 0]), aI ta 21, .inr (4, [.ref (bs + (k + 15)), .ref (bs + (k + 16)), .ref (bs + (k + 17)), .ref (bs + (k + 18)), .ref (bs + (k + 23)), .int 10]), aI ta 4, aI ta 4, aZ ta 4, aR ta 2 4 (bs + (k + 19)), aI ta 4, aI ta 4, aI ta 4, aI ta 4, aR ta 2 4 (bs + (k + 24)), aI ta 4, aI ta 4, aI ta 4, aI ta 4, .inr (0, [.ref (bs + (k + 29)), .ref (bs + (k + 35)), .ref (bs + (k + 36)), .ref (bs + (k + 37)), .ref (bs + (k + 38)), .ref (bs + (k + 39)), .ref (bs + (k + 40)), .int 0]), aR ta 2 5 (bs + (k + 30)), aI ta 8, aI ta 8, aI ta 8, aI ta 8, aI ta 8, aI ta 8, aI ta 3000, aI ta 3000, aI ta 3000, aI ta 3000, aI ta 3000, .inr (3, [.ref (bs + (k + 42)), .int 0, .int 0]), aR ta 3 60 (bs + (k + 43)), oOrd, oOrd, oOrd, oOrd, oOrd, oOrd, oOrd, oOrd, oOrd, oOrd, oOrd, oOrd, oOrd, oOrd, oOrd, oOrd, oOrd, oOrd, oOrd, oOrd, oOrd, oOrd, oOrd, oOrd, oOrd, oOrd, oOrd, oOrd, oOrd, oOrd, oOrd, oOrd, oOrd, oOrd, oOrd, oOrd, oOrd, oOrd, oOrd, oOrd, oOrd, oOrd, oOrd, oOrd, oOrd, oOrd, oOrd, oOrd, oOrd, oOrd, oOrd, oOrd, oOrd, oOrd, oOrd, oOrd, oOrd, oOrd, oOrd, oOrd, .inr (6, [.ref (bs + (k + 0)), .ref (bs + (k + 7)), .ref (bs + (k + 14)), .ref (bs + (k + 28)), .ref (bs + (k + 41)), .ref (bs + (k + 104)), .int 0, .int 0, .int 0, .int 0, .int 0]), .inr (1, [.ref (bs + (k + 105)), .ref (bs + (k + 106)), .int 0, .int 0, .ref (bs + (k + 107)), .ref (bs + (k + 108)), .int 0]), aI ta 90, aI ta 90, aI ta 8, aI ta 8]) (GS_set hj) ?_
  exact g_vret cx hr rfl ⟨Nat.le_of_ble_eq_true rfl, Nat.le_of_ble_eq_true rfl⟩ dX11_init_94
end CTOR
