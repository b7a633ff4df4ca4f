/-! WHAT IS STATIC at the law's start, out of the Statement's words -/
def nmW : Nat → String := fun w => (["ADD", "SUB", "MUL", "MIN", "MAX", "DIV", "MOD", "LESS", "SAME", "NOT", "AND", "OR", "IF", "WHILE", "DO", "LET", "SET", "DEF", "TAKE", "PUT", "GIVE", "AT", "CALL", "BUY", "FUEL", "HOUR"] : List String).getD w ""
def tWd (w : Nat) : Term := .static "RationLisp$Word" (nmW w) "LRationLisp$Word;"
def tSt (i : Nat) : Term := .string "RationLisp$Word" (([138, 170, 181, 192, 197, 202, 207, 215, 229] : List Nat).getD i 0)
def tVl (i : Nat) : Term := .field (tSt i) "java/lang/String" "value" "[B"
def tAll : Term := .static "RationLisp$Word" "ALL" "[LRationLisp$Word;"
def tSw : Term := .static "RationLisp$1" "$SwitchMap$RationLisp$Word" "[I"
abbrev FL : List Cond := flatC (Jvm.Cond.and given_1 narrow_1)
theorem sw_ex : ∀ w, w < 26 → Cond.exactly (tWd w) "RationLisp$Word" ∈ FL := by decide +kernel
theorem sw_code : ∀ w, w < 26 → Cond.eq (.field (tWd w) "RationLisp$Word" "code" "I") (.int (wdCode (nI w))) ∈ FL := by decide +kernel
theorem sw_form : ∀ w, w < 26 → Cond.eq (.field (tWd w) "RationLisp$Word" "form" "Ljava/lang/String;") (tSt (wdForm (nI w)).toNatClampNeg) ∈ FL := by decide +kernel
theorem sw_on : ∀ w, w < 26 → Cond.eq (.field (tWd w) "RationLisp$Word" "goesOn" "Z") (.int (wdOn (nI w))) ∈ FL := by decide +kernel
theorem sw_ord : ∀ w, w < 26 → Cond.eq (.field (tWd w) "java/lang/Enum" "ordinal" "I") (.int (nI w)) ∈ FL := by decide +kernel
theorem sw_all : ∀ w, w < 26 → Cond.eq (.elem tAll (.int (Int32.ofNat w))) (tWd w) ∈ FL := by decide +kernel
theorem swt_ok : ∀ w, w < 26 → Cond.eq (.elem tSw (.int (Int32.ofNat w))) (.int (wdSw (nI w))) ∈ FL := by decide +kernel
theorem ss_ex : ∀ i, i < 9 → Cond.exactly (tSt i) "java/lang/String" ∈ FL := by decide +kernel
theorem ss_coder : ∀ i, i < 9 → Cond.eq (.field (tSt i) "java/lang/String" "coder" "B") (.int 0) ∈ FL := by decide +kernel
theorem ss_arr : ∀ i, i < 9 → Cond.arrayOf (tVl i) .byte ∈ FL := by decide +kernel
theorem ss_len : ∀ i, i < 9 → Cond.eq (.length (tVl i)) (.int (Int32.ofNat (stLen (nI i)))) ∈ FL := by decide +kernel
theorem ss_el : ∀ i, i < 9 → ∀ j, j < stLen (nI i) → Cond.eq (.elem (tVl i) (.int (Int32.ofNat j))) (.int (stByte (nI i) (nI j))) ∈ FL := by decide +kernel
theorem st_lay : ∀ w, w < 26 → Cond.laysStatic "RationLisp$Word" (nmW w) "LRationLisp$Word;" ∈ lw_tbl := by decide +kernel
theorem form_lt : ∀ w, w < 26 → (wdForm (nI w)).toNatClampNeg < 9 ∧ nI (wdForm (nI w)).toNatClampNeg = wdForm (nI w) := by decide +kernel
theorem len_lt : ∀ i, i < 9 → stLen (nI i) < 2 ^ 31 := by decide +kernel
theorem pickF {P : Nat → Nat → Prop} {n : Nat} (h : ∀ w, w < n → ∃ a, P w a) : ∃ f : Nat → Nat, ∀ w, w < n → P w (f w) :=
  ⟨fun w => if q : w < n then Classical.choose (h w q) else 0, fun w q => by
    show P w (if q : w < n then Classical.choose (h w q) else 0)
    rw [dif_pos q]; exact Classical.choose_spec (h w q)⟩
section STAT
variable {s : State} {args : Array Value}
theorem ref_of {t : Term} {C : String} (h : (Cond.exactly t C).before args s = true) : ∃ a : Nat, t.eval args s none [] s = some (.ref a) := by
  obtain ⟨a, c, cell, k, h1, _⟩ := Cond.exactly_spec h
  exact ⟨a, h1⟩
/-- a world's addresses, the static ones given -/
theorem wSt_W (hts : ∀ w ∈ lw_tbl, w.before args s = true) (hf : ∀ w ∈ FL, w.before args s = true) (hN : ∀ w ∈ NG, va_Nw w s) : ∃ a10 : Nat → Int32 → Nat, wSt (adW s.heap.size a10) s s.heap := by
  have hA : ∀ a : Nat, a < s.heap.size → ¬ gA s.heap.size a := fun a h => Nat.not_le.mpr h
  obtain ⟨aw, haw⟩ := pickF (fun w hw => ref_of (hf _ (sw_ex w hw)))
  obtain ⟨as9, has⟩ := pickF (fun i hi => ref_of (hf _ (ss_ex i hi)))
  obtain ⟨av, hav⟩ := pickF (P := fun i t => (tVl i).eval args s none [] s = some (.ref t) ∧ va_T .byte t (stLen (nI i)) (fun j => .int (stByte (nI i) (nI j))) (gA s.heap.size) s s.heap) (fun i (hi : i < 9) => va_Tof (len_lt i hi) (hf _ (ss_arr i hi)) (va_eqt (hf _ (ss_len i hi))) (fun j hj => va_eqt (hf _ (ss_el i hi j hj))) hA)
  obtain ⟨aa, haa, hTa⟩ := va_Tof (tm := tAll) (ty := .object "RationLisp$Word") (N := 26) (f := fun j => .ref (aw j)) (by decide) (hf _ (by decide +kernel)) (va_eqt (hf (Cond.eq (.length tAll) (.int 26)) (by decide +kernel))) (fun j hj => va_eqv (hf _ (sw_all j hj)) (haw j hj)) hA
  obtain ⟨at9, hat, hTs⟩ := va_Tof (tm := tSw) (ty := .int) (N := 26) (f := fun j => .int (wdSw (nI j))) (by decide) (hf _ (by decide +kernel)) (va_eqt (hf (Cond.eq (.length tSw) (.int 26)) (by decide +kernel))) (fun j hj => va_eqt (hf _ (swt_ok j hj))) hA
  refine ⟨fun g i => match g with | 0 => aw i.toNatClampNeg | 1 => as9 i.toNatClampNeg | 2 => aa | 3 => at9 | _ => av i.toNatClampNeg, ?_⟩
  generalize ha10 : (fun (g : Nat) (i : Int32) => match g with | 0 => aw i.toNatClampNeg | 1 => as9 i.toNatClampNeg | 2 => aa | 3 => at9 | _ => av i.toNatClampNeg : Nat → Int32 → Nat) = a10
  have e0 : ∀ i : Int32, adW s.heap.size a10 10 0 i = aw i.toNatClampNeg := fun i => by rw [← ha10]; rfl
  have e1 : ∀ i : Int32, adW s.heap.size a10 10 1 i = as9 i.toNatClampNeg := fun i => by rw [← ha10]; rfl
  have e2 : adW s.heap.size a10 10 2 0 = aa := by rw [← ha10]; rfl
  have e3 : adW s.heap.size a10 10 3 0 = at9 := by rw [← ha10]; rfl
  have e4 : ∀ i : Int32, adW s.heap.size a10 10 4 i = av i.toNatClampNeg := fun i => by rw [← ha10]; rfl
  have hn : ∀ q, wA (adW s.heap.size a10) q → gA s.heap.size q := fun q h => wA_W q h
  have idx : ∀ {i : Int32} {n : Nat}, vp_in i n → n ≤ 100 → i.toNatClampNeg < n ∧ nI i.toNatClampNeg = i := fun {i n} h hn => ⟨Nat.not_le.mp fun q => h (Or.inr q), nI_tn h⟩
  have iW := hts (.initialized "RationLisp$Word") (by decide +kernel)
  refine ⟨⟨?_, ?_, ?_, ?_, ?_, ?_⟩, fun w hw => ?_, fun i hi => ?_, ?_, ?_, fun w w2 hw hw2 e => ?_, hN⟩
  · rw [e2]; exact va_Z.narrow (va_Zref (hts _ (by decide +kernel)) iW haa hA) hn
  · rw [e3]; exact va_Z.narrow (va_Zref (hts _ (by decide +kernel)) (hts (.initialized "RationLisp$1") (by decide +kernel)) hat hA) hn
  · rw [e0]; exact va_Z.narrow (va_Zref (hts _ (st_lay 12 (by decide))) iW (haw 12 (by decide)) hA) hn
  · rw [e0]; exact va_Z.narrow (va_Zref (hts _ (st_lay 10 (by decide))) iW (haw 10 (by decide)) hA) hn
  · exact va_Z.narrow (va_Zof (hts _ (by decide +kernel)) (hts (.initialized "java/lang/String") (by decide +kernel)) (va_eqi (hf _ (by decide +kernel))) hA) hn
  · obtain ⟨v, hv, hr⟩ := Cond.isRef_spec (hf (Cond.isRef (.static "jdk/internal/util/Preconditions" "SIOOBE_FORMATTER" "Ljava/util/function/BiFunction;")) (by decide +kernel))
    have hz : va_Z "jdk/internal/util/Preconditions" "SIOOBE_FORMATTER" "Ljava/util/function/BiFunction;" v (gA s.heap.size) s s.heap := va_Zof (hts _ (by decide +kernel)) (hts (.initialized "jdk/internal/util/Preconditions") (by decide +kernel)) hv hA
    cases v with
    | null => exact ⟨none, va_Z.narrow hz hn⟩
    | ref a => exact ⟨some a, va_Z.narrow hz hn⟩
    | _ => exact absurd hr (by simp [Value.isRef])
  · obtain ⟨h1, h2⟩ := idx hw (by decide)
    rw [e0, e1]
    have f := form_lt _ h1
    rw [h2] at f
    have c1 := va_eqt (hf _ (sw_code _ h1))
    have c2 := va_eqv (hf _ (sw_form _ h1)) (has _ (by rw [h2]; exact f.1))
    have c3 := va_eqt (hf _ (sw_on _ h1))
    have c4 := va_eqt (hf _ (sw_ord _ h1))
    rw [h2] at c1 c2 c3 c4
    exact ⟨va_O.narrow (va_Oof (hf _ (sw_ex _ h1)) (haw _ h1) hA) hn, va_OF.narrow (vk_OFof (haw _ h1) c1 hA) hn, va_OF.narrow (vk_OFof (haw _ h1) c2 hA) hn, va_OF.narrow (vk_OFof (haw _ h1) c3 hA) hn, va_OF.narrow (vk_OFof (haw _ h1) c4 hA) hn⟩
  · obtain ⟨h1, h2⟩ := idx hi (by decide)
    rw [e1, e4]
    have T := (hav _ h1).2
    rw [h2] at T
    exact ⟨va_O.narrow (va_Oof (hf _ (ss_ex _ h1)) (has _ h1) hA) hn, va_OF.narrow (vk_OFof (has _ h1) (hav _ h1).1 hA) hn, va_OF.narrow (vk_OFof (has _ h1) (va_eqt (hf _ (ss_coder _ h1))) hA) hn, va_T.narrow T hn⟩
  · rw [e2]
    have : (fun j : Nat => Value.ref (adW s.heap.size a10 10 0 (nI j))) = fun j => Value.ref (aw (nI j).toNatClampNeg) := funext fun j => by rw [e0]
    rw [this]
    obtain ⟨cell, t1, t2, t3, t4, t5, t6, t7⟩ := va_T.narrow hTa hn
    exact ⟨cell, t1, t2, t3, t4, t5, fun j hj => by
      show cell.slots[j]? = some (Value.ref (aw (nI j).toNatClampNeg))
      rw [nI_clamp (by omega)]; exact t6 j hj, t7⟩
  · rw [e3]; exact va_T.narrow hTs hn
  · obtain ⟨h1, h2⟩ := idx hw (by decide)
    obtain ⟨h3, h4⟩ := idx hw2 (by decide)
    rw [e0, e0] at e
    have c1 := va_eqt (hf _ (sw_ord _ h1))
    have c2 := va_eqt (hf _ (sw_ord _ h3))
    rw [va_fe (haw _ h1)] at c1
    rw [va_fe (haw _ h3), ← e, c1] at c2
    rw [h2, h4] at c2
    cases c2
    rfl
theorem wZx_W {a10 : Nat → Int32 → Nat} (hts : ∀ w ∈ lw_tbl, w.before args s = true) (hf : ∀ w ∈ FL, w.before args s = true) : wZx (adW s.heap.size a10) s s.heap := by
  have hA : ∀ a : Nat, a < s.heap.size → ¬ wA (adW s.heap.size a10) a := fun a h z => Nat.not_le.mpr h (wA_W a z)
  refine ⟨vx_Zqof (hts _ (by decide +kernel)) (hts (.initialized "java/lang/Throwable") (by decide +kernel)) (hf _ (by decide +kernel)) hA, vx_Zqof (hts _ (by decide +kernel)) (hts (.initialized "java/lang/Throwable") (by decide +kernel)) (hf _ (by decide +kernel)) hA, fun w hw => ?_⟩
  have h1 := hts w (List.mem_filter.mp hw).1
  have h2 : isNx w = true := (List.mem_filter.mp hw).2
  cases w <;> first | exact va_Nw.of rfl h1 | exact absurd h2 (by simp [isNx])
theorem wCx_W (hf : ∀ w ∈ FL, w.before args s = true) : wCx s := by
  intro a b ha hb hn
  rcases ha with rfl | rfl | rfl <;> rcases hb with rfl | rfl | rfl <;> first | exact absurd rfl hn | exact va_Nc.of (hf _ (by decide +kernel))
theorem NG_W (hts : ∀ w ∈ lw_tbl, w.before args s = true) : ∀ w ∈ NG, va_Nw w s := by
  intro w hw
  have h1 := hts w (List.mem_filter.mp hw).1
  have h2 : isNst w = true := (List.mem_filter.mp hw).2
  cases w <;> first | exact va_Nw.of rfl h1 | exact absurd h2 (by simp [isNst])
/-- the classes and rows, as the tables have them -/
theorem prim_W {ty : FieldType} (h : (Cond.arrayClass ty).before args s = true) : ∃ cA, ArrOfT s cA ty ∧ s.vm.findClass ("[" ++ ty.toString) = some cA := by
  obtain ⟨c, k, comp, h1, h2, h3⟩ := Cond.arrayClass_spec h
  exact ⟨c, fun n z => ⟨fun k h => (by cases h), k, h2, comp, h3⟩, h1⟩
theorem K_W (hts : ∀ w ∈ lw_tbl, w.before args s = true) : ∃ (D : va_G) (ta : wTa), va_K D wcl (wtys ta) s := by
  have hb : ∀ w ∈ BG, w.before args s = true := fun w hw => hts w (List.mem_filter.mp hw).1
  obtain ⟨c0, i0, k0⟩ := u_known hb inB_X1 (hts (.instantiable RX1 8) (by decide +kernel))
  obtain ⟨c1, i1, k1⟩ := u_known hb inB_X2 (hts (.instantiable RX2 7) (by decide +kernel))
  obtain ⟨c2, i2, k2⟩ := u_known hb inB_X3 (hts (.instantiable RX3 9) (by decide +kernel))
  obtain ⟨c3, i3, k3⟩ := u_known hb inB_X4 (hts (.instantiable RX4 3) (by decide +kernel))
  obtain ⟨c4, i4, k4⟩ := u_known hb inB_X5 (hts (.instantiable RX5 6) (by decide +kernel))
  obtain ⟨c5, i5, k5⟩ := u_known hb inB_X6 (hts (.instantiable RX6 7) (by decide +kernel))
  obtain ⟨c6, i6, k6⟩ := u_known hb inB_X7 (hts (.instantiable RX7 11) (by decide +kernel))
  obtain ⟨c7, i7, k7⟩ := u_known hb inB_X8 (hts (.instantiable RX8 5) (by decide +kernel))
  obtain ⟨c8, i8, k8⟩ := u_known hb inB_X9 (hts (.instantiable RX9 6) (by decide +kernel))
  obtain ⟨c9, i9, k9⟩ := u_known hb inB_X11 (hts (.instantiable RX11 6) (by decide +kernel))
  obtain ⟨t0, a0, b0⟩ := prim_W (hts (.arrayClass .int) (by decide +kernel))
  obtain ⟨t1, a1, b1⟩ := prim_W (hts (.arrayClass .boolean) (by decide +kernel))
  obtain ⟨p2, t2, q2, h21, h22, h23, h24, h25⟩ := arrayOverA_spec (hts (.arrayOver (.array .int)) (by decide +kernel))
  obtain ⟨p3, t3, q3, h31, h32, h33, h34, h35⟩ := Cond.arrayOver_spec (hts (.arrayOver (.object "RationLisp$Order")) (by decide +kernel))
  refine ⟨(fun c => match c with | 0 => c0 | 1 => c1 | 2 => c2 | 3 => c3 | 4 => c4 | 5 => c5 | 6 => c6 | 7 => c7 | 8 => c8 | _ => c9, fun c => match c with | 0 => i0 | 1 => i1 | 2 => i2 | 3 => i3 | 4 => i4 | 5 => i5 | 6 => i6 | 7 => i7 | 8 => i8 | _ => i9), fun k => match k with | 0 => t0 | 1 => t1 | 2 => t2 | _ => t3, fun c q h => ?_, fun k q h => ?_⟩
  · match c, h with
    | 0, h => cases h; exact k0
    | 1, h => cases h; exact k1
    | 2, h => cases h; exact k2
    | 3, h => cases h; exact k3
    | 4, h => cases h; exact k4
    | 5, h => cases h; exact k5
    | 6, h => cases h; exact k6
    | 7, h => cases h; exact k7
    | 8, h => cases h; exact k8
    | 9, h => cases h; exact k9
    | c + 10, h => simp at h
  · match k, h with
    | 0, h => cases h; exact ⟨a0, b0⟩
    | 1, h => cases h; exact ⟨a1, b1⟩
    | 2, h => cases h; exact ⟨fun n z => ⟨fun k h => (by cases h), q2, h23, p2, h24⟩, h25⟩
    | 3, h => cases h; exact ⟨fun n z => ⟨fun k h => (by cases h), q3, h33, p3, h34⟩, q3, p3, h33, h34, h31, h35⟩
    | k + 4, h => simp at h
theorem gO_W (hts : ∀ w ∈ lw_tbl, w.before args s = true) : gO s := ⟨hts (.arrayOver (.array .int)) (by decide +kernel), va_AO.of (hts (.arrayOver (.object "RationLisp$Order")) (by decide +kernel))⟩
end STAT
