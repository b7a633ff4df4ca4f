theorem jn_I' {α β : Type} {Q : α → Prop} {P : β → Prop} {f : α → β} {g : (α → β) → β} (h : ∀ K : α → β, (∀ x, Q x → P (K x)) → P (g K)) (hf : ∀ x, Q x → P (f x)) : P (jn f g) := h f hf
theorem bndP {α β : Type} {P : β → Prop} {a : α} {f : α → β} (h : P (f a)) : P (bnd a f) := h
theorem inc_in {x : Int32} {n : Nat} (hn : n < 2147483647) (h0 : 0 ≤ x.toInt) (h1 : x.toInt < n) : 0 ≤ (x + 1).toInt ∧ (x + 1).toInt ≤ n := by
  rw [i32addn (by rw [t32_1]; omega) (by rw [t32_1]; omega), t32_1]; omega
/-- none, or within bounds -/
def oIn (n : Nat) (r : Int32) : Prop := r = -1 ∨ vp_in r n
theorem oIn.ix {n : Nat} {r : Int32} (h : oIn n r) (hn : ¬ r = -1) : vp_in r n := h.resolve_left hn
theorem lenderOf_o (m : Cm) (a : Int32) : oIn 4 (f12_lenderOf m a) := by
  have key : ∀ (k : Nat) (x : Int32), 0 ≤ x.toInt → oIn 4 (f12_lenderOf_lp2 m a k x) := by
    intro k
    induction k with
    | zero => intro x _; exact Or.inr (show vp_in 0 4 from vin_lit (by decide))
    | succ k ih =>
      intro x hx
      rw [f12_lenderOf_lp2_s]
      by_cases c : 4 ≤ x
      · rw [if_pos c]; exact Or.inl rfl
      · rw [if_neg c]
        simp only [i32le, t32_4] at c
        have hi := inc_in (n := 4) (by decide) hx (by omega)
        refine jn_I (P := oIn 4) (fun K hK => ?_) (fun v => ?_)
        · by_cases c3 : x = a
          · rw [if_pos c3]; exact hK _
          · rw [if_neg c3]
            by_cases c4 : m 6 0 x ≤ 0
            · rw [if_pos c4]; exact hK _
            · rw [if_neg c4]; exact hK _
        · by_cases c1 : v = true
          · rw [if_pos c1]
            by_cases c2 : (m 8 0 ((4 * x) + a)) ≤ (m 7 0 ((4 * a) + x))
            · rw [if_pos c2]; exact bnd_I (P := oIn 4) (fun y e => by rw [e]; exact ih _ hi.1)
            · rw [if_neg c2]; exact Or.inr (by rw [vp_in_iff]; omega)
          · rw [if_neg c1]; exact bnd_I (P := oIn 4) (fun y e => by rw [e]; exact ih _ hi.1)
  exact key 5 0 (by decide)
theorem lenderOf_in {m : Cm} {a : Int32} (h : ¬ f12_lenderOf m a = -1) : vp_in (f12_lenderOf m a) 4 := (lenderOf_o m a).ix h
theorem idx8n {x y : Int32} (hx : vp_in x 4) (h1 : 1 ≤ y.toInt) (h8 : y.toInt ≤ 8) : vp_in (((8 * x) + y) - 1) 40 := by
  rw [vp_in_iff] at hx ⊢
  have hm : (8 * x).toInt = 8 * x.toInt := by rw [i32muln (by rw [t32_8]; omega) (by rw [t32_8]; omega), t32_8]
  have ha : ((8 * x) + y).toInt = 8 * x.toInt + y.toInt := by rw [i32addn (by rw [hm]; omega) (by rw [hm]; omega), hm]
  rw [i32subn (by rw [ha, t32_1]; omega) (by rw [ha, t32_1]; omega), ha, t32_1]; omega
theorem len_in {f : Int32 → Int32} (h : rBd 8 0 120 f) {j : Int32} (hj : vp_in j 8) (hn : ¬ f j = 120) : vp_in (f j) 120 := by
  have := h j hj
  simp only [i32eq, t32_120] at hn
  rw [vp_in_iff]; omega
theorem opOf_o {m : Cm} (a : Int32) : oIn 26 (f12_opOf m a) := by
  have key : ∀ (k : Nat) (x : Int32 × Int32), 0 ≤ x.1.toInt → oIn 26 x.2 → oIn 26 (f12_opOf_lp4 m a k x) := by
    intro k
    induction k with
    | zero => intro x _ _; exact Or.inr (show vp_in 0 26 from vin_lit (by decide))
    | succ k ih =>
      intro x hx h2
      rw [f12_opOf_lp4_s]
      by_cases c : 26 ≤ x.1
      · rw [if_pos c]; exact h2
      · rw [if_neg c]
        have hk : x.1.toInt < 26 := by simp only [i32le, t32_26] at c; omega
        have hi := inc_in (n := 26) (by decide) hx hk
        have h1 : oIn 26 x.1 := Or.inr (by rw [vp_in_iff]; omega)
        refine jn_I' (Q := oIn 26) (P := oIn 26) (fun K hK => ?_) (fun v hv => bnd_I (P := oIn 26) (fun y e => ?_))
        · split
          · exact hK _ h1
          · exact hK _ h2
        · rw [e]; exact ih _ hi.1 hv
  exact key 27 (0, -1) (by decide) (Or.inl rfl)
theorem opOf_in {m : Cm} {a : Int32} (h : ¬ f12_opOf m a = -1) : vp_in (f12_opOf m a) 26 := (opOf_o a).ix h
theorem functionOf_o {m : Cm} (hk : Ok12 m) (a : Int32) : oIn 8 (f12_functionOf m a) := by
  have key : ∀ (k : Nat) (x : Int32 × Int32), 0 ≤ x.1.toInt → oIn 8 x.2 → oIn 8 (f12_functionOf_lp4 m a k x) := by
    intro k
    induction k with
    | zero => intro x _ _; exact Or.inr (show vp_in 0 8 from vin_lit (by decide))
    | succ k ih =>
      intro x hx h2
      rw [f12_functionOf_lp4_s]
      by_cases c : (m 0 0 50) ≤ x.1
      · rw [if_pos c]; exact h2
      · rw [if_neg c]
        have hk : x.1.toInt < 8 := by have := hk.f1; simp only [i32le] at c; omega
        have hi := inc_in (n := 8) (by decide) hx hk
        have h1 : oIn 8 x.1 := Or.inr (by rw [vp_in_iff]; omega)
        refine jn_I' (Q := oIn 8) (P := oIn 8) (fun K hK => ?_) (fun v hv => bnd_I (P := oIn 8) (fun y e => ?_))
        · split
          · exact hK _ h1
          · exact hK _ h2
        · rw [e]; exact ih _ hi.1 hv
  exact key 10 (0, -1) (by decide) (Or.inl rfl)
theorem functionOf_in {m : Cm} (hk : Ok12 m) {a : Int32} (h : ¬ f12_functionOf m a = -1) : vp_in (f12_functionOf m a) 8 := (functionOf_o hk a).ix h
theorem bindingOf_o {m : Cm} (hk : Ok12 m) (a : Int32) : oIn 100 (f12_bindingOf m a) := by
  have key : ∀ (k : Nat) (x : Int32 × Int32), 0 ≤ x.1.toInt → oIn 100 x.2 → oIn 100 (f12_bindingOf_lp7 m a k x) := by
    intro k
    induction k with
    | zero => intro x _ _; exact Or.inr (show vp_in 0 100 from vin_lit (by decide))
    | succ k ih =>
      intro x hx h2
      rw [f12_bindingOf_lp7_s]
      by_cases c : (m 0 0 49) ≤ x.1
      · rw [if_pos c]; exact h2
      · rw [if_neg c]
        have hk : x.1.toInt < 100 := by have := hk.t1; simp only [i32le] at c; omega
        have hi := inc_in (n := 100) (by decide) hx hk
        have h1 : oIn 100 x.1 := Or.inr (by rw [vp_in_iff]; omega)
        refine jn_I' (Q := oIn 100) (P := oIn 100) (fun K hK => ?_) (fun v hv => bnd_I (P := oIn 100) (fun y e => ?_))
        · split
          · exact hK _ h1
          · exact hK _ h2
        · rw [e]; exact ih _ hi.1 hv
  exact bnd_I (P := oIn 100) (fun y e => key 102 (y, -1) (by show 0 ≤ y.toInt; rw [e]; exact hk.b0) (Or.inl rfl))
theorem bindingOf_in {m : Cm} (hk : Ok12 m) {a : Int32} (h : ¬ f12_bindingOf m a = -1) : vp_in (f12_bindingOf m a) 100 := (bindingOf_o hk a).ix h
def f12_type (m : Cm) (p1 : Int32) (p2 : Int32) : (Int32 × Cm) := jn (fun (v1 : Bool) => bnd (f12_isScript p1) (fun (r11 : Bool) => jn (fun (v12 : Int32) => bnd (f12_goesWell m v12) (fun (r17 : Bool × Cm) => if r17.1 = true then bnd (u3 r17.2 2 0 ((120 * p1) + (r17.2 3 0 p1)) p2) (fun (m19 : Cm) => bnd (u3 m19 3 0 p1 ((r17.2 3 0 p1) + 1)) (fun (m20 : Cm) => ((m20 3 0 p1), m20))) else (0, r17.2))) (fun K13 => if r11 = true then if v1 = true then if (m 3 0 p1) = 120 then K13 2 else K13 0 else K13 1 else K13 1))) (fun K2 => if p2 = 32 then K2 true else if p2 = 40 then K2 true else if p2 = 41 then K2 true else if p2 = 45 then K2 true else bnd (f12_isDigit p2) (fun (r7 : Bool) => if r7 = true then K2 true else bnd (f12_isLetter p2) (fun (r9 : Bool) => if r9 = true then K2 true else K2 false)))
set_option maxHeartbeats 4000000 in
set_option maxRecDepth 100000 in
theorem mc_X12_type (l : Launch) (D : va_G) (ta : wTa) (ad : wAd) (M : Wm) (p1 : Int32) (p2 : Int32) (hok : Ok12 (M 12)) : MC l D ta ad yX12_type cX12_type 4 (some .int) 2 [.ref (ad 12 0 0), .int p1, .int p2] M (fic M 12 (f12_type (M 12) p1 p2)) := by
  refine MC.of (fic M 12) (f12_type (M 12) p1 p2) rfl (by decide) (Nat.le_of_ble_eq_true rfl) (fun p e s m args below meth c cx hr => ?_)
  unfold f12_type
  refine mw_sub (lv' := [(0, .ref (ad 12 0 0)), (1, .int p1), (2, .int p2)]) [0, 1, 2] rfl ?_
  refine mw_eqM (uW_self M 12) ?_
  refine mw_iload_n cx (q := 1) 2 rfl rfl dX12_type_0 rfl ?_
  refine mw_bipush cx (q := 3) (v := 32) dX12_type_1 rfl rfl ?_
  refine mw_jn (Mj := fun (v1 : Bool) => (uW M 12 (M 12))) (pj := 43) (lj := fun (v1 : Bool) => [(0, .ref (ad 12 0 0)), (1, .int p1), (2, .int p2)]) (sj := fun (v1 : Bool) => [.int (b2i v1)]) (fun v1 => ?_) (fun K2 hK2 => ?_)
  · refine mw_istore_n cx (q := 44) (lv' := [(3, .int (b2i v1)), (0, .ref (ad 12 0 0)), (1, .int p1), (2, .int p2)]) rfl rfl (by decide) dX12_type_43 rfl ?_
    refine mw_aload_n cx (q := 45) 1 rfl rfl dX12_type_44 rfl ?_
    refine mw_iload_n cx (q := 46) 2 rfl rfl dX12_type_45 rfl ?_
    refine mw_bnd (fun r11 er11 => ?_)
    refine mw_callS cx (q := 49) (d := 1) (As := [.int p1]) (z := fzp (uW M 12 (M 12)) r11) (st := [.ref (ad 12 0 0)]) (st1 := [.int (b2i r11), .ref (ad 12 0 0)]) (M' := (uW M 12 (M 12))) (by rw [er11]; exact mc_X12_isScript l D ta ad (uW M 12 (M 12)) p1) cv_X12_178 ⟨Nat.le_of_ble_eq_true rfl, Nat.le_of_ble_eq_true rfl⟩ ⟨Nat.le_refl _, Nat.le_refl _⟩ (by simp [Value.category]) rfl rfl rfl dX12_type_46 rfl ?_
    have qr110 : r11 = true → vp_in p1 8 := (fun hq => isScript_t (er11.symm.trans hq))
    refine mw_jnP (P := fun (v12 : Int32) => (v12 = 0 → vp_in p1 8 ∧ ¬ ((M 12) 3 0 p1) = 120)) (Mj := fun (v12 : Int32) => (uW M 12 (M 12))) (pj := 76) (lj := fun (v12 : Int32) => [(0, .ref (ad 12 0 0)), (1, .int p1), (2, .int p2)]) (sj := fun (v12 : Int32) => [.int v12, .ref (ad 12 0 0)]) (fun v12 jv12 => ?_) (fun K13 hK13 => ?_)
    · have jv12_0 := jv12
      refine mw_bnd (fun r17 er17 => ?_)
      refine mw_callV cx (q := 79) (d := 0) (As := [.int v12]) (z := fzc (uW M 12 (M 12)) 12 r17) (st := []) (st1 := [.int (b2i r17.1)]) (M' := uW M 12 r17.2) (by rw [er17]; exact mc_X12_goesWell l D ta ad (uW M 12 (M 12)) v12) cv_X12_181 rfl rfl rfl vi_12_0 ⟨Nat.le_of_ble_eq_true rfl, Nat.le_of_ble_eq_true rfl⟩ ⟨Nat.le_refl _, Nat.le_refl _⟩ (by simp [Value.category]) rfl rfl (by exact uW_uW _ _ _ _) dX12_type_76 rfl ?_
      have qr170 : r17.1 = true → v12 = 0 := (fun hq => goesWell_t ((congrArg Prod.fst er17).symm.trans hq))
      refine mw_ifb_ne cx (tgt := 84) (q := 82) dX12_type_79 (by decide) rfl (fun h18 => ?_) (fun h18 => ?_)
      · refine mw_aload_n cx (q := 85) 0 rfl rfl dX12_type_84 rfl ?_
        refine mw_get cx (q := 88) (v := .ref (ad 12 2 0)) gf_X12_7 rfl rfl vi_12_0 dX12_type_85 rfl ?_
        refine mw_bipush cx (q := 90) (v := 120) dX12_type_88 rfl rfl ?_
        refine mw_iload_n cx (q := 91) 1 rfl rfl dX12_type_90 rfl ?_
        refine mw_imul cx (q := 92) dX12_type_91 rfl ?_
        refine mw_aload_n cx (q := 93) 0 rfl rfl dX12_type_92 rfl ?_
        refine mw_get cx (q := 96) (v := .ref (ad 12 3 0)) gf_X12_13 rfl rfl vi_12_0 dX12_type_93 rfl ?_
        refine mw_iload_n cx (q := 97) 1 rfl rfl dX12_type_96 rfl ?_
        refine mw_iald cx (q := 98) (w := (r17.2 3 0 p1)) rfl (fun _ => rfl) vi_12_3 (jv12_0 (qr170 h18)).1 dX12_type_97 rfl ?_
        refine mw_iadd cx (q := 99) dX12_type_98 rfl ?_
        refine mw_iload_n cx (q := 100) 2 rfl rfl dX12_type_99 rfl ?_
        refine mw_iastC cx (q := 101) (fun _ => rfl) (by decide) vi_12_2 (idx120_960 (jv12_0 (qr170 h18)).1 (by rw [er17, goesWell_m]; exact len_in hok.1 (jv12_0 (qr170 h18)).1 (jv12_0 (qr170 h18)).2)) (by decide) dX12_type_100 rfl (fun m19 em19 => ?_)
        refine mw_aload_n cx (q := 102) 0 rfl rfl dX12_type_101 rfl ?_
        refine mw_get cx (q := 105) (v := .ref (ad 12 3 0)) gf_X12_13 rfl rfl vi_12_0 dX12_type_102 rfl ?_
        refine mw_iload_n cx (q := 106) 1 rfl rfl dX12_type_105 rfl ?_
        refine mw_dup2 cx (q := 107) dX12_type_106 rfl rfl rfl ?_
        refine mw_iald cx (q := 108) (w := (r17.2 3 0 p1)) (by rw [em19]; rfl) (fun _ => rfl) vi_12_3 (jv12_0 (qr170 h18)).1 dX12_type_107 rfl ?_
        refine mw_iconst cx (q := 109) (v := 1) dX12_type_108 rfl rfl ?_
        refine mw_iadd cx (q := 110) dX12_type_109 rfl ?_
        refine mw_iastC cx (q := 111) (fun _ => rfl) (by decide) vi_12_3 (jv12_0 (qr170 h18)).1 (by decide) dX12_type_110 rfl (fun m20 em20 => ?_)
        refine mw_aload_n cx (q := 112) 0 rfl rfl dX12_type_111 rfl ?_
        refine mw_get cx (q := 115) (v := .ref (ad 12 3 0)) gf_X12_13 rfl rfl vi_12_0 dX12_type_112 rfl ?_
        refine mw_iload_n cx (q := 116) 1 rfl rfl dX12_type_115 rfl ?_
        refine mw_iald cx (q := 117) (w := (m20 3 0 p1)) rfl (fun _ => rfl) vi_12_3 (jv12_0 (qr170 h18)).1 dX12_type_116 rfl ?_
        exact mw_iret cx hr rfl dX12_type_117
      · refine mw_iconst cx (q := 83) (v := 0) dX12_type_82 rfl rfl ?_
        exact mw_iret cx hr rfl dX12_type_83
    · refine mw_ifb_eq cx (tgt := 56) (q := 52) dX12_type_49 (by decide) rfl (fun h14 => ?_) (fun h14 => ?_)
      · refine mw_iconst cx (q := 57) (v := 1) dX12_type_56 rfl rfl ?_
        refine mw_goto cx (tgt := 76) dX12_type_57 (by decide) ?_
        refine mw_sub [1, 2, 3] rfl ?_
        exact hK13 1 (by intro hz; first | exact absurd hz (by decide) | exact ⟨(by (try simp only [vp_in_iff, i32lt, i32le, i32eq, i32add, i32sub, i32mul, i32neg, t32_8] at qr110 h14 ⊢); omega), (by (try simp only [vp_in_iff, i32lt, i32le, i32eq, i32add, i32sub, i32mul, i32neg, t32_0, t32_3, t32_8, t32_120] at qr110 h14 ⊢); omega)⟩)
      · refine mw_iload_n cx (q := 53) 0 rfl rfl dX12_type_52 rfl ?_
        refine mw_ifb_ne cx (tgt := 60) (q := 56) dX12_type_53 (by decide) rfl (fun h15 => ?_) (fun h15 => ?_)
        · refine mw_aload_n cx (q := 61) 1 rfl rfl dX12_type_60 rfl ?_
          refine mw_get cx (q := 64) (v := .ref (ad 12 3 0)) gf_X12_13 rfl rfl vi_12_0 dX12_type_61 rfl ?_
          refine mw_iload_n cx (q := 65) 2 rfl rfl dX12_type_64 rfl ?_
          refine mw_iald cx (q := 66) (w := ((M 12) 3 0 p1)) rfl (fun _ => rfl) vi_12_3 (qr110 h14) dX12_type_65 rfl ?_
          refine mw_bipush cx (q := 68) (v := 120) dX12_type_66 rfl rfl ?_
          refine mw_icmp_ne cx (tgt := 75) (q := 71) dX12_type_68 (by decide) rfl (fun h16 => ?_) (fun h16 => ?_)
          · refine mw_iconst cx (q := 76) (v := 0) dX12_type_75 rfl rfl ?_
            refine mw_sub [1, 2, 3] rfl ?_
            exact hK13 0 (by intro hz; first | exact absurd hz (by decide) | exact ⟨(qr110 h14), h16⟩)
          · refine mw_iconst cx (q := 72) (v := 2) dX12_type_71 rfl rfl ?_
            refine mw_goto cx (tgt := 76) dX12_type_72 (by decide) ?_
            refine mw_sub [1, 2, 3] rfl ?_
            exact hK13 2 (by intro hz; first | exact absurd hz (by decide) | exact ⟨(qr110 h14), (by (try simp only [vp_in_iff, i32lt, i32le, i32eq, i32add, i32sub, i32mul, i32neg, t32_0, t32_3, t32_8, t32_120] at qr110 h14 h15 h16 ⊢); omega)⟩)
        · refine mw_iconst cx (q := 57) (v := 1) dX12_type_56 rfl rfl ?_
          refine mw_goto cx (tgt := 76) dX12_type_57 (by decide) ?_
          refine mw_sub [1, 2, 3] rfl ?_
          exact hK13 1 (by intro hz; first | exact absurd hz (by decide) | exact ⟨(qr110 h14), (by (try simp only [vp_in_iff, i32lt, i32le, i32eq, i32add, i32sub, i32mul, i32neg, t32_0, t32_3, t32_8, t32_120] at qr110 h14 ⊢); omega)⟩)
  · refine mw_icmp_eq cx (tgt := 38) (q := 6) dX12_type_3 (by decide) rfl (fun h3 => ?_) (fun h3 => ?_)
    · refine mw_iconst cx (q := 39) (v := 1) dX12_type_38 rfl rfl ?_
      refine mw_goto cx (tgt := 43) dX12_type_39 (by decide) ?_
      exact hK2 true
    · refine mw_iload_n cx (q := 7) 2 rfl rfl dX12_type_6 rfl ?_
      refine mw_bipush cx (q := 9) (v := 40) dX12_type_7 rfl rfl ?_
      refine mw_icmp_eq cx (tgt := 38) (q := 12) dX12_type_9 (by decide) rfl (fun h4 => ?_) (fun h4 => ?_)
      · refine mw_iconst cx (q := 39) (v := 1) dX12_type_38 rfl rfl ?_
        refine mw_goto cx (tgt := 43) dX12_type_39 (by decide) ?_
        exact hK2 true
      · refine mw_iload_n cx (q := 13) 2 rfl rfl dX12_type_12 rfl ?_
        refine mw_bipush cx (q := 15) (v := 41) dX12_type_13 rfl rfl ?_
        refine mw_icmp_eq cx (tgt := 38) (q := 18) dX12_type_15 (by decide) rfl (fun h5 => ?_) (fun h5 => ?_)
        · refine mw_iconst cx (q := 39) (v := 1) dX12_type_38 rfl rfl ?_
          refine mw_goto cx (tgt := 43) dX12_type_39 (by decide) ?_
          exact hK2 true
        · refine mw_iload_n cx (q := 19) 2 rfl rfl dX12_type_18 rfl ?_
          refine mw_bipush cx (q := 21) (v := 45) dX12_type_19 rfl rfl ?_
          refine mw_icmp_eq cx (tgt := 38) (q := 24) dX12_type_21 (by decide) rfl (fun h6 => ?_) (fun h6 => ?_)
          · refine mw_iconst cx (q := 39) (v := 1) dX12_type_38 rfl rfl ?_
            refine mw_goto cx (tgt := 43) dX12_type_39 (by decide) ?_
            exact hK2 true
          · refine mw_iload_n cx (q := 25) 2 rfl rfl dX12_type_24 rfl ?_
            refine mw_bnd (fun r7 er7 => ?_)
            refine mw_callS cx (q := 28) (d := 1) (As := [.int p2]) (z := fzp (uW M 12 (M 12)) r7) (st := []) (st1 := [.int (b2i r7)]) (M' := (uW M 12 (M 12))) (by rw [er7]; exact mc_X12_isDigit l D ta ad (uW M 12 (M 12)) p2) cv_X12_171 ⟨Nat.le_of_ble_eq_true rfl, Nat.le_of_ble_eq_true rfl⟩ ⟨Nat.le_refl _, Nat.le_refl _⟩ (by simp [Value.category]) rfl rfl rfl dX12_type_25 rfl ?_
            have qr70 : r7 = true → 48 ≤ p2.toInt ∧ p2.toInt ≤ 57 := (fun hq => isDigit_t (er7.symm.trans hq))
            refine mw_ifb_ne cx (tgt := 38) (q := 31) dX12_type_28 (by decide) rfl (fun h8 => ?_) (fun h8 => ?_)
            · refine mw_iconst cx (q := 39) (v := 1) dX12_type_38 rfl rfl ?_
              refine mw_goto cx (tgt := 43) dX12_type_39 (by decide) ?_
              exact hK2 true
            · refine mw_iload_n cx (q := 32) 2 rfl rfl dX12_type_31 rfl ?_
              refine mw_bnd (fun r9 er9 => ?_)
              refine mw_callS cx (q := 35) (d := 1) (As := [.int p2]) (z := fzp (uW M 12 (M 12)) r9) (st := []) (st1 := [.int (b2i r9)]) (M' := (uW M 12 (M 12))) (by rw [er9]; exact mc_X12_isLetter l D ta ad (uW M 12 (M 12)) p2) cv_X12_175 ⟨Nat.le_of_ble_eq_true rfl, Nat.le_of_ble_eq_true rfl⟩ ⟨Nat.le_refl _, Nat.le_refl _⟩ (by simp [Value.category]) rfl rfl rfl dX12_type_32 rfl ?_
              have qr90 : r9 = true → 48 ≤ p2.toInt ∧ 97 ≤ p2.toInt ∧ p2.toInt ≤ 122 := (fun hq => isLetter_t (er9.symm.trans hq))
              refine mw_ifb_eq cx (tgt := 42) (q := 38) dX12_type_35 (by decide) rfl (fun h10 => ?_) (fun h10 => ?_)
              · refine mw_iconst cx (q := 43) (v := 0) dX12_type_42 rfl rfl ?_
                exact hK2 false
              · refine mw_iconst cx (q := 39) (v := 1) dX12_type_38 rfl rfl ?_
                refine mw_goto cx (tgt := 43) dX12_type_39 (by decide) ?_
                exact hK2 true
def f12_erase (m : Cm) (p1 : Int32) (p2 : Int32) : (Int32 × Cm) := bnd (f12_isScript p1) (fun (r1 : Bool) => jn (fun (v2 : Bool) => bnd (f12_goesWell m (b2i v2)) (fun (r6 : Bool × Cm) => if r6.1 = true then jn (fun (v8 : Int32) => bnd (u3 r6.2 3 0 p1 v8) (fun (m11 : Cm) => ((m11 3 0 p1), m11))) (fun K9 => if (r6.2 3 0 p1) ≤ p2 then K9 0 else K9 ((r6.2 3 0 p1) - p2)) else (0, r6.2))) (fun K3 => if r1 = true then if p2 < 1 then K3 true else K3 false else K3 true))
set_option maxHeartbeats 4000000 in
set_option maxRecDepth 100000 in
theorem mc_X12_erase (l : Launch) (D : va_G) (ta : wTa) (ad : wAd) (M : Wm) (p1 : Int32) (p2 : Int32) (hok : Ok12 (M 12)) : MC l D ta ad yX12_erase cX12_erase 3 (some .int) 2 [.ref (ad 12 0 0), .int p1, .int p2] M (fic M 12 (f12_erase (M 12) p1 p2)) := by
  refine MC.of (fic M 12) (f12_erase (M 12) p1 p2) rfl (by decide) (Nat.le_of_ble_eq_true rfl) (fun p e s m args below meth c cx hr => ?_)
  unfold f12_erase
  refine mw_sub (lv' := [(0, .ref (ad 12 0 0)), (1, .int p1), (2, .int p2)]) [0, 1, 2] rfl ?_
  refine mw_eqM (uW_self M 12) ?_
  refine mw_aload_n cx (q := 1) 0 rfl rfl dX12_erase_0 rfl ?_
  refine mw_iload_n cx (q := 2) 1 rfl rfl dX12_erase_1 rfl ?_
  refine mw_bnd (fun r1 er1 => ?_)
  refine mw_callS cx (q := 5) (d := 1) (As := [.int p1]) (z := fzp (uW M 12 (M 12)) r1) (st := [.ref (ad 12 0 0)]) (st1 := [.int (b2i r1), .ref (ad 12 0 0)]) (M' := (uW M 12 (M 12))) (by rw [er1]; exact mc_X12_isScript l D ta ad (uW M 12 (M 12)) p1) cv_X12_178 ⟨Nat.le_of_ble_eq_true rfl, Nat.le_of_ble_eq_true rfl⟩ ⟨Nat.le_refl _, Nat.le_refl _⟩ (by simp [Value.category]) rfl rfl rfl dX12_erase_2 rfl ?_
  have qr10 : r1 = true → vp_in p1 8 := (fun hq => isScript_t (er1.symm.trans hq))
  refine mw_jnP (P := fun (v2 : Bool) => ((b2i v2) = 0 → vp_in p1 8)) (Mj := fun (v2 : Bool) => (uW M 12 (M 12))) (pj := 18) (lj := fun (v2 : Bool) => [(0, .ref (ad 12 0 0)), (1, .int p1), (2, .int p2)]) (sj := fun (v2 : Bool) => [.int (b2i v2), .ref (ad 12 0 0)]) (fun v2 jv2 => ?_) (fun K3 hK3 => ?_)
  · have jv2_0 := jv2
    refine mw_bnd (fun r6 er6 => ?_)
    refine mw_callV cx (q := 21) (d := 0) (As := [.int (b2i v2)]) (z := fzc (uW M 12 (M 12)) 12 r6) (st := []) (st1 := [.int (b2i r6.1)]) (M' := uW M 12 r6.2) (by rw [er6]; exact mc_X12_goesWell l D ta ad (uW M 12 (M 12)) (b2i v2)) cv_X12_181 rfl rfl rfl vi_12_0 ⟨Nat.le_of_ble_eq_true rfl, Nat.le_of_ble_eq_true rfl⟩ ⟨Nat.le_refl _, Nat.le_refl _⟩ (by simp [Value.category]) rfl rfl (by exact uW_uW _ _ _ _) dX12_erase_18 rfl ?_
    have qr60 : r6.1 = true → (b2i v2) = 0 := (fun hq => goesWell_t ((congrArg Prod.fst er6).symm.trans hq))
    refine mw_ifb_ne cx (tgt := 26) (q := 24) dX12_erase_21 (by decide) rfl (fun h7 => ?_) (fun h7 => ?_)
    · refine mw_aload_n cx (q := 27) 0 rfl rfl dX12_erase_26 rfl ?_
      refine mw_get cx (q := 30) (v := .ref (ad 12 3 0)) gf_X12_13 rfl rfl vi_12_0 dX12_erase_27 rfl ?_
      refine mw_iload_n cx (q := 31) 1 rfl rfl dX12_erase_30 rfl ?_
      refine mw_iload_n cx (q := 32) 2 rfl rfl dX12_erase_31 rfl ?_
      refine mw_aload_n cx (q := 33) 0 rfl rfl dX12_erase_32 rfl ?_
      refine mw_get cx (q := 36) (v := .ref (ad 12 3 0)) gf_X12_13 rfl rfl vi_12_0 dX12_erase_33 rfl ?_
      refine mw_iload_n cx (q := 37) 1 rfl rfl dX12_erase_36 rfl ?_
      refine mw_iald cx (q := 38) (w := (r6.2 3 0 p1)) rfl (fun _ => rfl) vi_12_3 (jv2_0 (qr60 h7)) dX12_erase_37 rfl ?_
      refine mw_jn (Mj := fun (v8 : Int32) => (uW M 12 r6.2)) (pj := 53) (lj := fun (v8 : Int32) => [(0, .ref (ad 12 0 0)), (1, .int p1)]) (sj := fun (v8 : Int32) => [.int v8, .int p1, .ref (ad 12 3 0)]) (fun v8 => ?_) (fun K9 hK9 => ?_)
      · refine mw_iastC cx (q := 54) (fun _ => rfl) (by decide) vi_12_3 (jv2_0 (qr60 h7)) (by decide) dX12_erase_53 rfl (fun m11 em11 => ?_)
        refine mw_aload_n cx (q := 55) 0 rfl rfl dX12_erase_54 rfl ?_
        refine mw_get cx (q := 58) (v := .ref (ad 12 3 0)) gf_X12_13 rfl rfl vi_12_0 dX12_erase_55 rfl ?_
        refine mw_iload_n cx (q := 59) 1 rfl rfl dX12_erase_58 rfl ?_
        refine mw_iald cx (q := 60) (w := (m11 3 0 p1)) rfl (fun _ => rfl) vi_12_3 (jv2_0 (qr60 h7)) dX12_erase_59 rfl ?_
        exact mw_iret cx hr rfl dX12_erase_60
      · refine mw_icmp_ge cx (tgt := 52) (q := 41) dX12_erase_38 (by decide) rfl (fun h10 => ?_) (fun h10 => ?_)
        · refine mw_iconst cx (q := 53) (v := 0) dX12_erase_52 rfl rfl ?_
          refine mw_sub [0, 1] rfl ?_
          exact hK9 0
        · refine mw_aload_n cx (q := 42) 0 rfl rfl dX12_erase_41 rfl ?_
          refine mw_get cx (q := 45) (v := .ref (ad 12 3 0)) gf_X12_13 rfl rfl vi_12_0 dX12_erase_42 rfl ?_
          refine mw_iload_n cx (q := 46) 1 rfl rfl dX12_erase_45 rfl ?_
          refine mw_iald cx (q := 47) (w := (r6.2 3 0 p1)) rfl (fun _ => rfl) vi_12_3 (jv2_0 (qr60 h7)) dX12_erase_46 rfl ?_
          refine mw_iload_n cx (q := 48) 2 rfl rfl dX12_erase_47 rfl ?_
          refine mw_isub cx (q := 49) dX12_erase_48 rfl ?_
          refine mw_goto cx (tgt := 53) dX12_erase_49 (by decide) ?_
          refine mw_sub [0, 1] rfl ?_
          exact hK9 ((r6.2 3 0 p1) - p2)
    · refine mw_iconst cx (q := 25) (v := 0) dX12_erase_24 rfl rfl ?_
      exact mw_iret cx hr rfl dX12_erase_25
  · refine mw_ifb_eq cx (tgt := 17) (q := 8) dX12_erase_5 (by decide) rfl (fun h4 => ?_) (fun h4 => ?_)
    · refine mw_iconst cx (q := 18) (v := 1) dX12_erase_17 rfl rfl ?_
      exact hK3 true (by intro hz; first | exact absurd hz (by decide) | exact (by (try simp only [vp_in_iff, i32lt, i32le, i32eq, i32add, i32sub, i32mul, i32neg, t32_8] at qr10 h4 ⊢); omega))
    · refine mw_iload_n cx (q := 9) 2 rfl rfl dX12_erase_8 rfl ?_
      refine mw_iconst cx (q := 10) (v := 1) dX12_erase_9 rfl rfl ?_
      refine mw_icmp_lt cx (tgt := 17) (q := 13) dX12_erase_10 (by decide) rfl (fun h5 => ?_) (fun h5 => ?_)
      · refine mw_iconst cx (q := 18) (v := 1) dX12_erase_17 rfl rfl ?_
        exact hK3 true (by intro hz; first | exact absurd hz (by decide) | exact (qr10 h4))
      · refine mw_iconst cx (q := 14) (v := 0) dX12_erase_13 rfl rfl ?_
        refine mw_goto cx (tgt := 18) dX12_erase_14 (by decide) ?_
        exact hK3 false (by intro hz; first | exact absurd hz (by decide) | exact (qr10 h4))
def f12_sign (m : Cm) (p1 : Int32) (p2 : Int32) : (Int32 × Cm) := bnd (f12_isScript p1) (fun (r1 : Bool) => jn (fun (v2 : Int32) => bnd (f12_goesWell m v2) (fun (r7 : Bool × Cm) => if r7.1 = true then bnd (f12_signAt r7.2 p1 p2) (fun (r10 : Int32) => (r10, r7.2)) else (0, r7.2))) (fun K3 => if r1 = true then bnd (f12_in p2 0 ((m 3 0 p1) - 1)) (fun (r5 : Bool) => if r5 = true then K3 0 else K3 2) else K3 1))
set_option maxHeartbeats 4000000 in
set_option maxRecDepth 100000 in
theorem mc_X12_sign (l : Launch) (D : va_G) (ta : wTa) (ad : wAd) (M : Wm) (p1 : Int32) (p2 : Int32) (hok : Ok12 (M 12)) : MC l D ta ad yX12_sign cX12_sign 4 (some .int) 2 [.ref (ad 12 0 0), .int p1, .int p2] M (fic M 12 (f12_sign (M 12) p1 p2)) := by
  refine MC.of (fic M 12) (f12_sign (M 12) p1 p2) rfl (by decide) (Nat.le_of_ble_eq_true rfl) (fun p e s m args below meth c cx hr => ?_)
  unfold f12_sign
  refine mw_sub (lv' := [(0, .ref (ad 12 0 0)), (1, .int p1), (2, .int p2)]) [0, 1, 2] rfl ?_
  refine mw_eqM (uW_self M 12) ?_
  have ok0 : OkT (M 12) (M 12) := ⟨hok, rfl, rfl⟩
  refine mw_iload_n cx (q := 1) 1 rfl rfl dX12_sign_0 rfl ?_
  refine mw_bnd (fun r1 er1 => ?_)
  refine mw_callS cx (q := 4) (d := 1) (As := [.int p1]) (z := fzp (uW M 12 (M 12)) r1) (st := []) (st1 := [.int (b2i r1)]) (M' := (uW M 12 (M 12))) (by rw [er1]; exact mc_X12_isScript l D ta ad (uW M 12 (M 12)) p1) cv_X12_178 ⟨Nat.le_of_ble_eq_true rfl, Nat.le_of_ble_eq_true rfl⟩ ⟨Nat.le_refl _, Nat.le_refl _⟩ (by simp [Value.category]) rfl rfl rfl dX12_sign_1 rfl ?_
  have qr10 : r1 = true → vp_in p1 8 := (fun hq => isScript_t (er1.symm.trans hq))
  refine mw_istore_n cx (q := 5) (lv' := [(3, .int (b2i r1)), (0, .ref (ad 12 0 0)), (1, .int p1), (2, .int p2)]) rfl rfl (by decide) dX12_sign_4 rfl ?_
  refine mw_aload_n cx (q := 6) 1 rfl rfl dX12_sign_5 rfl ?_
  refine mw_iload_n cx (q := 7) 0 rfl rfl dX12_sign_6 rfl ?_
  refine mw_jnP (P := fun (v2 : Int32) => (v2 = 0 → vp_in p1 8 ∧ 0 ≤ p2.toInt)) (Mj := fun (v2 : Int32) => (uW M 12 (M 12))) (pj := 35) (lj := fun (v2 : Int32) => [(0, .ref (ad 12 0 0)), (1, .int p1), (2, .int p2)]) (sj := fun (v2 : Int32) => [.int v2, .ref (ad 12 0 0)]) (fun v2 jv2 => ?_) (fun K3 hK3 => ?_)
  · have jv2_0 := jv2
    refine mw_bnd (fun r7 er7 => ?_)
    refine mw_callV cx (q := 38) (d := 0) (As := [.int v2]) (z := fzc (uW M 12 (M 12)) 12 r7) (st := []) (st1 := [.int (b2i r7.1)]) (M' := uW M 12 r7.2) (by rw [er7]; exact mc_X12_goesWell l D ta ad (uW M 12 (M 12)) v2) cv_X12_181 rfl rfl rfl vi_12_0 ⟨Nat.le_of_ble_eq_true rfl, Nat.le_of_ble_eq_true rfl⟩ ⟨Nat.le_refl _, Nat.le_refl _⟩ (by simp [Value.category]) rfl rfl (by exact uW_uW _ _ _ _) dX12_sign_35 rfl ?_
    have ok8 : OkT (M 12) r7.2 := (by rw [er7]; exact okT_f12_goesWell ok0 v2)
    have qr70 : r7.1 = true → v2 = 0 := (fun hq => goesWell_t ((congrArg Prod.fst er7).symm.trans hq))
    refine mw_ifb_eq cx (tgt := 50) (q := 41) dX12_sign_38 (by decide) rfl (fun h9 => ?_) (fun h9 => ?_)
    · refine mw_iconst cx (q := 51) (v := 0) dX12_sign_50 rfl rfl ?_
      exact mw_iret cx hr rfl dX12_sign_51
    · refine mw_aload_n cx (q := 42) 0 rfl rfl dX12_sign_41 rfl ?_
      refine mw_iload_n cx (q := 43) 1 rfl rfl dX12_sign_42 rfl ?_
      refine mw_iload_n cx (q := 44) 2 rfl rfl dX12_sign_43 rfl ?_
      refine mw_bnd (fun r10 er10 => ?_)
      refine mw_callV cx (q := 47) (d := 0) (As := [.int p1, .int p2]) (z := fip (uW M 12 r7.2) r10) (st := []) (st1 := [.int r10]) (M' := (uW M 12 r7.2)) (by rw [er10]; exact mc_X12_signAt l D ta ad (uW M 12 r7.2) p1 p2 (jv2_0 (qr70 h9)).1 (ok8.1) (jv2_0 (qr70 h9)).2) cv_X12_184 rfl rfl rfl vi_12_0 ⟨Nat.le_of_ble_eq_true rfl, Nat.le_of_ble_eq_true rfl⟩ ⟨Nat.le_refl _, Nat.le_refl _⟩ (by simp [Value.category]) rfl rfl rfl dX12_sign_44 rfl ?_
      refine mw_goto cx (tgt := 51) dX12_sign_47 (by decide) ?_
      exact mw_iret cx hr rfl dX12_sign_51
  · refine mw_ifb_ne cx (tgt := 14) (q := 10) dX12_sign_7 (by decide) rfl (fun h4 => ?_) (fun h4 => ?_)
    · refine mw_iload_n cx (q := 15) 3 rfl rfl dX12_sign_14 rfl ?_
      refine mw_iconst cx (q := 16) (v := 0) dX12_sign_15 rfl rfl ?_
      refine mw_aload_n cx (q := 17) 1 rfl rfl dX12_sign_16 rfl ?_
      refine mw_get cx (q := 20) (v := .ref (ad 12 3 0)) gf_X12_13 rfl rfl vi_12_0 dX12_sign_17 rfl ?_
      refine mw_iload_n cx (q := 21) 2 rfl rfl dX12_sign_20 rfl ?_
      refine mw_iald cx (q := 22) (w := ((M 12) 3 0 p1)) rfl (fun _ => rfl) vi_12_3 (qr10 h4) dX12_sign_21 rfl ?_
      refine mw_iconst cx (q := 23) (v := 1) dX12_sign_22 rfl rfl ?_
      refine mw_isub cx (q := 24) dX12_sign_23 rfl ?_
      refine mw_bnd (fun r5 er5 => ?_)
      refine mw_callS cx (q := 27) (d := 0) (As := [.int p2, .int 0, .int (((M 12) 3 0 p1) - 1)]) (z := fzp (uW M 12 (M 12)) r5) (st := [.ref (ad 12 0 0)]) (st1 := [.int (b2i r5), .ref (ad 12 0 0)]) (M' := (uW M 12 (M 12))) (by rw [er5]; exact mc_X12_in l D ta ad (uW M 12 (M 12)) p2 0 (((M 12) 3 0 p1) - 1)) cv_X12_167 ⟨Nat.le_of_ble_eq_true rfl, Nat.le_of_ble_eq_true rfl⟩ ⟨Nat.le_refl _, Nat.le_refl _⟩ (by simp [Value.category]) rfl rfl rfl dX12_sign_24 rfl ?_
      have qr50 : r5 = true → 0 ≤ p2.toInt ∧ p2.toInt ≤ (((M 12) 3 0 p1) - 1).toInt := (fun hq => in_i (er5.symm.trans hq))
      refine mw_ifb_eq cx (tgt := 34) (q := 30) dX12_sign_27 (by decide) rfl (fun h6 => ?_) (fun h6 => ?_)
      · refine mw_iconst cx (q := 35) (v := 2) dX12_sign_34 rfl rfl ?_
        refine mw_sub [1, 2, 3] rfl ?_
        exact hK3 2 (by intro hz; first | exact absurd hz (by decide) | exact ⟨(qr10 h4), (by (try simp only [vp_in_iff, i32lt, i32le, i32eq, i32add, i32sub, i32mul, i32neg, t32_0, t32_1, t32_3, t32_8] at qr50 h6 qr10 h4 ⊢); omega)⟩)
      · refine mw_iconst cx (q := 31) (v := 0) dX12_sign_30 rfl rfl ?_
        refine mw_goto cx (tgt := 35) dX12_sign_31 (by decide) ?_
        refine mw_sub [1, 2, 3] rfl ?_
        exact hK3 0 (by intro hz; first | exact absurd hz (by decide) | exact ⟨(qr10 h4), (qr50 h6).1⟩)
    · refine mw_iconst cx (q := 11) (v := 1) dX12_sign_10 rfl rfl ?_
      refine mw_goto cx (tgt := 35) dX12_sign_11 (by decide) ?_
      refine mw_sub [1, 2, 3] rfl ?_
      exact hK3 1 (by intro hz; first | exact absurd hz (by decide) | exact ⟨(by (try simp only [vp_in_iff, i32lt, i32le, i32eq, i32add, i32sub, i32mul, i32neg, t32_8] at qr10 h4 ⊢); omega), (by (try simp only [vp_in_iff, i32lt, i32le, i32eq, i32add, i32sub, i32mul, i32neg, t32_0]); omega)⟩)
def f12_isMove (m : Cm) (p1 : Int32) : (Bool × Cm) := bnd (f12_in p1 0 ((m 0 0 21) - 1)) (fun (r1 : Bool) => jn (fun (v2 : Bool) => bnd (f12_goesWell m (b2i v2)) (fun (r5 : Bool × Cm) => (r5.1, r5.2))) (fun K3 => if r1 = true then K3 false else K3 true))
set_option maxHeartbeats 4000000 in
set_option maxRecDepth 100000 in
theorem mc_X12_isMove (l : Launch) (D : va_G) (ta : wTa) (ad : wAd) (M : Wm) (p1 : Int32) (hok : Ok12 (M 12)) : MC l D ta ad yX12_isMove cX12_isMove 2 (some .boolean) 1 [.ref (ad 12 0 0), .int p1] M (fzc M 12 (f12_isMove (M 12) p1)) := by
  refine MC.of (fzc M 12) (f12_isMove (M 12) p1) rfl (by decide) (Nat.le_of_ble_eq_true rfl) (fun p e s m args below meth c cx hr => ?_)
  unfold f12_isMove
  refine mw_sub (lv' := [(0, .ref (ad 12 0 0)), (1, .int p1)]) [0, 1] rfl ?_
  refine mw_eqM (uW_self M 12) ?_
  have u_m0 : 0 ≤ ((M 12) 0 0 21).toInt := hok.m0
  have u_m1 : ((M 12) 0 0 21).toInt ≤ 3000 := hok.m1
  refine mw_aload_n cx (q := 1) 0 rfl rfl dX12_isMove_0 rfl ?_
  refine mw_iload_n cx (q := 2) 1 rfl rfl dX12_isMove_1 rfl ?_
  refine mw_iconst cx (q := 3) (v := 0) dX12_isMove_2 rfl rfl ?_
  refine mw_aload_n cx (q := 4) 0 rfl rfl dX12_isMove_3 rfl ?_
  refine mw_get cx (q := 7) (v := .int ((M 12) 0 0 21)) gf_X12_346 rfl rfl vi_12_0 dX12_isMove_4 rfl ?_
  refine mw_iconst cx (q := 8) (v := 1) dX12_isMove_7 rfl rfl ?_
  refine mw_isub cx (q := 9) dX12_isMove_8 rfl ?_
  refine mw_bnd (fun r1 er1 => ?_)
  refine mw_callS cx (q := 12) (d := 0) (As := [.int p1, .int 0, .int (((M 12) 0 0 21) - 1)]) (z := fzp (uW M 12 (M 12)) r1) (st := [.ref (ad 12 0 0)]) (st1 := [.int (b2i r1), .ref (ad 12 0 0)]) (M' := (uW M 12 (M 12))) (by rw [er1]; exact mc_X12_in l D ta ad (uW M 12 (M 12)) p1 0 (((M 12) 0 0 21) - 1)) cv_X12_167 ⟨Nat.le_of_ble_eq_true rfl, Nat.le_of_ble_eq_true rfl⟩ ⟨Nat.le_refl _, Nat.le_refl _⟩ (by simp [Value.category]) rfl rfl rfl dX12_isMove_9 rfl ?_
  have qr10 : r1 = true → 0 ≤ p1.toInt ∧ p1.toInt ≤ (((M 12) 0 0 21) - 1).toInt := (fun hq => in_i (er1.symm.trans hq))
  refine mw_jnP (P := fun (v2 : Bool) => ((b2i v2) = 0 → vp_in p1 3000)) (Mj := fun (v2 : Bool) => (uW M 12 (M 12))) (pj := 20) (lj := fun (v2 : Bool) => []) (sj := fun (v2 : Bool) => [.int (b2i v2), .ref (ad 12 0 0)]) (fun v2 jv2 => ?_) (fun K3 hK3 => ?_)
  · have jv2_0 := jv2
    refine mw_bnd (fun r5 er5 => ?_)
    refine mw_callV cx (q := 23) (d := 0) (As := [.int (b2i v2)]) (z := fzc (uW M 12 (M 12)) 12 r5) (st := []) (st1 := [.int (b2i r5.1)]) (M' := uW M 12 r5.2) (by rw [er5]; exact mc_X12_goesWell l D ta ad (uW M 12 (M 12)) (b2i v2)) cv_X12_181 rfl rfl rfl vi_12_0 ⟨Nat.le_of_ble_eq_true rfl, Nat.le_of_ble_eq_true rfl⟩ ⟨Nat.le_refl _, Nat.le_refl _⟩ (by simp [Value.category]) rfl rfl (by exact uW_uW _ _ _ _) dX12_isMove_20 rfl ?_
    have qr50 : r5.1 = true → (b2i v2) = 0 := (fun hq => goesWell_t ((congrArg Prod.fst er5).symm.trans hq))
    exact mw_zret cx hr (b2i_nar _) rfl dX12_isMove_23
  · refine mw_ifb_eq cx (tgt := 19) (q := 15) dX12_isMove_12 (by decide) rfl (fun h4 => ?_) (fun h4 => ?_)
    · refine mw_iconst cx (q := 20) (v := 1) dX12_isMove_19 rfl rfl ?_
      refine mw_sub [] rfl ?_
      exact hK3 true (by intro hz; first | exact absurd hz (by decide) | (have h1 := (by (try simp only [vp_in_iff, i32lt, i32le, i32eq, i32add, i32sub, i32mul, i32neg, t32_0, t32_1, t32_21, t32_3000] at qr10 h4 u_m0 u_m1 ⊢); omega); have h2 := (by (try simp only [vp_in_iff, i32lt, i32le, i32eq, i32add, i32sub, i32mul, i32neg, t32_0, t32_1, t32_21, t32_3000] at u_m0 u_m1 qr10 h4 ⊢); omega); rw [i32subn (by rw [t32_1]; omega) (by rw [t32_1]; omega), t32_1] at h2; rw [vp_in_iff]; omega))
    · refine mw_iconst cx (q := 16) (v := 0) dX12_isMove_15 rfl rfl ?_
      refine mw_goto cx (tgt := 20) dX12_isMove_16 (by decide) ?_
      refine mw_sub [] rfl ?_
      exact hK3 false (by intro hz; first | exact absurd hz (by decide) | (have h1 := (qr10 h4).1; have h2 := (qr10 h4).2; rw [i32subn (by rw [t32_1]; omega) (by rw [t32_1]; omega), t32_1] at h2; rw [vp_in_iff]; omega))
theorem isMove_in {m : Cm} (hk : Ok12 m) {a : Int32} (h : (f12_isMove m a).1 = true) : vp_in a 3000 := by
  have hm0 := hk.m0; have hm1 := hk.m1
  unfold f12_isMove at h; simp only [bnd, jn] at h
  by_cases c : f12_in a 0 (m 0 0 21 - 1) = true
  · have h1 := in_i c
    rw [i32subn (by rw [t32_1]; omega) (by rw [t32_1]; omega), t32_1, t32_0] at h1
    rw [vp_in_iff]; omega
  · rw [if_neg c] at h
    exact absurd (goesWell_t h) (by decide)
theorem isMove_m (m : Cm) (a : Int32) : ∃ v, (f12_isMove m a).2 = u3 m 0 0 0 v := by
  unfold f12_isMove; simp only [bnd, jn]
  split <;> exact ⟨_, goesWell_m _ _⟩
theorem okT_f12_isMove {m0 m : Cm} (h : OkT m0 m) (a : Int32) : OkT m0 (f12_isMove m a).2 := by
  obtain ⟨v, e⟩ := isMove_m m a
  rw [e]; exact okT_put0 h (by decide)
def f12_movedFrom (m : Cm) (p1 : Int32) : (Int32 × Cm) := bnd (f12_isMove m p1) (fun (r1 : Bool × Cm) => if r1.1 = true then if (r1.2 23 0 p1) = 4 then ((-1), r1.2) else ((r1.2 23 0 p1), r1.2) else (0, r1.2))
set_option maxHeartbeats 4000000 in
set_option maxRecDepth 100000 in
theorem mc_X12_movedFrom (l : Launch) (D : va_G) (ta : wTa) (ad : wAd) (M : Wm) (p1 : Int32) (hok : Ok12 (M 12)) : MC l D ta ad yX12_movedFrom cX12_movedFrom 2 (some .int) 2 [.ref (ad 12 0 0), .int p1] M (fic M 12 (f12_movedFrom (M 12) p1)) := by
  refine MC.of (fic M 12) (f12_movedFrom (M 12) p1) rfl (by decide) (Nat.le_of_ble_eq_true rfl) (fun p e s m args below meth c cx hr => ?_)
  unfold f12_movedFrom
  refine mw_sub (lv' := [(0, .ref (ad 12 0 0)), (1, .int p1)]) [0, 1] rfl ?_
  refine mw_eqM (uW_self M 12) ?_
  refine mw_aload_n cx (q := 1) 0 rfl rfl dX12_movedFrom_0 rfl ?_
  refine mw_iload_n cx (q := 2) 1 rfl rfl dX12_movedFrom_1 rfl ?_
  refine mw_bnd (fun r1 er1 => ?_)
  refine mw_callV cx (q := 5) (d := 1) (As := [.int p1]) (z := fzc (uW M 12 (M 12)) 12 r1) (st := []) (st1 := [.int (b2i r1.1)]) (M' := uW M 12 r1.2) (by rw [er1]; exact mc_X12_isMove l D ta ad (uW M 12 (M 12)) p1 hok) cv_X12_380 rfl rfl rfl vi_12_0 ⟨Nat.le_of_ble_eq_true rfl, Nat.le_of_ble_eq_true rfl⟩ ⟨Nat.le_refl _, Nat.le_refl _⟩ (by simp [Value.category]) rfl rfl (by exact uW_uW _ _ _ _) dX12_movedFrom_2 rfl ?_
  have qr10 : r1.1 = true → vp_in p1 3000 := (fun hq => isMove_in hok ((congrArg Prod.fst er1).symm.trans hq))
  refine mw_ifb_ne cx (tgt := 12) (q := 8) dX12_movedFrom_5 (by decide) rfl (fun h2 => ?_) (fun h2 => ?_)
  · refine mw_aload_n cx (q := 13) 0 rfl rfl dX12_movedFrom_12 rfl ?_
    refine mw_get cx (q := 16) (v := .ref (ad 12 23 0)) gf_X12_66 rfl rfl vi_12_0 dX12_movedFrom_13 rfl ?_
    refine mw_iload_n cx (q := 17) 1 rfl rfl dX12_movedFrom_16 rfl ?_
    refine mw_iald cx (q := 18) (w := (r1.2 23 0 p1)) rfl (fun _ => rfl) vi_12_23 (qr10 h2) dX12_movedFrom_17 rfl ?_
    refine mw_iconst cx (q := 19) (v := 4) dX12_movedFrom_18 rfl rfl ?_
    refine mw_icmp_ne cx (tgt := 26) (q := 22) dX12_movedFrom_19 (by decide) rfl (fun h3 => ?_) (fun h3 => ?_)
    · refine mw_aload_n cx (q := 27) 0 rfl rfl dX12_movedFrom_26 rfl ?_
      refine mw_get cx (q := 30) (v := .ref (ad 12 23 0)) gf_X12_66 rfl rfl vi_12_0 dX12_movedFrom_27 rfl ?_
      refine mw_iload_n cx (q := 31) 1 rfl rfl dX12_movedFrom_30 rfl ?_
      refine mw_iald cx (q := 32) (w := (r1.2 23 0 p1)) rfl (fun _ => rfl) vi_12_23 (qr10 h2) dX12_movedFrom_31 rfl ?_
      exact mw_iret cx hr rfl dX12_movedFrom_32
    · refine mw_iconst cx (q := 23) (v := (-1)) dX12_movedFrom_22 rfl rfl ?_
      refine mw_goto cx (tgt := 32) dX12_movedFrom_23 (by decide) ?_
      exact mw_iret cx hr rfl dX12_movedFrom_32
  · refine mw_iconst cx (q := 9) (v := 0) dX12_movedFrom_8 rfl rfl ?_
    refine mw_goto cx (tgt := 32) dX12_movedFrom_9 (by decide) ?_
    exact mw_iret cx hr rfl dX12_movedFrom_32
def f12_movedTo (m : Cm) (p1 : Int32) : (Int32 × Cm) := bnd (f12_isMove m p1) (fun (r1 : Bool × Cm) => if r1.1 = true then if (r1.2 24 0 p1) = 4 then ((-1), r1.2) else ((r1.2 24 0 p1), r1.2) else (0, r1.2))
set_option maxHeartbeats 4000000 in
set_option maxRecDepth 100000 in
theorem mc_X12_movedTo (l : Launch) (D : va_G) (ta : wTa) (ad : wAd) (M : Wm) (p1 : Int32) (hok : Ok12 (M 12)) : MC l D ta ad yX12_movedTo cX12_movedTo 2 (some .int) 2 [.ref (ad 12 0 0), .int p1] M (fic M 12 (f12_movedTo (M 12) p1)) := by
  refine MC.of (fic M 12) (f12_movedTo (M 12) p1) rfl (by decide) (Nat.le_of_ble_eq_true rfl) (fun p e s m args below meth c cx hr => ?_)
  unfold f12_movedTo
  refine mw_sub (lv' := [(0, .ref (ad 12 0 0)), (1, .int p1)]) [0, 1] rfl ?_
  refine mw_eqM (uW_self M 12) ?_
  refine mw_aload_n cx (q := 1) 0 rfl rfl dX12_movedTo_0 rfl ?_
  refine mw_iload_n cx (q := 2) 1 rfl rfl dX12_movedTo_1 rfl ?_
  refine mw_bnd (fun r1 er1 => ?_)
  refine mw_callV cx (q := 5) (d := 1) (As := [.int p1]) (z := fzc (uW M 12 (M 12)) 12 r1) (st := []) (st1 := [.int (b2i r1.1)]) (M' := uW M 12 r1.2) (by rw [er1]; exact mc_X12_isMove l D ta ad (uW M 12 (M 12)) p1 hok) cv_X12_380 rfl rfl rfl vi_12_0 ⟨Nat.le_of_ble_eq_true rfl, Nat.le_of_ble_eq_true rfl⟩ ⟨Nat.le_refl _, Nat.le_refl _⟩ (by simp [Value.category]) rfl rfl (by exact uW_uW _ _ _ _) dX12_movedTo_2 rfl ?_
  have qr10 : r1.1 = true → vp_in p1 3000 := (fun hq => isMove_in hok ((congrArg Prod.fst er1).symm.trans hq))
  refine mw_ifb_ne cx (tgt := 12) (q := 8) dX12_movedTo_5 (by decide) rfl (fun h2 => ?_) (fun h2 => ?_)
  · refine mw_aload_n cx (q := 13) 0 rfl rfl dX12_movedTo_12 rfl ?_
    refine mw_get cx (q := 16) (v := .ref (ad 12 24 0)) gf_X12_69 rfl rfl vi_12_0 dX12_movedTo_13 rfl ?_
    refine mw_iload_n cx (q := 17) 1 rfl rfl dX12_movedTo_16 rfl ?_
    refine mw_iald cx (q := 18) (w := (r1.2 24 0 p1)) rfl (fun _ => rfl) vi_12_24 (qr10 h2) dX12_movedTo_17 rfl ?_
    refine mw_iconst cx (q := 19) (v := 4) dX12_movedTo_18 rfl rfl ?_
    refine mw_icmp_ne cx (tgt := 26) (q := 22) dX12_movedTo_19 (by decide) rfl (fun h3 => ?_) (fun h3 => ?_)
    · refine mw_aload_n cx (q := 27) 0 rfl rfl dX12_movedTo_26 rfl ?_
      refine mw_get cx (q := 30) (v := .ref (ad 12 24 0)) gf_X12_69 rfl rfl vi_12_0 dX12_movedTo_27 rfl ?_
      refine mw_iload_n cx (q := 31) 1 rfl rfl dX12_movedTo_30 rfl ?_
      refine mw_iald cx (q := 32) (w := (r1.2 24 0 p1)) rfl (fun _ => rfl) vi_12_24 (qr10 h2) dX12_movedTo_31 rfl ?_
      exact mw_iret cx hr rfl dX12_movedTo_32
    · refine mw_iconst cx (q := 23) (v := (-1)) dX12_movedTo_22 rfl rfl ?_
      refine mw_goto cx (tgt := 32) dX12_movedTo_23 (by decide) ?_
      exact mw_iret cx hr rfl dX12_movedTo_32
  · refine mw_iconst cx (q := 9) (v := 0) dX12_movedTo_8 rfl rfl ?_
    refine mw_goto cx (tgt := 32) dX12_movedTo_9 (by decide) ?_
    exact mw_iret cx hr rfl dX12_movedTo_32
def f12_movedGood (m : Cm) (p1 : Int32) : (Int32 × Cm) := bnd (f12_isMove m p1) (fun (r1 : Bool × Cm) => if r1.1 = true then ((r1.2 25 0 p1), r1.2) else (0, r1.2))
set_option maxHeartbeats 4000000 in
set_option maxRecDepth 100000 in
theorem mc_X12_movedGood (l : Launch) (D : va_G) (ta : wTa) (ad : wAd) (M : Wm) (p1 : Int32) (hok : Ok12 (M 12)) : MC l D ta ad yX12_movedGood cX12_movedGood 2 (some .int) 2 [.ref (ad 12 0 0), .int p1] M (fic M 12 (f12_movedGood (M 12) p1)) := by
  refine MC.of (fic M 12) (f12_movedGood (M 12) p1) rfl (by decide) (Nat.le_of_ble_eq_true rfl) (fun p e s m args below meth c cx hr => ?_)
  unfold f12_movedGood
  refine mw_sub (lv' := [(0, .ref (ad 12 0 0)), (1, .int p1)]) [0, 1] rfl ?_
  refine mw_eqM (uW_self M 12) ?_
  refine mw_aload_n cx (q := 1) 0 rfl rfl dX12_movedGood_0 rfl ?_
  refine mw_iload_n cx (q := 2) 1 rfl rfl dX12_movedGood_1 rfl ?_
  refine mw_bnd (fun r1 er1 => ?_)
  refine mw_callV cx (q := 5) (d := 1) (As := [.int p1]) (z := fzc (uW M 12 (M 12)) 12 r1) (st := []) (st1 := [.int (b2i r1.1)]) (M' := uW M 12 r1.2) (by rw [er1]; exact mc_X12_isMove l D ta ad (uW M 12 (M 12)) p1 hok) cv_X12_380 rfl rfl rfl vi_12_0 ⟨Nat.le_of_ble_eq_true rfl, Nat.le_of_ble_eq_true rfl⟩ ⟨Nat.le_refl _, Nat.le_refl _⟩ (by simp [Value.category]) rfl rfl (by exact uW_uW _ _ _ _) dX12_movedGood_2 rfl ?_
  have qr10 : r1.1 = true → vp_in p1 3000 := (fun hq => isMove_in hok ((congrArg Prod.fst er1).symm.trans hq))
  refine mw_ifb_eq cx (tgt := 17) (q := 8) dX12_movedGood_5 (by decide) rfl (fun h2 => ?_) (fun h2 => ?_)
  · refine mw_iconst cx (q := 18) (v := 0) dX12_movedGood_17 rfl rfl ?_
    exact mw_iret cx hr rfl dX12_movedGood_18
  · refine mw_aload_n cx (q := 9) 0 rfl rfl dX12_movedGood_8 rfl ?_
    refine mw_get cx (q := 12) (v := .ref (ad 12 25 0)) gf_X12_72 rfl rfl vi_12_0 dX12_movedGood_9 rfl ?_
    refine mw_iload_n cx (q := 13) 1 rfl rfl dX12_movedGood_12 rfl ?_
    refine mw_iald cx (q := 14) (w := (r1.2 25 0 p1)) rfl (fun _ => rfl) vi_12_25 (qr10 h2) dX12_movedGood_13 rfl ?_
    refine mw_goto cx (tgt := 18) dX12_movedGood_14 (by decide) ?_
    exact mw_iret cx hr rfl dX12_movedGood_18
def f12_movedAmount (m : Cm) (p1 : Int32) : (Int32 × Cm) := bnd (f12_isMove m p1) (fun (r1 : Bool × Cm) => if r1.1 = true then ((r1.2 26 0 p1), r1.2) else (0, r1.2))
set_option maxHeartbeats 4000000 in
set_option maxRecDepth 100000 in
theorem mc_X12_movedAmount (l : Launch) (D : va_G) (ta : wTa) (ad : wAd) (M : Wm) (p1 : Int32) (hok : Ok12 (M 12)) : MC l D ta ad yX12_movedAmount cX12_movedAmount 2 (some .int) 2 [.ref (ad 12 0 0), .int p1] M (fic M 12 (f12_movedAmount (M 12) p1)) := by
  refine MC.of (fic M 12) (f12_movedAmount (M 12) p1) rfl (by decide) (Nat.le_of_ble_eq_true rfl) (fun p e s m args below meth c cx hr => ?_)
  unfold f12_movedAmount
  refine mw_sub (lv' := [(0, .ref (ad 12 0 0)), (1, .int p1)]) [0, 1] rfl ?_
  refine mw_eqM (uW_self M 12) ?_
  refine mw_aload_n cx (q := 1) 0 rfl rfl dX12_movedAmount_0 rfl ?_
  refine mw_iload_n cx (q := 2) 1 rfl rfl dX12_movedAmount_1 rfl ?_
  refine mw_bnd (fun r1 er1 => ?_)
  refine mw_callV cx (q := 5) (d := 1) (As := [.int p1]) (z := fzc (uW M 12 (M 12)) 12 r1) (st := []) (st1 := [.int (b2i r1.1)]) (M' := uW M 12 r1.2) (by rw [er1]; exact mc_X12_isMove l D ta ad (uW M 12 (M 12)) p1 hok) cv_X12_380 rfl rfl rfl vi_12_0 ⟨Nat.le_of_ble_eq_true rfl, Nat.le_of_ble_eq_true rfl⟩ ⟨Nat.le_refl _, Nat.le_refl _⟩ (by simp [Value.category]) rfl rfl (by exact uW_uW _ _ _ _) dX12_movedAmount_2 rfl ?_
  have qr10 : r1.1 = true → vp_in p1 3000 := (fun hq => isMove_in hok ((congrArg Prod.fst er1).symm.trans hq))
  refine mw_ifb_eq cx (tgt := 17) (q := 8) dX12_movedAmount_5 (by decide) rfl (fun h2 => ?_) (fun h2 => ?_)
  · refine mw_iconst cx (q := 18) (v := 0) dX12_movedAmount_17 rfl rfl ?_
    exact mw_iret cx hr rfl dX12_movedAmount_18
  · refine mw_aload_n cx (q := 9) 0 rfl rfl dX12_movedAmount_8 rfl ?_
    refine mw_get cx (q := 12) (v := .ref (ad 12 26 0)) gf_X12_75 rfl rfl vi_12_0 dX12_movedAmount_9 rfl ?_
    refine mw_iload_n cx (q := 13) 1 rfl rfl dX12_movedAmount_12 rfl ?_
    refine mw_iald cx (q := 14) (w := (r1.2 26 0 p1)) rfl (fun _ => rfl) vi_12_26 (qr10 h2) dX12_movedAmount_13 rfl ?_
    refine mw_goto cx (tgt := 18) dX12_movedAmount_14 (by decide) ?_
    exact mw_iret cx hr rfl dX12_movedAmount_18
def f12_movedBy (m : Cm) (p1 : Int32) : (Int32 × Cm) := bnd (f12_isMove m p1) (fun (r1 : Bool × Cm) => if r1.1 = true then ((r1.2 27 0 p1), r1.2) else (0, r1.2))
set_option maxHeartbeats 4000000 in
set_option maxRecDepth 100000 in
theorem mc_X12_movedBy (l : Launch) (D : va_G) (ta : wTa) (ad : wAd) (M : Wm) (p1 : Int32) (hok : Ok12 (M 12)) : MC l D ta ad yX12_movedBy cX12_movedBy 2 (some .int) 2 [.ref (ad 12 0 0), .int p1] M (fic M 12 (f12_movedBy (M 12) p1)) := by
  refine MC.of (fic M 12) (f12_movedBy (M 12) p1) rfl (by decide) (Nat.le_of_ble_eq_true rfl) (fun p e s m args below meth c cx hr => ?_)
  unfold f12_movedBy
  refine mw_sub (lv' := [(0, .ref (ad 12 0 0)), (1, .int p1)]) [0, 1] rfl ?_
  refine mw_eqM (uW_self M 12) ?_
  refine mw_aload_n cx (q := 1) 0 rfl rfl dX12_movedBy_0 rfl ?_
  refine mw_iload_n cx (q := 2) 1 rfl rfl dX12_movedBy_1 rfl ?_
  refine mw_bnd (fun r1 er1 => ?_)
  refine mw_callV cx (q := 5) (d := 1) (As := [.int p1]) (z := fzc (uW M 12 (M 12)) 12 r1) (st := []) (st1 := [.int (b2i r1.1)]) (M' := uW M 12 r1.2) (by rw [er1]; exact mc_X12_isMove l D ta ad (uW M 12 (M 12)) p1 hok) cv_X12_380 rfl rfl rfl vi_12_0 ⟨Nat.le_of_ble_eq_true rfl, Nat.le_of_ble_eq_true rfl⟩ ⟨Nat.le_refl _, Nat.le_refl _⟩ (by simp [Value.category]) rfl rfl (by exact uW_uW _ _ _ _) dX12_movedBy_2 rfl ?_
  have qr10 : r1.1 = true → vp_in p1 3000 := (fun hq => isMove_in hok ((congrArg Prod.fst er1).symm.trans hq))
  refine mw_ifb_eq cx (tgt := 17) (q := 8) dX12_movedBy_5 (by decide) rfl (fun h2 => ?_) (fun h2 => ?_)
  · refine mw_iconst cx (q := 18) (v := 0) dX12_movedBy_17 rfl rfl ?_
    exact mw_iret cx hr rfl dX12_movedBy_18
  · refine mw_aload_n cx (q := 9) 0 rfl rfl dX12_movedBy_8 rfl ?_
    refine mw_get cx (q := 12) (v := .ref (ad 12 27 0)) gf_X12_78 rfl rfl vi_12_0 dX12_movedBy_9 rfl ?_
    refine mw_iload_n cx (q := 13) 1 rfl rfl dX12_movedBy_12 rfl ?_
    refine mw_iald cx (q := 14) (w := (r1.2 27 0 p1)) rfl (fun _ => rfl) vi_12_27 (qr10 h2) dX12_movedBy_13 rfl ?_
    refine mw_goto cx (tgt := 18) dX12_movedBy_14 (by decide) ?_
    exact mw_iret cx hr rfl dX12_movedBy_18
def f12_leftBy_lp41 (p1 : Int32) (p2 : Int32) (r7 : Bool × Cm) : Nat → (Int32 × Int32) → (Int32 × Cm)
  | 0, x10 => (0, r7.2)
  | n11 + 1, x10 => if (r7.2 0 0 21) ≤ x10.1 then (x10.2, r7.2) else jn (fun (v13 : Bool) => jn (fun (v17 : Int32) => bnd ((x10.2 + v17)) (fun (v25 : Int32) => bnd (x10.1 + 1) (fun (v26 : Int32) => f12_leftBy_lp41 p1 p2 r7 n11 (v26, v25)))) (fun K18 => if v13 = true then if (r7.2 23 0 x10.1) = 4 then K18 (r7.2 26 0 x10.1) else if v13 = true then if (r7.2 24 0 x10.1) = 4 then K18 (-(r7.2 26 0 x10.1)) else K18 0 else K18 0 else if v13 = true then if (r7.2 24 0 x10.1) = 4 then K18 (-(r7.2 26 0 x10.1)) else K18 0 else K18 0)) (fun K14 => if (r7.2 27 0 x10.1) = p1 then if (r7.2 25 0 x10.1) = p2 then K14 true else K14 false else K14 false)
theorem f12_leftBy_lp41_s (p1 : Int32) (p2 : Int32) (r7 : Bool × Cm) (n11 : Nat) (x10 : Int32 × Int32) : f12_leftBy_lp41 p1 p2 r7 (n11 + 1) x10 = if (r7.2 0 0 21) ≤ x10.1 then (x10.2, r7.2) else jn (fun (v13 : Bool) => jn (fun (v17 : Int32) => bnd ((x10.2 + v17)) (fun (v25 : Int32) => bnd (x10.1 + 1) (fun (v26 : Int32) => f12_leftBy_lp41 p1 p2 r7 n11 (v26, v25)))) (fun K18 => if v13 = true then if (r7.2 23 0 x10.1) = 4 then K18 (r7.2 26 0 x10.1) else if v13 = true then if (r7.2 24 0 x10.1) = 4 then K18 (-(r7.2 26 0 x10.1)) else K18 0 else K18 0 else if v13 = true then if (r7.2 24 0 x10.1) = 4 then K18 (-(r7.2 26 0 x10.1)) else K18 0 else K18 0)) (fun K14 => if (r7.2 27 0 x10.1) = p1 then if (r7.2 25 0 x10.1) = p2 then K14 true else K14 false else K14 false) := rfl
def f12_leftBy (m : Cm) (p1 : Int32) (p2 : Int32) : (Int32 × Cm) := bnd (f12_isOrder m p1) (fun (r1 : Bool) => jn (fun (v2 : Int32) => bnd (f12_goesWell m v2) (fun (r7 : Bool × Cm) => if r7.1 = true then f12_leftBy_lp41 p1 p2 r7 (3002 + 0 * (p1).toInt.toNat) (0, 0) else (0, r7.2))) (fun K3 => if r1 = true then bnd (f12_isGood p2) (fun (r5 : Bool) => if r5 = true then K3 0 else K3 2) else K3 1))
set_option maxHeartbeats 4000000 in
set_option maxRecDepth 100000 in
theorem mc_X12_leftBy (l : Launch) (D : va_G) (ta : wTa) (ad : wAd) (M : Wm) (p1 : Int32) (p2 : Int32) (hok : Ok12 (M 12)) : MC l D ta ad yX12_leftBy cX12_leftBy 7 (some .int) 2 [.ref (ad 12 0 0), .int p1, .int p2] M (fic M 12 (f12_leftBy (M 12) p1 p2)) := by
  refine MC.of (fic M 12) (f12_leftBy (M 12) p1 p2) rfl (by decide) (Nat.le_of_ble_eq_true rfl) (fun p e s m args below meth c cx hr => ?_)
  unfold f12_leftBy
  refine mw_sub (lv' := [(0, .ref (ad 12 0 0)), (1, .int p1), (2, .int p2)]) [0, 1, 2] rfl ?_
  refine mw_eqM (uW_self M 12) ?_
  have ok0 : OkT (M 12) (M 12) := ⟨hok, rfl, rfl⟩
  refine mw_aload_n cx (q := 1) 0 rfl rfl dX12_leftBy_0 rfl ?_
  refine mw_iload_n cx (q := 2) 1 rfl rfl dX12_leftBy_1 rfl ?_
  refine mw_bnd (fun r1 er1 => ?_)
  refine mw_callV cx (q := 5) (d := 1) (As := [.int p1]) (z := fzp (uW M 12 (M 12)) r1) (st := []) (st1 := [.int (b2i r1)]) (M' := (uW M 12 (M 12))) (by rw [er1]; exact mc_X12_isOrder l D ta ad (uW M 12 (M 12)) p1) cv_X12_371 rfl rfl rfl vi_12_0 ⟨Nat.le_of_ble_eq_true rfl, Nat.le_of_ble_eq_true rfl⟩ ⟨Nat.le_refl _, Nat.le_refl _⟩ (by simp [Value.category]) rfl rfl rfl dX12_leftBy_2 rfl ?_
  have qr10 : r1 = true → vp_in p1 60 := (fun hq => isOrder_t ok0.1 (er1.symm.trans hq))
  refine mw_istore_n cx (q := 6) (lv' := [(3, .int (b2i r1)), (0, .ref (ad 12 0 0)), (1, .int p1), (2, .int p2)]) rfl rfl (by decide) dX12_leftBy_5 rfl ?_
  refine mw_aload_n cx (q := 7) 1 rfl rfl dX12_leftBy_6 rfl ?_
  refine mw_iload_n cx (q := 8) 0 rfl rfl dX12_leftBy_7 rfl ?_
  refine mw_jnP (P := fun (v2 : Int32) => (v2 = 0 → vp_in p1 60)) (Mj := fun (v2 : Int32) => (uW M 12 (M 12))) (pj := 27) (lj := fun (v2 : Int32) => [(0, .ref (ad 12 0 0)), (1, .int p1), (2, .int p2)]) (sj := fun (v2 : Int32) => [.int v2, .ref (ad 12 0 0)]) (fun v2 jv2 => ?_) (fun K3 hK3 => ?_)
  · have jv2_0 := jv2
    refine mw_bnd (fun r7 er7 => ?_)
    refine mw_callV cx (q := 30) (d := 0) (As := [.int v2]) (z := fzc (uW M 12 (M 12)) 12 r7) (st := []) (st1 := [.int (b2i r7.1)]) (M' := uW M 12 r7.2) (by rw [er7]; exact mc_X12_goesWell l D ta ad (uW M 12 (M 12)) v2) cv_X12_181 rfl rfl rfl vi_12_0 ⟨Nat.le_of_ble_eq_true rfl, Nat.le_of_ble_eq_true rfl⟩ ⟨Nat.le_refl _, Nat.le_refl _⟩ (by simp [Value.category]) rfl rfl (by exact uW_uW _ _ _ _) dX12_leftBy_27 rfl ?_
    have ok8 : OkT (M 12) r7.2 := (by rw [er7]; exact okT_f12_goesWell ok0 v2)
    have qr70 : r7.1 = true → v2 = 0 := (fun hq => goesWell_t ((congrArg Prod.fst er7).symm.trans hq))
    have hm1 : (r7.2 0 0 21).toInt ≤ 3000 := ok8.1.m1
    refine mw_ifb_ne cx (tgt := 35) (q := 33) dX12_leftBy_30 (by decide) rfl (fun h9 => ?_) (fun h9 => ?_)
    · refine mw_iconst cx (q := 36) (v := 0) dX12_leftBy_35 rfl rfl ?_
      refine mw_istore cx (q := 38) (lv' := [(4, .int 0), (0, .ref (ad 12 0 0)), (1, .int p1), (2, .int p2)]) rfl (by decide) dX12_leftBy_36 rfl ?_
      refine mw_iconst cx (q := 39) (v := 0) dX12_leftBy_38 rfl rfl ?_
      refine mw_istore cx (q := 41) (lv' := [(5, .int 0), (4, .int 0), (0, .ref (ad 12 0 0)), (1, .int p1), (2, .int p2)]) rfl (by decide) dX12_leftBy_39 rfl ?_
      refine mw_loop (F := f12_leftBy_lp41 p1 p2 r7) (I := fun (x10 : Int32 × Int32) => 0 ≤ (x10.1).toInt) (μ := fun (x10 : Int32 × Int32) => (3001 - (x10.1).toInt).toNat) (Mx := fun (x10 : Int32 × Int32) => (uW M 12 r7.2)) (px := 41) (lx := fun (x10 : Int32 × Int32) => [(5, .int x10.1), (4, .int x10.2), (0, .ref (ad 12 0 0)), (1, .int p1), (2, .int p2)]) (fun n11 x10 ivx10 ih => ?_) (3002 + 0 * (p1).toInt.toNat) (0, 0) (by (try simp only [vp_in_iff, i32lt, i32le, i32eq, i32add, i32sub, i32mul, i32neg, t32_0]); omega) (by (try simp only [vp_in_iff, i32lt, i32le, i32eq, i32add, i32sub, i32mul, i32neg, t32_0, t32_60] at qr10 jv2_0 qr70 h9 ⊢); omega)
      have ivx10_0 := ivx10
      refine mw_eqS (f12_leftBy_lp41_s p1 p2 r7 n11 x10) ?_
      refine mw_iload cx (q := 43) 0 rfl dX12_leftBy_41 rfl ?_
      refine mw_aload_n cx (q := 44) 2 rfl rfl dX12_leftBy_43 rfl ?_
      refine mw_get cx (q := 47) (v := .int (r7.2 0 0 21)) gf_X12_346 rfl rfl vi_12_0 dX12_leftBy_44 rfl ?_
      refine mw_icmp_ge cx (tgt := 144) (q := 50) dX12_leftBy_47 (by decide) rfl (fun h12 => ?_) (fun h12 => ?_)
      · refine mw_iload cx (q := 146) 1 rfl dX12_leftBy_144 rfl ?_
        exact mw_iret cx hr rfl dX12_leftBy_146
      · refine mw_aload_n cx (q := 51) 2 rfl rfl dX12_leftBy_50 rfl ?_
        refine mw_get cx (q := 54) (v := .ref (ad 12 27 0)) gf_X12_78 rfl rfl vi_12_0 dX12_leftBy_51 rfl ?_
        refine mw_iload cx (q := 56) 0 rfl dX12_leftBy_54 rfl ?_
        refine mw_iald cx (q := 57) (w := (r7.2 27 0 x10.1)) rfl (fun _ => rfl) vi_12_27 (by (try simp only [vp_in_iff, i32lt, i32le, i32eq, i32add, i32sub, i32mul, i32neg, t32_0, t32_21, t32_3000] at ivx10_0 h12 ok8 hm1 ok0 hok ⊢); omega) dX12_leftBy_56 rfl ?_
        refine mw_iload_n cx (q := 58) 3 rfl rfl dX12_leftBy_57 rfl ?_
        refine mw_jn (Mj := fun (v13 : Bool) => (uW M 12 r7.2)) (pj := 77) (lj := fun (v13 : Bool) => [(0, .ref (ad 12 0 0)), (1, .int p1), (2, .int p2), (4, .int x10.2), (5, .int x10.1)]) (sj := fun (v13 : Bool) => [.int (b2i v13)]) (fun v13 => ?_) (fun K14 hK14 => ?_)
        · refine mw_istore cx (q := 79) (lv' := [(6, .int (b2i v13)), (0, .ref (ad 12 0 0)), (1, .int p1), (2, .int p2), (4, .int x10.2), (5, .int x10.1)]) rfl (by decide) dX12_leftBy_77 rfl ?_
          refine mw_iload cx (q := 81) 4 rfl dX12_leftBy_79 rfl ?_
          refine mw_iload cx (q := 83) 0 rfl dX12_leftBy_81 rfl ?_
          refine mw_jn (Mj := fun (v17 : Int32) => (uW M 12 r7.2)) (pj := 135) (lj := fun (v17 : Int32) => [(0, .ref (ad 12 0 0)), (1, .int p1), (2, .int p2), (5, .int x10.1)]) (sj := fun (v17 : Int32) => [.int v17, .int x10.2]) (fun v17 => ?_) (fun K18 hK18 => ?_)
          · refine mw_iadd cx (q := 136) dX12_leftBy_135 rfl ?_
            refine mw_bndT (fun v25 ev25 => ?_)
            refine mw_istore cx (q := 138) (lv' := [(4, .int v25), (0, .ref (ad 12 0 0)), (1, .int p1), (2, .int p2), (5, .int x10.1)]) rfl (by decide) dX12_leftBy_136 rfl ?_
            refine mw_bnd (fun v26 ev26 => ?_)
            refine mw_iinc cx (q := 141) (v := v26) (lv' := [(5, .int v26), (4, .int v25), (0, .ref (ad 12 0 0)), (1, .int p1), (2, .int p2)]) 4 rfl (by rw [ev26]; rfl) rfl (by decide) dX12_leftBy_138 rfl ?_
            refine mw_goto cx (tgt := 41) dX12_leftBy_141 (by decide) ?_
            exact ih (v26, v25) (by (try simp only [vp_in_iff, i32lt, i32le, i32eq, i32add, i32sub, i32mul, i32neg, t32_0, t32_1, t32_21, t32_3000] at ev26 ivx10_0 h12 ok8 hm1 ok0 hok ⊢); omega) (by (try simp only [vp_in_iff, i32lt, i32le, i32eq, i32add, i32sub, i32mul, i32neg, t32_0, t32_1, t32_21, t32_3000] at ivx10_0 h12 ev26 ok8 hm1 ok0 hok ⊢); omega)
          · refine mw_ifb_eq cx (tgt := 107) (q := 86) dX12_leftBy_83 (by decide) rfl (fun h19 => ?_) (fun h19 => ?_)
            · refine mw_iload cx (q := 109) 0 rfl dX12_leftBy_107 rfl ?_
              refine mw_ifb_eq cx (tgt := 134) (q := 112) dX12_leftBy_109 (by decide) rfl (fun h20 => ?_) (fun h20 => ?_)
              · refine mw_iconst cx (q := 135) (v := 0) dX12_leftBy_134 rfl rfl ?_
                refine mw_sub [1, 2, 3, 5] rfl ?_
                exact hK18 0
              · refine mw_aload_n cx (q := 113) 1 rfl rfl dX12_leftBy_112 rfl ?_
                refine mw_get cx (q := 116) (v := .ref (ad 12 24 0)) gf_X12_69 rfl rfl vi_12_0 dX12_leftBy_113 rfl ?_
                refine mw_iload cx (q := 118) 5 rfl dX12_leftBy_116 rfl ?_
                refine mw_iald cx (q := 119) (w := (r7.2 24 0 x10.1)) rfl (fun _ => rfl) vi_12_24 (by (try simp only [vp_in_iff, i32lt, i32le, i32eq, i32add, i32sub, i32mul, i32neg, t32_0, t32_21, t32_3000] at ivx10_0 h12 ok8 hm1 ok0 hok ⊢); omega) dX12_leftBy_118 rfl ?_
                refine mw_iconst cx (q := 120) (v := 4) dX12_leftBy_119 rfl rfl ?_
                refine mw_icmp_ne cx (tgt := 134) (q := 123) dX12_leftBy_120 (by decide) rfl (fun h21 => ?_) (fun h21 => ?_)
                · refine mw_iconst cx (q := 135) (v := 0) dX12_leftBy_134 rfl rfl ?_
                  refine mw_sub [1, 2, 3, 5] rfl ?_
                  exact hK18 0
                · refine mw_aload_n cx (q := 124) 1 rfl rfl dX12_leftBy_123 rfl ?_
                  refine mw_get cx (q := 127) (v := .ref (ad 12 26 0)) gf_X12_75 rfl rfl vi_12_0 dX12_leftBy_124 rfl ?_
                  refine mw_iload cx (q := 129) 5 rfl dX12_leftBy_127 rfl ?_
                  refine mw_iald cx (q := 130) (w := (r7.2 26 0 x10.1)) rfl (fun _ => rfl) vi_12_26 (by (try simp only [vp_in_iff, i32lt, i32le, i32eq, i32add, i32sub, i32mul, i32neg, t32_0, t32_4, t32_21, t32_24, t32_3000] at ivx10_0 h12 h21 ok8 hm1 ok0 hok ⊢); omega) dX12_leftBy_129 rfl ?_
                  refine mw_ineg cx (q := 131) dX12_leftBy_130 rfl ?_
                  refine mw_goto cx (tgt := 135) dX12_leftBy_131 (by decide) ?_
                  refine mw_sub [1, 2, 3, 5] rfl ?_
                  exact hK18 (-(r7.2 26 0 x10.1))
            · refine mw_aload_n cx (q := 87) 1 rfl rfl dX12_leftBy_86 rfl ?_
              refine mw_get cx (q := 90) (v := .ref (ad 12 23 0)) gf_X12_66 rfl rfl vi_12_0 dX12_leftBy_87 rfl ?_
              refine mw_iload cx (q := 92) 5 rfl dX12_leftBy_90 rfl ?_
              refine mw_iald cx (q := 93) (w := (r7.2 23 0 x10.1)) rfl (fun _ => rfl) vi_12_23 (by (try simp only [vp_in_iff, i32lt, i32le, i32eq, i32add, i32sub, i32mul, i32neg, t32_0, t32_21, t32_3000] at ivx10_0 h12 ok8 hm1 ok0 hok ⊢); omega) dX12_leftBy_92 rfl ?_
              refine mw_iconst cx (q := 94) (v := 4) dX12_leftBy_93 rfl rfl ?_
              refine mw_icmp_ne cx (tgt := 107) (q := 97) dX12_leftBy_94 (by decide) rfl (fun h22 => ?_) (fun h22 => ?_)
              · refine mw_iload cx (q := 109) 0 rfl dX12_leftBy_107 rfl ?_
                refine mw_ifb_eq cx (tgt := 134) (q := 112) dX12_leftBy_109 (by decide) rfl (fun h23 => ?_) (fun h23 => ?_)
                · refine mw_iconst cx (q := 135) (v := 0) dX12_leftBy_134 rfl rfl ?_
                  refine mw_sub [1, 2, 3, 5] rfl ?_
                  exact hK18 0
                · refine mw_aload_n cx (q := 113) 1 rfl rfl dX12_leftBy_112 rfl ?_
                  refine mw_get cx (q := 116) (v := .ref (ad 12 24 0)) gf_X12_69 rfl rfl vi_12_0 dX12_leftBy_113 rfl ?_
                  refine mw_iload cx (q := 118) 5 rfl dX12_leftBy_116 rfl ?_
                  refine mw_iald cx (q := 119) (w := (r7.2 24 0 x10.1)) rfl (fun _ => rfl) vi_12_24 (by (try simp only [vp_in_iff, i32lt, i32le, i32eq, i32add, i32sub, i32mul, i32neg, t32_0, t32_4, t32_21, t32_23, t32_3000] at ivx10_0 h12 h22 ok8 hm1 ok0 hok ⊢); omega) dX12_leftBy_118 rfl ?_
                  refine mw_iconst cx (q := 120) (v := 4) dX12_leftBy_119 rfl rfl ?_
                  refine mw_icmp_ne cx (tgt := 134) (q := 123) dX12_leftBy_120 (by decide) rfl (fun h24 => ?_) (fun h24 => ?_)
                  · refine mw_iconst cx (q := 135) (v := 0) dX12_leftBy_134 rfl rfl ?_
                    refine mw_sub [1, 2, 3, 5] rfl ?_
                    exact hK18 0
                  · refine mw_aload_n cx (q := 124) 1 rfl rfl dX12_leftBy_123 rfl ?_
                    refine mw_get cx (q := 127) (v := .ref (ad 12 26 0)) gf_X12_75 rfl rfl vi_12_0 dX12_leftBy_124 rfl ?_
                    refine mw_iload cx (q := 129) 5 rfl dX12_leftBy_127 rfl ?_
                    refine mw_iald cx (q := 130) (w := (r7.2 26 0 x10.1)) rfl (fun _ => rfl) vi_12_26 (by (try simp only [vp_in_iff, i32lt, i32le, i32eq, i32add, i32sub, i32mul, i32neg, t32_0, t32_4, t32_21, t32_23, t32_24, t32_3000] at ivx10_0 h12 h22 h24 ok8 hm1 ok0 hok ⊢); omega) dX12_leftBy_129 rfl ?_
                    refine mw_ineg cx (q := 131) dX12_leftBy_130 rfl ?_
                    refine mw_goto cx (tgt := 135) dX12_leftBy_131 (by decide) ?_
                    refine mw_sub [1, 2, 3, 5] rfl ?_
                    exact hK18 (-(r7.2 26 0 x10.1))
              · refine mw_aload_n cx (q := 98) 1 rfl rfl dX12_leftBy_97 rfl ?_
                refine mw_get cx (q := 101) (v := .ref (ad 12 26 0)) gf_X12_75 rfl rfl vi_12_0 dX12_leftBy_98 rfl ?_
                refine mw_iload cx (q := 103) 5 rfl dX12_leftBy_101 rfl ?_
                refine mw_iald cx (q := 104) (w := (r7.2 26 0 x10.1)) rfl (fun _ => rfl) vi_12_26 (by (try simp only [vp_in_iff, i32lt, i32le, i32eq, i32add, i32sub, i32mul, i32neg, t32_0, t32_4, t32_21, t32_23, t32_3000] at ivx10_0 h12 h22 ok8 hm1 ok0 hok ⊢); omega) dX12_leftBy_103 rfl ?_
                refine mw_goto cx (tgt := 135) dX12_leftBy_104 (by decide) ?_
                refine mw_sub [1, 2, 3, 5] rfl ?_
                exact hK18 (r7.2 26 0 x10.1)
        · refine mw_icmp_ne cx (tgt := 76) (q := 61) dX12_leftBy_58 (by decide) rfl (fun h15 => ?_) (fun h15 => ?_)
          · refine mw_iconst cx (q := 77) (v := 0) dX12_leftBy_76 rfl rfl ?_
            refine mw_sub [2, 3, 4, 1, 0] rfl ?_
            exact hK14 false
          · refine mw_aload_n cx (q := 62) 2 rfl rfl dX12_leftBy_61 rfl ?_
            refine mw_get cx (q := 65) (v := .ref (ad 12 25 0)) gf_X12_72 rfl rfl vi_12_0 dX12_leftBy_62 rfl ?_
            refine mw_iload cx (q := 67) 0 rfl dX12_leftBy_65 rfl ?_
            refine mw_iald cx (q := 68) (w := (r7.2 25 0 x10.1)) rfl (fun _ => rfl) vi_12_25 (by (try simp only [vp_in_iff, i32lt, i32le, i32eq, i32add, i32sub, i32mul, i32neg, t32_0, t32_21, t32_27, t32_60, t32_3000] at ivx10_0 h12 h15 qr10 jv2_0 ok8 qr70 hm1 h9 ok0 hok ⊢); omega) dX12_leftBy_67 rfl ?_
            refine mw_iload_n cx (q := 69) 4 rfl rfl dX12_leftBy_68 rfl ?_
            refine mw_icmp_ne cx (tgt := 76) (q := 72) dX12_leftBy_69 (by decide) rfl (fun h16 => ?_) (fun h16 => ?_)
            · refine mw_iconst cx (q := 77) (v := 0) dX12_leftBy_76 rfl rfl ?_
              refine mw_sub [2, 3, 4, 1, 0] rfl ?_
              exact hK14 false
            · refine mw_iconst cx (q := 73) (v := 1) dX12_leftBy_72 rfl rfl ?_
              refine mw_goto cx (tgt := 77) dX12_leftBy_73 (by decide) ?_
              refine mw_sub [2, 3, 4, 1, 0] rfl ?_
              exact hK14 true
    · refine mw_iconst cx (q := 34) (v := 0) dX12_leftBy_33 rfl rfl ?_
      exact mw_iret cx hr rfl dX12_leftBy_34
  · refine mw_ifb_ne cx (tgt := 15) (q := 11) dX12_leftBy_8 (by decide) rfl (fun h4 => ?_) (fun h4 => ?_)
    · refine mw_iload_n cx (q := 16) 3 rfl rfl dX12_leftBy_15 rfl ?_
      refine mw_bnd (fun r5 er5 => ?_)
      refine mw_callS cx (q := 19) (d := 1) (As := [.int p2]) (z := fzp (uW M 12 (M 12)) r5) (st := [.ref (ad 12 0 0)]) (st1 := [.int (b2i r5), .ref (ad 12 0 0)]) (M' := (uW M 12 (M 12))) (by rw [er5]; exact mc_X12_isGood l D ta ad (uW M 12 (M 12)) p2) cv_X12_374 ⟨Nat.le_of_ble_eq_true rfl, Nat.le_of_ble_eq_true rfl⟩ ⟨Nat.le_refl _, Nat.le_refl _⟩ (by simp [Value.category]) rfl rfl rfl dX12_leftBy_16 rfl ?_
      have qr50 : r5 = true → vp_in p2 8 := (fun hq => isGood_t (er5.symm.trans hq))
      refine mw_ifb_eq cx (tgt := 26) (q := 22) dX12_leftBy_19 (by decide) rfl (fun h6 => ?_) (fun h6 => ?_)
      · refine mw_iconst cx (q := 27) (v := 2) dX12_leftBy_26 rfl rfl ?_
        refine mw_sub [1, 2, 3] rfl ?_
        exact hK3 2 (by intro hz; first | exact absurd hz (by decide) | exact (qr10 h4))
      · refine mw_iconst cx (q := 23) (v := 0) dX12_leftBy_22 rfl rfl ?_
        refine mw_goto cx (tgt := 27) dX12_leftBy_23 (by decide) ?_
        refine mw_sub [1, 2, 3] rfl ?_
        exact hK3 0 (by intro hz; first | exact absurd hz (by decide) | exact (qr10 h4))
    · refine mw_iconst cx (q := 12) (v := 1) dX12_leftBy_11 rfl rfl ?_
      refine mw_goto cx (tgt := 27) dX12_leftBy_12 (by decide) ?_
      refine mw_sub [1, 2, 3] rfl ?_
      exact hK3 1 (by intro hz; first | exact absurd hz (by decide) | exact (by (try simp only [vp_in_iff, i32lt, i32le, i32eq, i32add, i32sub, i32mul, i32neg, t32_60] at qr10 h4 ⊢); omega))
def f12_order (m : Cm) (p1 : Int32) (p2 : Int32) (p3 : Int32) (p4 : Int32) : (Int32 × Cm) := bnd (f12_isCompany p1) (fun (r1 : Bool) => jn (fun (v2 : Bool) => jn (fun (v11 : Int32) => bnd (f12_goesWell m v11) (fun (r15 : Bool × Cm) => if r15.1 = true then bnd (f12_makeOrder r15.2 p1 p2 ((r15.2 0 0 10) + p3) p4) (fun (r17 : Int32 × Cm) => (r17.1, r17.2)) else (0, r15.2))) (fun K12 => if v2 = true then if (m 0 0 11) = 60 then K12 2 else K12 0 else K12 1)) (fun K3 => if r1 = true then bnd (f12_isScript p2) (fun (r5 : Bool) => if r5 = true then bnd (f12_in p3 1 100) (fun (r7 : Bool) => if r7 = true then bnd (f12_in p4 1 1000) (fun (r9 : Bool) => if r9 = true then K3 true else K3 false) else K3 false) else K3 false) else K3 false))
set_option maxHeartbeats 4000000 in
set_option maxRecDepth 100000 in
theorem mc_X12_order (l : Launch) (D : va_G) (ta : wTa) (ad : wAd) (M : Wm) (p1 : Int32) (p2 : Int32) (p3 : Int32) (p4 : Int32) (hok : Ok12 (M 12)) : MC l D ta ad yX12_order cX12_order 6 (some .int) 2 [.ref (ad 12 0 0), .int p1, .int p2, .int p3, .int p4] M (fic M 12 (f12_order (M 12) p1 p2 p3 p4)) := by
  refine MC.of (fic M 12) (f12_order (M 12) p1 p2 p3 p4) rfl (by decide) (Nat.le_of_ble_eq_true rfl) (fun p e s m args below meth c cx hr => ?_)
  unfold f12_order
  refine mw_sub (lv' := [(0, .ref (ad 12 0 0)), (1, .int p1), (2, .int p2), (3, .int p3), (4, .int p4)]) [0, 1, 2, 3, 4] rfl ?_
  refine mw_eqM (uW_self M 12) ?_
  refine mw_iload_n cx (q := 1) 1 rfl rfl dX12_order_0 rfl ?_
  refine mw_bnd (fun r1 er1 => ?_)
  refine mw_callS cx (q := 4) (d := 1) (As := [.int p1]) (z := fzp (uW M 12 (M 12)) r1) (st := []) (st1 := [.int (b2i r1)]) (M' := (uW M 12 (M 12))) (by rw [er1]; exact mc_X12_isCompany l D ta ad (uW M 12 (M 12)) p1) cv_X12_339 ⟨Nat.le_of_ble_eq_true rfl, Nat.le_of_ble_eq_true rfl⟩ ⟨Nat.le_refl _, Nat.le_refl _⟩ (by simp [Value.category]) rfl rfl rfl dX12_order_1 rfl ?_
  have qr10 : r1 = true → vp_in p1 4 := (fun hq => isCompany_t (er1.symm.trans hq))
  refine mw_jnP (P := fun (v2 : Bool) => (v2 = true → vp_in p1 4 ∧ vp_in p2 8)) (Mj := fun (v2 : Bool) => (uW M 12 (M 12))) (pj := 41) (lj := fun (v2 : Bool) => [(0, .ref (ad 12 0 0)), (1, .int p1), (2, .int p2), (3, .int p3), (4, .int p4)]) (sj := fun (v2 : Bool) => [.int (b2i v2)]) (fun v2 jv2 => ?_) (fun K3 hK3 => ?_)
  · have jv2_0 := jv2
    refine mw_istore cx (q := 43) (lv' := [(5, .int (b2i v2)), (0, .ref (ad 12 0 0)), (1, .int p1), (2, .int p2), (3, .int p3), (4, .int p4)]) rfl (by decide) dX12_order_41 rfl ?_
    refine mw_aload_n cx (q := 44) 1 rfl rfl dX12_order_43 rfl ?_
    refine mw_iload cx (q := 46) 0 rfl dX12_order_44 rfl ?_
    refine mw_jnP (P := fun (v11 : Int32) => (v11 = 0 → vp_in p1 4 ∧ vp_in p2 8 ∧ ¬ ((M 12) 0 0 11) = 60)) (Mj := fun (v11 : Int32) => (uW M 12 (M 12))) (pj := 67) (lj := fun (v11 : Int32) => [(0, .ref (ad 12 0 0)), (1, .int p1), (2, .int p2), (3, .int p3), (4, .int p4)]) (sj := fun (v11 : Int32) => [.int v11, .ref (ad 12 0 0)]) (fun v11 jv11 => ?_) (fun K12 hK12 => ?_)
    · have jv11_0 := jv11
      refine mw_bnd (fun r15 er15 => ?_)
      refine mw_callV cx (q := 70) (d := 0) (As := [.int v11]) (z := fzc (uW M 12 (M 12)) 12 r15) (st := []) (st1 := [.int (b2i r15.1)]) (M' := uW M 12 r15.2) (by rw [er15]; exact mc_X12_goesWell l D ta ad (uW M 12 (M 12)) v11) cv_X12_181 rfl rfl rfl vi_12_0 ⟨Nat.le_of_ble_eq_true rfl, Nat.le_of_ble_eq_true rfl⟩ ⟨Nat.le_refl _, Nat.le_refl _⟩ (by simp [Value.category]) rfl rfl (by exact uW_uW _ _ _ _) dX12_order_67 rfl ?_
      have qr150 : r15.1 = true → v11 = 0 := (fun hq => goesWell_t ((congrArg Prod.fst er15).symm.trans hq))
      refine mw_ifb_ne cx (tgt := 75) (q := 73) dX12_order_70 (by decide) rfl (fun h16 => ?_) (fun h16 => ?_)
      · refine mw_aload_n cx (q := 76) 0 rfl rfl dX12_order_75 rfl ?_
        refine mw_iload_n cx (q := 77) 1 rfl rfl dX12_order_76 rfl ?_
        refine mw_iload_n cx (q := 78) 2 rfl rfl dX12_order_77 rfl ?_
        refine mw_aload_n cx (q := 79) 0 rfl rfl dX12_order_78 rfl ?_
        refine mw_get cx (q := 82) (v := .int (r15.2 0 0 10)) gf_X12_349 rfl rfl vi_12_0 dX12_order_79 rfl ?_
        refine mw_iload_n cx (q := 83) 3 rfl rfl dX12_order_82 rfl ?_
        refine mw_iadd cx (q := 84) dX12_order_83 rfl ?_
        refine mw_iload cx (q := 86) 4 rfl dX12_order_84 rfl ?_
        refine mw_bnd (fun r17 er17 => ?_)
        refine mw_callV cx (q := 89) (d := 0) (As := [.int p1, .int p2, .int ((r15.2 0 0 10) + p3), .int p4]) (z := fic (uW M 12 r15.2) 12 r17) (st := []) (st1 := [.int r17.1]) (M' := uW M 12 r17.2) (by rw [er17]; exact mc_X12_makeOrder l D ta ad (uW M 12 r15.2) p1 p2 ((r15.2 0 0 10) + p3) p4 (by rw [er15, goesWell_m]; exact ok12_put0 hok (by decide)) (by rw [er15, goesWell_m]; have h1 := hok.o1; have hn := (jv11_0 (qr150 h16)).2.2; show ((M 12) 0 0 11).toInt < 60; simp only [i32eq, t32_60] at hn; omega)) cv_X12_355 rfl rfl rfl vi_12_0 ⟨Nat.le_of_ble_eq_true rfl, Nat.le_of_ble_eq_true rfl⟩ ⟨Nat.le_refl _, Nat.le_refl _⟩ (by simp [Value.category]) rfl rfl (by exact uW_uW _ _ _ _) dX12_order_86 rfl ?_
        exact mw_iret cx hr rfl dX12_order_89
      · refine mw_iconst cx (q := 74) (v := 0) dX12_order_73 rfl rfl ?_
        exact mw_iret cx hr rfl dX12_order_74
    · refine mw_ifb_ne cx (tgt := 53) (q := 49) dX12_order_46 (by decide) rfl (fun h13 => ?_) (fun h13 => ?_)
      · refine mw_aload_n cx (q := 54) 1 rfl rfl dX12_order_53 rfl ?_
        refine mw_get cx (q := 57) (v := .int ((M 12) 0 0 11)) gf_X12_352 rfl rfl vi_12_0 dX12_order_54 rfl ?_
        refine mw_bipush cx (q := 59) (v := 60) dX12_order_57 rfl rfl ?_
        refine mw_icmp_ne cx (tgt := 66) (q := 62) dX12_order_59 (by decide) rfl (fun h14 => ?_) (fun h14 => ?_)
        · refine mw_iconst cx (q := 67) (v := 0) dX12_order_66 rfl rfl ?_
          refine mw_sub [1, 2, 3, 4, 5] rfl ?_
          exact hK12 0 (by intro hz; first | exact absurd hz (by decide) | exact ⟨(jv2_0 h13).1, (jv2_0 h13).2, h14⟩)
        · refine mw_iconst cx (q := 63) (v := 2) dX12_order_62 rfl rfl ?_
          refine mw_goto cx (tgt := 67) dX12_order_63 (by decide) ?_
          refine mw_sub [1, 2, 3, 4, 5] rfl ?_
          exact hK12 2 (by intro hz; first | exact absurd hz (by decide) | exact ⟨(jv2_0 h13).1, (jv2_0 h13).2, (by (try simp only [vp_in_iff, i32lt, i32le, i32eq, i32add, i32sub, i32mul, i32neg, t32_0, t32_11, t32_60] at h14 ⊢); omega)⟩)
      · refine mw_iconst cx (q := 50) (v := 1) dX12_order_49 rfl rfl ?_
        refine mw_goto cx (tgt := 67) dX12_order_50 (by decide) ?_
        refine mw_sub [1, 2, 3, 4, 5] rfl ?_
        exact hK12 1 (by intro hz; first | exact absurd hz (by decide) | exact ⟨(by (try simp only [vp_in_iff, i32lt, i32le, i32eq, i32add, i32sub, i32mul, i32neg, t32_4, t32_8] at qr10 jv2_0 h13 ⊢); omega), (by (try simp only [vp_in_iff, i32lt, i32le, i32eq, i32add, i32sub, i32mul, i32neg, t32_4, t32_8] at jv2_0 h13 qr10 ⊢); omega), (by (try simp only [vp_in_iff, i32lt, i32le, i32eq, i32add, i32sub, i32mul, i32neg, t32_0, t32_11, t32_60]); omega)⟩)
  · refine mw_ifb_eq cx (tgt := 40) (q := 7) dX12_order_4 (by decide) rfl (fun h4 => ?_) (fun h4 => ?_)
    · refine mw_iconst cx (q := 41) (v := 0) dX12_order_40 rfl rfl ?_
      exact hK3 false (by intro hz; first | exact absurd hz (by decide) | exact ⟨(by (try simp only [vp_in_iff, i32lt, i32le, i32eq, i32add, i32sub, i32mul, i32neg, t32_4] at qr10 h4 hz ⊢); omega), (by (try simp only [vp_in_iff, i32lt, i32le, i32eq, i32add, i32sub, i32mul, i32neg, t32_8]); omega)⟩)
    · refine mw_iload_n cx (q := 8) 2 rfl rfl dX12_order_7 rfl ?_
      refine mw_bnd (fun r5 er5 => ?_)
      refine mw_callS cx (q := 11) (d := 1) (As := [.int p2]) (z := fzp (uW M 12 (M 12)) r5) (st := []) (st1 := [.int (b2i r5)]) (M' := (uW M 12 (M 12))) (by rw [er5]; exact mc_X12_isScript l D ta ad (uW M 12 (M 12)) p2) cv_X12_178 ⟨Nat.le_of_ble_eq_true rfl, Nat.le_of_ble_eq_true rfl⟩ ⟨Nat.le_refl _, Nat.le_refl _⟩ (by simp [Value.category]) rfl rfl rfl dX12_order_8 rfl ?_
      have qr50 : r5 = true → vp_in p2 8 := (fun hq => isScript_t (er5.symm.trans hq))
      refine mw_ifb_eq cx (tgt := 40) (q := 14) dX12_order_11 (by decide) rfl (fun h6 => ?_) (fun h6 => ?_)
      · refine mw_iconst cx (q := 41) (v := 0) dX12_order_40 rfl rfl ?_
        exact hK3 false (by intro hz; first | exact absurd hz (by decide) | exact ⟨(qr10 h4), (by (try simp only [vp_in_iff, i32lt, i32le, i32eq, i32add, i32sub, i32mul, i32neg, t32_4, t32_8] at qr50 h6 hz qr10 h4 ⊢); omega)⟩)
      · refine mw_iload_n cx (q := 15) 3 rfl rfl dX12_order_14 rfl ?_
        refine mw_iconst cx (q := 16) (v := 1) dX12_order_15 rfl rfl ?_
        refine mw_bipush cx (q := 18) (v := 100) dX12_order_16 rfl rfl ?_
        refine mw_bnd (fun r7 er7 => ?_)
        refine mw_callS cx (q := 21) (d := 0) (As := [.int p3, .int 1, .int 100]) (z := fzp (uW M 12 (M 12)) r7) (st := []) (st1 := [.int (b2i r7)]) (M' := (uW M 12 (M 12))) (by rw [er7]; exact mc_X12_in l D ta ad (uW M 12 (M 12)) p3 1 100) cv_X12_167 ⟨Nat.le_of_ble_eq_true rfl, Nat.le_of_ble_eq_true rfl⟩ ⟨Nat.le_refl _, Nat.le_refl _⟩ (by simp [Value.category]) rfl rfl rfl dX12_order_18 rfl ?_
        have qr70 : r7 = true → 1 ≤ p3.toInt ∧ p3.toInt ≤ 100 := (fun hq => in_i (er7.symm.trans hq))
        refine mw_ifb_eq cx (tgt := 40) (q := 24) dX12_order_21 (by decide) rfl (fun h8 => ?_) (fun h8 => ?_)
        · refine mw_iconst cx (q := 41) (v := 0) dX12_order_40 rfl rfl ?_
          exact hK3 false (by intro hz; first | exact absurd hz (by decide) | exact ⟨(qr10 h4), (qr50 h6)⟩)
        · refine mw_iload cx (q := 26) 4 rfl dX12_order_24 rfl ?_
          refine mw_iconst cx (q := 27) (v := 1) dX12_order_26 rfl rfl ?_
          refine mw_sipush cx (q := 30) (v := 1000) dX12_order_27 rfl rfl ?_
          refine mw_bnd (fun r9 er9 => ?_)
          refine mw_callS cx (q := 33) (d := 0) (As := [.int p4, .int 1, .int 1000]) (z := fzp (uW M 12 (M 12)) r9) (st := []) (st1 := [.int (b2i r9)]) (M' := (uW M 12 (M 12))) (by rw [er9]; exact mc_X12_in l D ta ad (uW M 12 (M 12)) p4 1 1000) cv_X12_167 ⟨Nat.le_of_ble_eq_true rfl, Nat.le_of_ble_eq_true rfl⟩ ⟨Nat.le_refl _, Nat.le_refl _⟩ (by simp [Value.category]) rfl rfl rfl dX12_order_30 rfl ?_
          have qr90 : r9 = true → 1 ≤ p4.toInt ∧ p4.toInt ≤ 1000 := (fun hq => in_i (er9.symm.trans hq))
          refine mw_ifb_eq cx (tgt := 40) (q := 36) dX12_order_33 (by decide) rfl (fun h10 => ?_) (fun h10 => ?_)
          · refine mw_iconst cx (q := 41) (v := 0) dX12_order_40 rfl rfl ?_
            exact hK3 false (by intro hz; first | exact absurd hz (by decide) | exact ⟨(qr10 h4), (qr50 h6)⟩)
          · refine mw_iconst cx (q := 37) (v := 1) dX12_order_36 rfl rfl ?_
            refine mw_goto cx (tgt := 41) dX12_order_37 (by decide) ?_
            exact hK3 true (by intro hz; first | exact absurd hz (by decide) | exact ⟨(qr10 h4), (qr50 h6)⟩)
def f12_buy (m : Cm) (p1 : Int32) (p2 : Int32) : (Int32 × Cm) := bnd (f12_isCompany p1) (fun (r1 : Bool) => jn (fun (v2 : Bool) => jn (fun (v6 : Int32) => bnd (f12_goesWell m v6) (fun (r10 : Bool × Cm) => if r10.1 = true then bnd (f12_buyFuel r10.2 p1 p2) (fun (r12 : Int32 × Cm) => (r12.1, r12.2)) else (0, r10.2))) (fun K7 => if v2 = true then if p2 ≤ (m 5 0 p1) then K7 0 else K7 2 else K7 1)) (fun K3 => if r1 = true then if p2 < 1 then K3 false else K3 true else K3 false))
set_option maxHeartbeats 4000000 in
set_option maxRecDepth 100000 in
theorem mc_X12_buy (l : Launch) (D : va_G) (ta : wTa) (ad : wAd) (M : Wm) (p1 : Int32) (p2 : Int32) (hok : Ok12 (M 12)) : MC l D ta ad yX12_buy cX12_buy 4 (some .int) 2 [.ref (ad 12 0 0), .int p1, .int p2] M (fic M 12 (f12_buy (M 12) p1 p2)) := by
  refine MC.of (fic M 12) (f12_buy (M 12) p1 p2) rfl (by decide) (Nat.le_of_ble_eq_true rfl) (fun p e s m args below meth c cx hr => ?_)
  unfold f12_buy
  refine mw_sub (lv' := [(0, .ref (ad 12 0 0)), (1, .int p1), (2, .int p2)]) [0, 1, 2] rfl ?_
  refine mw_eqM (uW_self M 12) ?_
  refine mw_iload_n cx (q := 1) 1 rfl rfl dX12_buy_0 rfl ?_
  refine mw_bnd (fun r1 er1 => ?_)
  refine mw_callS cx (q := 4) (d := 1) (As := [.int p1]) (z := fzp (uW M 12 (M 12)) r1) (st := []) (st1 := [.int (b2i r1)]) (M' := (uW M 12 (M 12))) (by rw [er1]; exact mc_X12_isCompany l D ta ad (uW M 12 (M 12)) p1) cv_X12_339 ⟨Nat.le_of_ble_eq_true rfl, Nat.le_of_ble_eq_true rfl⟩ ⟨Nat.le_refl _, Nat.le_refl _⟩ (by simp [Value.category]) rfl rfl rfl dX12_buy_1 rfl ?_
  have qr10 : r1 = true → vp_in p1 4 := (fun hq => isCompany_t (er1.symm.trans hq))
  refine mw_jnP (P := fun (v2 : Bool) => (v2 = true → vp_in p1 4)) (Mj := fun (v2 : Bool) => (uW M 12 (M 12))) (pj := 17) (lj := fun (v2 : Bool) => [(0, .ref (ad 12 0 0)), (1, .int p1), (2, .int p2)]) (sj := fun (v2 : Bool) => [.int (b2i v2)]) (fun v2 jv2 => ?_) (fun K3 hK3 => ?_)
  · have jv2_0 := jv2
    refine mw_istore_n cx (q := 18) (lv' := [(3, .int (b2i v2)), (0, .ref (ad 12 0 0)), (1, .int p1), (2, .int p2)]) rfl rfl (by decide) dX12_buy_17 rfl ?_
    refine mw_aload_n cx (q := 19) 1 rfl rfl dX12_buy_18 rfl ?_
    refine mw_iload_n cx (q := 20) 0 rfl rfl dX12_buy_19 rfl ?_
    refine mw_jnP (P := fun (v6 : Int32) => (v6 = 0 → vp_in p1 4)) (Mj := fun (v6 : Int32) => (uW M 12 (M 12))) (pj := 42) (lj := fun (v6 : Int32) => [(0, .ref (ad 12 0 0)), (1, .int p1), (2, .int p2)]) (sj := fun (v6 : Int32) => [.int v6, .ref (ad 12 0 0)]) (fun v6 jv6 => ?_) (fun K7 hK7 => ?_)
    · have jv6_0 := jv6
      refine mw_bnd (fun r10 er10 => ?_)
      refine mw_callV cx (q := 45) (d := 0) (As := [.int v6]) (z := fzc (uW M 12 (M 12)) 12 r10) (st := []) (st1 := [.int (b2i r10.1)]) (M' := uW M 12 r10.2) (by rw [er10]; exact mc_X12_goesWell l D ta ad (uW M 12 (M 12)) v6) cv_X12_181 rfl rfl rfl vi_12_0 ⟨Nat.le_of_ble_eq_true rfl, Nat.le_of_ble_eq_true rfl⟩ ⟨Nat.le_refl _, Nat.le_refl _⟩ (by simp [Value.category]) rfl rfl (by exact uW_uW _ _ _ _) dX12_buy_42 rfl ?_
      have qr100 : r10.1 = true → v6 = 0 := (fun hq => goesWell_t ((congrArg Prod.fst er10).symm.trans hq))
      refine mw_ifb_ne cx (tgt := 50) (q := 48) dX12_buy_45 (by decide) rfl (fun h11 => ?_) (fun h11 => ?_)
      · refine mw_aload_n cx (q := 51) 0 rfl rfl dX12_buy_50 rfl ?_
        refine mw_iload_n cx (q := 52) 1 rfl rfl dX12_buy_51 rfl ?_
        refine mw_iload_n cx (q := 53) 2 rfl rfl dX12_buy_52 rfl ?_
        refine mw_bnd (fun r12 er12 => ?_)
        refine mw_callV cx (q := 56) (d := 0) (As := [.int p1, .int p2]) (z := fic (uW M 12 r10.2) 12 r12) (st := []) (st1 := [.int r12.1]) (M' := uW M 12 r12.2) (by rw [er12]; exact mc_X12_buyFuel l D ta ad (uW M 12 r10.2) p1 p2 (jv6_0 (qr100 h11))) cv_X12_226 rfl rfl rfl vi_12_0 ⟨Nat.le_of_ble_eq_true rfl, Nat.le_of_ble_eq_true rfl⟩ ⟨Nat.le_refl _, Nat.le_refl _⟩ (by simp [Value.category]) rfl rfl (by exact uW_uW _ _ _ _) dX12_buy_53 rfl ?_
        exact mw_iret cx hr rfl dX12_buy_56
      · refine mw_iconst cx (q := 49) (v := 0) dX12_buy_48 rfl rfl ?_
        exact mw_iret cx hr rfl dX12_buy_49
    · refine mw_ifb_ne cx (tgt := 27) (q := 23) dX12_buy_20 (by decide) rfl (fun h8 => ?_) (fun h8 => ?_)
      · refine mw_aload_n cx (q := 28) 1 rfl rfl dX12_buy_27 rfl ?_
        refine mw_get cx (q := 31) (v := .ref (ad 12 5 0)) gf_X12_19 rfl rfl vi_12_0 dX12_buy_28 rfl ?_
        refine mw_iload_n cx (q := 32) 2 rfl rfl dX12_buy_31 rfl ?_
        refine mw_iald cx (q := 33) (w := ((M 12) 5 0 p1)) rfl (fun _ => rfl) vi_12_5 (jv2_0 h8) dX12_buy_32 rfl ?_
        refine mw_iload_n cx (q := 34) 3 rfl rfl dX12_buy_33 rfl ?_
        refine mw_icmp_ge cx (tgt := 41) (q := 37) dX12_buy_34 (by decide) rfl (fun h9 => ?_) (fun h9 => ?_)
        · refine mw_iconst cx (q := 42) (v := 0) dX12_buy_41 rfl rfl ?_
          refine mw_sub [1, 2, 3] rfl ?_
          exact hK7 0 (by intro hz; first | exact absurd hz (by decide) | exact (jv2_0 h8))
        · refine mw_iconst cx (q := 38) (v := 2) dX12_buy_37 rfl rfl ?_
          refine mw_goto cx (tgt := 42) dX12_buy_38 (by decide) ?_
          refine mw_sub [1, 2, 3] rfl ?_
          exact hK7 2 (by intro hz; first | exact absurd hz (by decide) | exact (jv2_0 h8))
      · refine mw_iconst cx (q := 24) (v := 1) dX12_buy_23 rfl rfl ?_
        refine mw_goto cx (tgt := 42) dX12_buy_24 (by decide) ?_
        refine mw_sub [1, 2, 3] rfl ?_
        exact hK7 1 (by intro hz; first | exact absurd hz (by decide) | exact (by (try simp only [vp_in_iff, i32lt, i32le, i32eq, i32add, i32sub, i32mul, i32neg, t32_4] at qr10 jv2_0 h8 ⊢); omega))
  · refine mw_ifb_eq cx (tgt := 16) (q := 7) dX12_buy_4 (by decide) rfl (fun h4 => ?_) (fun h4 => ?_)
    · refine mw_iconst cx (q := 17) (v := 0) dX12_buy_16 rfl rfl ?_
      exact hK3 false (by intro hz; first | exact absurd hz (by decide) | exact (by (try simp only [vp_in_iff, i32lt, i32le, i32eq, i32add, i32sub, i32mul, i32neg, t32_4] at qr10 h4 hz ⊢); omega))
    · refine mw_iload_n cx (q := 8) 2 rfl rfl dX12_buy_7 rfl ?_
      refine mw_iconst cx (q := 9) (v := 1) dX12_buy_8 rfl rfl ?_
      refine mw_icmp_lt cx (tgt := 16) (q := 12) dX12_buy_9 (by decide) rfl (fun h5 => ?_) (fun h5 => ?_)
      · refine mw_iconst cx (q := 17) (v := 0) dX12_buy_16 rfl rfl ?_
        exact hK3 false (by intro hz; first | exact absurd hz (by decide) | exact (qr10 h4))
      · refine mw_iconst cx (q := 13) (v := 1) dX12_buy_12 rfl rfl ?_
        refine mw_goto cx (tgt := 17) dX12_buy_13 (by decide) ?_
        exact hK3 true (by intro hz; first | exact absurd hz (by decide) | exact (qr10 h4))
def f12_takesFuel (m : Cm) : (Bool × Cm) := if (m 0 0 58) = (m 16 0 (m 0 0 56)) then (false, m) else jn (fun (v2 : Cm) => if (v2 6 0 (v2 0 0 57)) ≤ 0 then bnd (f12_lenderOf v2 (v2 0 0 57)) (fun (r10 : Int32) => if r10 = (-1) then (false, v2) else bnd (u3 v2 6 0 r10 ((v2 6 0 r10) - 1)) (fun (m12 : Cm) => bnd (u3 m12 7 0 ((4 * (v2 0 0 57)) + r10) ((v2 7 0 ((4 * (v2 0 0 57)) + r10)) + 1)) (fun (m14 : Cm) => bnd (u3 m14 0 0 58 ((v2 0 0 58) + 1)) (fun (m16 : Cm) => bnd (u3 m16 21 0 (v2 0 0 56) ((v2 21 0 (v2 0 0 56)) + 1)) (fun (m18 : Cm) => (true, m18)))))) else bnd (u3 v2 6 0 (v2 0 0 57) ((v2 6 0 (v2 0 0 57)) - 1)) (fun (m20 : Cm) => bnd (u3 m20 0 0 58 ((v2 0 0 58) + 1)) (fun (m22 : Cm) => bnd (u3 m22 21 0 (v2 0 0 56) ((v2 21 0 (v2 0 0 56)) + 1)) (fun (m24 : Cm) => (true, m24))))) (fun K3 => if (m 6 0 (m 0 0 57)) = 0 then if (m 9 0 (m 0 0 57)) = 0 then K3 m else if (m 5 0 (m 0 0 57)) ≤ 0 then K3 m else bnd (f12_buyFuel m (m 0 0 57) 1) (fun (r7 : Int32 × Cm) => K3 r7.2) else K3 m)
set_option maxHeartbeats 4000000 in
set_option maxRecDepth 100000 in
theorem mc_X12_takesFuel (l : Launch) (D : va_G) (ta : wTa) (ad : wAd) (M : Wm) (hok : Ok12 (M 12)) : MC l D ta ad yX12_takesFuel cX12_takesFuel 2 (some .boolean) 1 [.ref (ad 12 0 0)] M (fzc M 12 (f12_takesFuel (M 12))) := by
  refine MC.of (fzc M 12) (f12_takesFuel (M 12)) rfl (by decide) (Nat.le_of_ble_eq_true rfl) (fun p e s m args below meth c cx hr => ?_)
  unfold f12_takesFuel
  refine mw_sub (lv' := [(0, .ref (ad 12 0 0))]) [0] rfl ?_
  refine mw_eqM (uW_self M 12) ?_
  have ok0 : OkT (M 12) (M 12) := ⟨hok, rfl, rfl⟩
  refine mw_aload_n cx (q := 1) 0 rfl rfl dX12_takesFuel_0 rfl ?_
  refine mw_get cx (q := 4) (v := .int ((M 12) 0 0 58)) gf_X12_217 rfl rfl vi_12_0 dX12_takesFuel_1 rfl ?_
  refine mw_aload_n cx (q := 5) 0 rfl rfl dX12_takesFuel_4 rfl ?_
  refine mw_get cx (q := 8) (v := .ref (ad 12 16 0)) gf_X12_48 rfl rfl vi_12_0 dX12_takesFuel_5 rfl ?_
  refine mw_aload_n cx (q := 9) 0 rfl rfl dX12_takesFuel_8 rfl ?_
  refine mw_get cx (q := 12) (v := .int ((M 12) 0 0 56)) gf_X12_220 rfl rfl vi_12_0 dX12_takesFuel_9 rfl ?_
  refine mw_iald cx (q := 13) (w := ((M 12) 16 0 ((M 12) 0 0 56))) rfl (fun _ => rfl) vi_12_16 (ok0.1.ord) dX12_takesFuel_12 rfl ?_
  refine mw_icmp_ne cx (tgt := 18) (q := 16) dX12_takesFuel_13 (by decide) rfl (fun h1 => ?_) (fun h1 => ?_)
  · refine mw_aload_n cx (q := 19) 0 rfl rfl dX12_takesFuel_18 rfl ?_
    refine mw_get cx (q := 22) (v := .ref (ad 12 6 0)) gf_X12_22 rfl rfl vi_12_0 dX12_takesFuel_19 rfl ?_
    refine mw_aload_n cx (q := 23) 0 rfl rfl dX12_takesFuel_22 rfl ?_
    refine mw_get cx (q := 26) (v := .int ((M 12) 0 0 57)) gf_X12_223 rfl rfl vi_12_0 dX12_takesFuel_23 rfl ?_
    refine mw_iald cx (q := 27) (w := ((M 12) 6 0 ((M 12) 0 0 57))) rfl (fun _ => rfl) vi_12_6 (ok0.1.cmp) dX12_takesFuel_26 rfl ?_
    refine mw_jnP (P := fun (v2 : Cm) => (OkT (M 12) v2)) (Mj := fun (v2 : Cm) => (uW M 12 v2)) (pj := 64) (lj := fun (v2 : Cm) => [(0, .ref (ad 12 0 0))]) (sj := fun (v2 : Cm) => []) (fun v2 jv2 => ?_) (fun K3 hK3 => ?_)
    · have jv2_0 := jv2
      refine mw_aload_n cx (q := 65) 0 rfl rfl dX12_takesFuel_64 rfl ?_
      refine mw_get cx (q := 68) (v := .ref (ad 12 6 0)) gf_X12_22 rfl rfl vi_12_0 dX12_takesFuel_65 rfl ?_
      refine mw_aload_n cx (q := 69) 0 rfl rfl dX12_takesFuel_68 rfl ?_
      refine mw_get cx (q := 72) (v := .int (v2 0 0 57)) gf_X12_223 rfl rfl vi_12_0 dX12_takesFuel_69 rfl ?_
      refine mw_iald cx (q := 73) (w := (v2 6 0 (v2 0 0 57))) rfl (fun _ => rfl) vi_12_6 (jv2_0.1.cmp) dX12_takesFuel_72 rfl ?_
      refine mw_if_le cx (tgt := 92) (q := 76) dX12_takesFuel_73 (by decide) rfl (fun h9 => ?_) (fun h9 => ?_)
      · refine mw_aload_n cx (q := 93) 0 rfl rfl dX12_takesFuel_92 rfl ?_
        refine mw_aload_n cx (q := 94) 0 rfl rfl dX12_takesFuel_93 rfl ?_
        refine mw_get cx (q := 97) (v := .int (v2 0 0 57)) gf_X12_223 rfl rfl vi_12_0 dX12_takesFuel_94 rfl ?_
        refine mw_bnd (fun r10 er10 => ?_)
        refine mw_callV cx (q := 100) (d := 0) (As := [.int (v2 0 0 57)]) (z := fip (uW M 12 v2) r10) (st := []) (st1 := [.int r10]) (M' := (uW M 12 v2)) (by rw [er10]; exact mc_X12_lenderOf l D ta ad (uW M 12 v2) (v2 0 0 57) (jv2_0.1.cmp)) cv_X12_229 rfl rfl rfl vi_12_0 ⟨Nat.le_of_ble_eq_true rfl, Nat.le_of_ble_eq_true rfl⟩ ⟨Nat.le_refl _, Nat.le_refl _⟩ (by simp [Value.category]) rfl rfl rfl dX12_takesFuel_97 rfl ?_
        have qr100 : ¬ r10 = (-1) → vp_in r10 4 := (by rw [er10]; exact lenderOf_in)
        refine mw_istore_n cx (q := 101) (lv' := [(1, .int r10), (0, .ref (ad 12 0 0))]) rfl rfl (by decide) dX12_takesFuel_100 rfl ?_
        refine mw_iload_n cx (q := 102) 0 rfl rfl dX12_takesFuel_101 rfl ?_
        refine mw_iconst cx (q := 103) (v := (-1)) dX12_takesFuel_102 rfl rfl ?_
        refine mw_icmp_ne cx (tgt := 108) (q := 106) dX12_takesFuel_103 (by decide) rfl (fun h11 => ?_) (fun h11 => ?_)
        · refine mw_aload_n cx (q := 109) 1 rfl rfl dX12_takesFuel_108 rfl ?_
          refine mw_get cx (q := 112) (v := .ref (ad 12 6 0)) gf_X12_22 rfl rfl vi_12_0 dX12_takesFuel_109 rfl ?_
          refine mw_iload_n cx (q := 113) 0 rfl rfl dX12_takesFuel_112 rfl ?_
          refine mw_dup2 cx (q := 114) dX12_takesFuel_113 rfl rfl rfl ?_
          refine mw_iald cx (q := 115) (w := (v2 6 0 r10)) rfl (fun _ => rfl) vi_12_6 (qr100 h11) dX12_takesFuel_114 rfl ?_
          refine mw_iconst cx (q := 116) (v := 1) dX12_takesFuel_115 rfl rfl ?_
          refine mw_isub cx (q := 117) dX12_takesFuel_116 rfl ?_
          refine mw_iastC cx (q := 118) (fun _ => rfl) (by decide) vi_12_6 (qr100 h11) (by decide) dX12_takesFuel_117 rfl (fun m12 em12 => ?_)
          have ok13 : OkT (M 12) m12 := (by rw [em12]; exact okT_putA jv2_0 (by decide))
          refine mw_aload_n cx (q := 119) 1 rfl rfl dX12_takesFuel_118 rfl ?_
          refine mw_get cx (q := 122) (v := .ref (ad 12 7 0)) gf_X12_25 rfl rfl vi_12_0 dX12_takesFuel_119 rfl ?_
          refine mw_iconst cx (q := 123) (v := 4) dX12_takesFuel_122 rfl rfl ?_
          refine mw_aload_n cx (q := 124) 1 rfl rfl dX12_takesFuel_123 rfl ?_
          refine mw_get cx (q := 127) (v := .int (v2 0 0 57)) gf_X12_223 rfl (by rw [em12]; rfl) vi_12_0 dX12_takesFuel_124 rfl ?_
          refine mw_imul cx (q := 128) dX12_takesFuel_127 rfl ?_
          refine mw_iload_n cx (q := 129) 0 rfl rfl dX12_takesFuel_128 rfl ?_
          refine mw_iadd cx (q := 130) dX12_takesFuel_129 rfl ?_
          refine mw_dup2 cx (q := 131) dX12_takesFuel_130 rfl rfl rfl ?_
          refine mw_iald cx (q := 132) (w := (v2 7 0 ((4 * (v2 0 0 57)) + r10))) (by rw [em12]; rfl) (fun _ => rfl) vi_12_7 (idx4_16 (jv2_0.1.cmp) (qr100 h11)) dX12_takesFuel_131 rfl ?_
          refine mw_iconst cx (q := 133) (v := 1) dX12_takesFuel_132 rfl rfl ?_
          refine mw_iadd cx (q := 134) dX12_takesFuel_133 rfl ?_
          refine mw_iastC cx (q := 135) (fun _ => rfl) (by decide) vi_12_7 (idx4_16 (jv2_0.1.cmp) (qr100 h11)) (by decide) dX12_takesFuel_134 rfl (fun m14 em14 => ?_)
          have ok15 : OkT (M 12) m14 := (by rw [em14]; exact okT_putA ok13 (by decide))
          refine mw_aload_n cx (q := 136) 1 rfl rfl dX12_takesFuel_135 rfl ?_
          refine mw_dup cx (q := 137) dX12_takesFuel_136 rfl rfl ?_
          refine mw_get cx (q := 140) (v := .int (v2 0 0 58)) gf_X12_217 rfl (by rw [em14, em12]; rfl) vi_12_0 dX12_takesFuel_137 rfl ?_
          refine mw_iconst cx (q := 141) (v := 1) dX12_takesFuel_140 rfl rfl ?_
          refine mw_iadd cx (q := 142) dX12_takesFuel_141 rfl ?_
          refine mw_putC cx (q := 145) 58 gf_X12_217 pf_X12_58 (int_fit _) rfl (Nat.le_of_ble_eq_true rfl) rfl vi_12_0 (by decide) dX12_takesFuel_142 rfl (fun m16 em16 => ?_)
          have ok17 : OkT (M 12) m16 := (by rw [em16]; exact okT_put0 ok15 (by decide))
          refine mw_aload_n cx (q := 146) 1 rfl rfl dX12_takesFuel_145 rfl ?_
          refine mw_get cx (q := 149) (v := .ref (ad 12 21 0)) gf_X12_63 rfl rfl vi_12_0 dX12_takesFuel_146 rfl ?_
          refine mw_aload_n cx (q := 150) 1 rfl rfl dX12_takesFuel_149 rfl ?_
          refine mw_get cx (q := 153) (v := .int (v2 0 0 56)) gf_X12_220 rfl (by rw [em16, em14, em12]; rfl) vi_12_0 dX12_takesFuel_150 rfl ?_
          refine mw_dup2 cx (q := 154) dX12_takesFuel_153 rfl rfl rfl ?_
          refine mw_iald cx (q := 155) (w := (v2 21 0 (v2 0 0 56))) (by rw [em16, em14, em12]; rfl) (fun _ => rfl) vi_12_21 (jv2_0.1.ord) dX12_takesFuel_154 rfl ?_
          refine mw_iconst cx (q := 156) (v := 1) dX12_takesFuel_155 rfl rfl ?_
          refine mw_iadd cx (q := 157) dX12_takesFuel_156 rfl ?_
          refine mw_iastC cx (q := 158) (fun _ => rfl) (by decide) vi_12_21 (jv2_0.1.ord) (by decide) dX12_takesFuel_157 rfl (fun m18 em18 => ?_)
          have ok19 : OkT (M 12) m18 := (by rw [em18]; exact okT_putA ok17 (by decide))
          refine mw_iconst cx (q := 159) (v := 1) dX12_takesFuel_158 rfl rfl ?_
          exact mw_zret cx hr rfl rfl dX12_takesFuel_159
        · refine mw_iconst cx (q := 107) (v := 0) dX12_takesFuel_106 rfl rfl ?_
          exact mw_zret cx hr rfl rfl dX12_takesFuel_107
      · refine mw_aload_n cx (q := 77) 0 rfl rfl dX12_takesFuel_76 rfl ?_
        refine mw_get cx (q := 80) (v := .ref (ad 12 6 0)) gf_X12_22 rfl rfl vi_12_0 dX12_takesFuel_77 rfl ?_
        refine mw_aload_n cx (q := 81) 0 rfl rfl dX12_takesFuel_80 rfl ?_
        refine mw_get cx (q := 84) (v := .int (v2 0 0 57)) gf_X12_223 rfl rfl vi_12_0 dX12_takesFuel_81 rfl ?_
        refine mw_dup2 cx (q := 85) dX12_takesFuel_84 rfl rfl rfl ?_
        refine mw_iald cx (q := 86) (w := (v2 6 0 (v2 0 0 57))) rfl (fun _ => rfl) vi_12_6 (jv2_0.1.cmp) dX12_takesFuel_85 rfl ?_
        refine mw_iconst cx (q := 87) (v := 1) dX12_takesFuel_86 rfl rfl ?_
        refine mw_isub cx (q := 88) dX12_takesFuel_87 rfl ?_
        refine mw_iastC cx (q := 89) (fun _ => rfl) (by decide) vi_12_6 (jv2_0.1.cmp) (by decide) dX12_takesFuel_88 rfl (fun m20 em20 => ?_)
        have ok21 : OkT (M 12) m20 := (by rw [em20]; exact okT_putA jv2_0 (by decide))
        refine mw_goto cx (tgt := 135) dX12_takesFuel_89 (by decide) ?_
        refine mw_aload_n cx (q := 136) 0 rfl rfl dX12_takesFuel_135 rfl ?_
        refine mw_dup cx (q := 137) dX12_takesFuel_136 rfl rfl ?_
        refine mw_get cx (q := 140) (v := .int (v2 0 0 58)) gf_X12_217 rfl (by rw [em20]; rfl) vi_12_0 dX12_takesFuel_137 rfl ?_
        refine mw_iconst cx (q := 141) (v := 1) dX12_takesFuel_140 rfl rfl ?_
        refine mw_iadd cx (q := 142) dX12_takesFuel_141 rfl ?_
        refine mw_putC cx (q := 145) 58 gf_X12_217 pf_X12_58 (int_fit _) rfl (Nat.le_of_ble_eq_true rfl) rfl vi_12_0 (by decide) dX12_takesFuel_142 rfl (fun m22 em22 => ?_)
        have ok23 : OkT (M 12) m22 := (by rw [em22]; exact okT_put0 ok21 (by decide))
        refine mw_aload_n cx (q := 146) 0 rfl rfl dX12_takesFuel_145 rfl ?_
        refine mw_get cx (q := 149) (v := .ref (ad 12 21 0)) gf_X12_63 rfl rfl vi_12_0 dX12_takesFuel_146 rfl ?_
        refine mw_aload_n cx (q := 150) 0 rfl rfl dX12_takesFuel_149 rfl ?_
        refine mw_get cx (q := 153) (v := .int (v2 0 0 56)) gf_X12_220 rfl (by rw [em22, em20]; rfl) vi_12_0 dX12_takesFuel_150 rfl ?_
        refine mw_dup2 cx (q := 154) dX12_takesFuel_153 rfl rfl rfl ?_
        refine mw_iald cx (q := 155) (w := (v2 21 0 (v2 0 0 56))) (by rw [em22, em20]; rfl) (fun _ => rfl) vi_12_21 (jv2_0.1.ord) dX12_takesFuel_154 rfl ?_
        refine mw_iconst cx (q := 156) (v := 1) dX12_takesFuel_155 rfl rfl ?_
        refine mw_iadd cx (q := 157) dX12_takesFuel_156 rfl ?_
        refine mw_iastC cx (q := 158) (fun _ => rfl) (by decide) vi_12_21 (jv2_0.1.ord) (by decide) dX12_takesFuel_157 rfl (fun m24 em24 => ?_)
        have ok25 : OkT (M 12) m24 := (by rw [em24]; exact okT_putA ok23 (by decide))
        refine mw_iconst cx (q := 159) (v := 1) dX12_takesFuel_158 rfl rfl ?_
        exact mw_zret cx hr rfl rfl dX12_takesFuel_159
    · refine mw_if_ne cx (tgt := 64) (q := 30) dX12_takesFuel_27 (by decide) rfl (fun h4 => ?_) (fun h4 => ?_)
      · exact hK3 (M 12) ok0
      · refine mw_aload_n cx (q := 31) 0 rfl rfl dX12_takesFuel_30 rfl ?_
        refine mw_get cx (q := 34) (v := .ref (ad 12 9 0)) gf_X12_31 rfl rfl vi_12_0 dX12_takesFuel_31 rfl ?_
        refine mw_aload_n cx (q := 35) 0 rfl rfl dX12_takesFuel_34 rfl ?_
        refine mw_get cx (q := 38) (v := .int ((M 12) 0 0 57)) gf_X12_223 rfl rfl vi_12_0 dX12_takesFuel_35 rfl ?_
        refine mw_zald cx (q := 39) (w := ((M 12) 9 0 ((M 12) 0 0 57))) rfl (fun _ => rfl) vi_12_9 (ok0.1.cmp) dX12_takesFuel_38 rfl ?_
        refine mw_if_eq cx (tgt := 64) (q := 42) dX12_takesFuel_39 (by decide) rfl (fun h5 => ?_) (fun h5 => ?_)
        · exact hK3 (M 12) ok0
        · refine mw_aload_n cx (q := 43) 0 rfl rfl dX12_takesFuel_42 rfl ?_
          refine mw_get cx (q := 46) (v := .ref (ad 12 5 0)) gf_X12_19 rfl rfl vi_12_0 dX12_takesFuel_43 rfl ?_
          refine mw_aload_n cx (q := 47) 0 rfl rfl dX12_takesFuel_46 rfl ?_
          refine mw_get cx (q := 50) (v := .int ((M 12) 0 0 57)) gf_X12_223 rfl rfl vi_12_0 dX12_takesFuel_47 rfl ?_
          refine mw_iald cx (q := 51) (w := ((M 12) 5 0 ((M 12) 0 0 57))) rfl (fun _ => rfl) vi_12_5 (ok0.1.cmp) dX12_takesFuel_50 rfl ?_
          refine mw_if_le cx (tgt := 64) (q := 54) dX12_takesFuel_51 (by decide) rfl (fun h6 => ?_) (fun h6 => ?_)
          · exact hK3 (M 12) ok0
          · refine mw_aload_n cx (q := 55) 0 rfl rfl dX12_takesFuel_54 rfl ?_
            refine mw_aload_n cx (q := 56) 0 rfl rfl dX12_takesFuel_55 rfl ?_
            refine mw_get cx (q := 59) (v := .int ((M 12) 0 0 57)) gf_X12_223 rfl rfl vi_12_0 dX12_takesFuel_56 rfl ?_
            refine mw_iconst cx (q := 60) (v := 1) dX12_takesFuel_59 rfl rfl ?_
            refine mw_bnd (fun r7 er7 => ?_)
            refine mw_callV cx (q := 63) (d := 0) (As := [.int ((M 12) 0 0 57), .int 1]) (z := fic (uW M 12 (M 12)) 12 r7) (st := []) (st1 := [.int r7.1]) (M' := uW M 12 r7.2) (by rw [er7]; exact mc_X12_buyFuel l D ta ad (uW M 12 (M 12)) ((M 12) 0 0 57) 1 (ok0.1.cmp)) cv_X12_226 rfl rfl rfl vi_12_0 ⟨Nat.le_of_ble_eq_true rfl, Nat.le_of_ble_eq_true rfl⟩ ⟨Nat.le_refl _, Nat.le_refl _⟩ (by simp [Value.category]) rfl rfl (by exact uW_uW _ _ _ _) dX12_takesFuel_60 rfl ?_
            have ok8 : OkT (M 12) r7.2 := (by rw [er7]; exact okT_f12_buyFuel ok0 ((M 12) 0 0 57) 1)
            refine mw_istore_n cx (q := 64) (lv' := [(1, .int r7.1), (0, .ref (ad 12 0 0))]) rfl rfl (by decide) dX12_takesFuel_63 rfl ?_
            refine mw_sub [1] rfl ?_
            exact hK3 r7.2 ok8
  · refine mw_iconst cx (q := 17) (v := 0) dX12_takesFuel_16 rfl rfl ?_
    exact mw_zret cx hr rfl rfl dX12_takesFuel_17
def f12_valueName (m : Cm) (p1 : Int32) : Cm := bnd (f12_bindingOf m p1) (fun (r1 : Int32) => if r1 = (-1) then bnd (f12_in p1 1 8) (fun (r3 : Bool) => if r3 = true then bnd (u3 m 0 0 62 (m 4 0 (((8 * (m 0 0 57)) + p1) - 1))) (fun (m7 : Cm) => m7) else bnd (u3 m 0 0 63 3) (fun (m5 : Cm) => m5)) else bnd (u3 m 0 0 62 (m 48 0 r1)) (fun (m9 : Cm) => m9))
set_option maxHeartbeats 4000000 in
set_option maxRecDepth 100000 in
theorem mc_X12_valueName (l : Launch) (D : va_G) (ta : wTa) (ad : wAd) (M : Wm) (p1 : Int32) (hok : Ok12 (M 12)) : MC l D ta ad yX12_valueName cX12_valueName 3 none 1 [.ref (ad 12 0 0), .int p1] M (fvc M 12 (f12_valueName (M 12) p1)) := by
  refine MC.of (fvc M 12) (f12_valueName (M 12) p1) rfl (by decide) (Nat.le_of_ble_eq_true rfl) (fun p e s m args below meth c cx hr => ?_)
  unfold f12_valueName
  refine mw_sub (lv' := [(0, .ref (ad 12 0 0)), (1, .int p1)]) [0, 1] rfl ?_
  refine mw_eqM (uW_self M 12) ?_
  have ok0 : OkT (M 12) (M 12) := ⟨hok, rfl, rfl⟩
  refine mw_aload_n cx (q := 1) 0 rfl rfl dX12_valueName_0 rfl ?_
  refine mw_iload_n cx (q := 2) 1 rfl rfl dX12_valueName_1 rfl ?_
  refine mw_bnd (fun r1 er1 => ?_)
  refine mw_callV cx (q := 5) (d := 0) (As := [.int p1]) (z := fip (uW M 12 (M 12)) r1) (st := []) (st1 := [.int r1]) (M' := (uW M 12 (M 12))) (by rw [er1]; exact mc_X12_bindingOf l D ta ad (uW M 12 (M 12)) p1 hok) cv_X12_254 rfl rfl rfl vi_12_0 ⟨Nat.le_of_ble_eq_true rfl, Nat.le_of_ble_eq_true rfl⟩ ⟨Nat.le_refl _, Nat.le_refl _⟩ (by simp [Value.category]) rfl rfl rfl dX12_valueName_2 rfl ?_
  have qr10 : ¬ r1 = (-1) → vp_in r1 100 := (by rw [er1]; exact bindingOf_in ok0.1)
  refine mw_istore_n cx (q := 6) (lv' := [(2, .int r1), (0, .ref (ad 12 0 0)), (1, .int p1)]) rfl rfl (by decide) dX12_valueName_5 rfl ?_
  refine mw_iload_n cx (q := 7) 0 rfl rfl dX12_valueName_6 rfl ?_
  refine mw_iconst cx (q := 8) (v := (-1)) dX12_valueName_7 rfl rfl ?_
  refine mw_icmp_eq cx (tgt := 24) (q := 11) dX12_valueName_8 (by decide) rfl (fun h2 => ?_) (fun h2 => ?_)
  · refine mw_iload_n cx (q := 25) 2 rfl rfl dX12_valueName_24 rfl ?_
    refine mw_iconst cx (q := 26) (v := 1) dX12_valueName_25 rfl rfl ?_
    refine mw_bipush cx (q := 28) (v := 8) dX12_valueName_26 rfl rfl ?_
    refine mw_bnd (fun r3 er3 => ?_)
    refine mw_callS cx (q := 31) (d := 0) (As := [.int p1, .int 1, .int 8]) (z := fzp (uW M 12 (M 12)) r3) (st := []) (st1 := [.int (b2i r3)]) (M' := (uW M 12 (M 12))) (by rw [er3]; exact mc_X12_in l D ta ad (uW M 12 (M 12)) p1 1 8) cv_X12_167 ⟨Nat.le_of_ble_eq_true rfl, Nat.le_of_ble_eq_true rfl⟩ ⟨Nat.le_refl _, Nat.le_refl _⟩ (by simp [Value.category]) rfl rfl rfl dX12_valueName_28 rfl ?_
    have qr30 : r3 = true → 1 ≤ p1.toInt ∧ p1.toInt ≤ 8 := (fun hq => in_i (er3.symm.trans hq))
    refine mw_ifb_eq cx (tgt := 57) (q := 34) dX12_valueName_31 (by decide) rfl (fun h4 => ?_) (fun h4 => ?_)
    · refine mw_aload_n cx (q := 58) 1 rfl rfl dX12_valueName_57 rfl ?_
      refine mw_iconst cx (q := 59) (v := 3) dX12_valueName_58 rfl rfl ?_
      refine mw_putC cx (q := 62) 63 gf_X12_257 pf_X12_63 (int_fit _) rfl (Nat.le_of_ble_eq_true rfl) rfl vi_12_0 (by decide) dX12_valueName_59 rfl (fun m5 em5 => ?_)
      have ok6 : OkT (M 12) m5 := (by rw [em5]; exact okT_put0 ok0 (by decide))
      exact mw_vret cx hr rfl dX12_valueName_62
    · refine mw_aload_n cx (q := 35) 1 rfl rfl dX12_valueName_34 rfl ?_
      refine mw_aload_n cx (q := 36) 1 rfl rfl dX12_valueName_35 rfl ?_
      refine mw_get cx (q := 39) (v := .ref (ad 12 4 0)) gf_X12_16 rfl rfl vi_12_0 dX12_valueName_36 rfl ?_
      refine mw_bipush cx (q := 41) (v := 8) dX12_valueName_39 rfl rfl ?_
      refine mw_aload_n cx (q := 42) 1 rfl rfl dX12_valueName_41 rfl ?_
      refine mw_get cx (q := 45) (v := .int ((M 12) 0 0 57)) gf_X12_223 rfl rfl vi_12_0 dX12_valueName_42 rfl ?_
      refine mw_imul cx (q := 46) dX12_valueName_45 rfl ?_
      refine mw_iload_n cx (q := 47) 2 rfl rfl dX12_valueName_46 rfl ?_
      refine mw_iadd cx (q := 48) dX12_valueName_47 rfl ?_
      refine mw_iconst cx (q := 49) (v := 1) dX12_valueName_48 rfl rfl ?_
      refine mw_isub cx (q := 50) dX12_valueName_49 rfl ?_
      refine mw_iald cx (q := 51) (w := ((M 12) 4 0 (((8 * ((M 12) 0 0 57)) + p1) - 1))) rfl (fun _ => rfl) vi_12_4 (idx8n (ok0.1.cmp) (qr30 h4).1 (qr30 h4).2) dX12_valueName_50 rfl ?_
      refine mw_putC cx (q := 54) 62 gf_X12_232 pf_X12_62 (int_fit _) rfl (Nat.le_of_ble_eq_true rfl) rfl vi_12_0 (by decide) dX12_valueName_51 rfl (fun m7 em7 => ?_)
      have ok8 : OkT (M 12) m7 := (by rw [em7]; exact okT_put0 ok0 (by decide))
      refine mw_goto cx (tgt := 62) dX12_valueName_54 (by decide) ?_
      exact mw_vret cx hr rfl dX12_valueName_62
  · refine mw_aload_n cx (q := 12) 1 rfl rfl dX12_valueName_11 rfl ?_
    refine mw_aload_n cx (q := 13) 1 rfl rfl dX12_valueName_12 rfl ?_
    refine mw_get cx (q := 16) (v := .ref (ad 12 48 0)) gf_X12_146 rfl rfl vi_12_0 dX12_valueName_13 rfl ?_
    refine mw_iload_n cx (q := 17) 0 rfl rfl dX12_valueName_16 rfl ?_
    refine mw_iald cx (q := 18) (w := ((M 12) 48 0 r1)) rfl (fun _ => rfl) vi_12_48 (qr10 h2) dX12_valueName_17 rfl ?_
    refine mw_putC cx (q := 21) 62 gf_X12_232 pf_X12_62 (int_fit _) rfl (Nat.le_of_ble_eq_true rfl) rfl vi_12_0 (by decide) dX12_valueName_18 rfl (fun m9 em9 => ?_)
    have ok10 : OkT (M 12) m9 := (by rw [em9]; exact okT_put0 ok0 (by decide))
    refine mw_goto cx (tgt := 62) dX12_valueName_21 (by decide) ?_
    exact mw_vret cx hr rfl dX12_valueName_62
