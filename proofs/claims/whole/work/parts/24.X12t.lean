/-! TEXTS: an index within one, none or an index, and what a text without fault is -/
def Ix12 (m : Cm) (s i : Int32) : Prop := 0 ≤ i.toInt ∧ i.toInt < (m 3 0 s).toInt
def Nx12 (m : Cm) (s i : Int32) : Prop := i = -1 ∨ Ix12 m s i
def dl12 (x : Int32) : Int := if x = 40 then 1 else if x = 41 then -1 else 0
/-- how far a run of signs goes down -/
def sf12 (m : Cm) (s : Int32) : Nat → Nat → Int
  | _, 0 => 0
  | i, k + 1 => dl12 (f12_signAt m s (nI i)) + sf12 m s (i + 1) k
/-- from any sign of it on a text without fault opens no more than it closes -/
def Tx12 (m : Cm) (s : Int32) : Prop := ∀ i k : Nat, (i : Int) + k = (m 3 0 s).toInt → sf12 m s i k ≤ 0
theorem signAt_fr {m m' : Cm} (h : m' 2 = m 2 ∧ m' 3 = m 3) (s i : Int32) : f12_signAt m' s i = f12_signAt m s i := by
  unfold f12_signAt; rw [h.1, h.2]
theorem sf12_fr {m m' : Cm} (h : m' 2 = m 2 ∧ m' 3 = m 3) (s : Int32) (i k : Nat) : sf12 m' s i k = sf12 m s i k := by
  induction k generalizing i with
  | zero => rfl
  | succ k ih => rw [sf12, sf12, signAt_fr h, ih]
theorem Tx12.fr {m m' : Cm} {s : Int32} (h : m' 2 = m 2 ∧ m' 3 = m 3) (t : Tx12 m s) : Tx12 m' s := by
  intro i k e
  rw [sf12_fr h]; rw [h.2] at e; exact t i k e
theorem Ix12.fr {m m' : Cm} {s i : Int32} (h : m' 2 = m 2 ∧ m' 3 = m 3) (t : Ix12 m s i) : Ix12 m' s i := by
  unfold Ix12 at t ⊢; rw [h.2]; exact t
theorem Nx12.fr {m m' : Cm} {s i : Int32} (h : m' 2 = m 2 ∧ m' 3 = m 3) (t : Nx12 m s i) : Nx12 m' s i := t.elim Or.inl (fun x => Or.inr (x.fr h))
theorem signAt_lt {m : Cm} {s i : Int32} (h : ¬ f12_signAt m s i = 0) : i.toInt < (m 3 0 s).toInt := by
  unfold f12_signAt at h
  by_cases c : m 3 0 s ≤ i
  · rw [if_pos c] at h; exact absurd rfl h
  · simp only [i32le] at c; omega
theorem signAt_z {m : Cm} {s i : Int32} (h : (m 3 0 s).toInt ≤ i.toInt) : f12_signAt m s i = 0 := by
  unfold f12_signAt
  rw [if_pos (by rw [i32le]; exact h)]
theorem signAt_r {m : Cm} {s i r k : Int32} (e : r = f12_signAt m s i) (h : r = k) (hk : ¬ k = 0) : i.toInt < (m 3 0 s).toInt := signAt_lt (by rw [← e, h]; exact hk)
theorem signAt_t {m : Cm} {s i r : Int32} (e : r = f12_signAt m s i) (h : 48 ≤ r.toInt) : i.toInt < (m 3 0 s).toInt := signAt_lt (by rw [← e]; intro z; rw [z, t32_0] at h; omega)
def f12_nextAt_lp2 (m : Cm) (p1 : Int32) (K2 : Int32 → Int32) : Nat → Int32 → Int32
  | 0, x1 => 0
  | n3 + 1, x1 => bnd (f12_signAt m p1 x1) (fun (r4 : Int32) => if r4 = 32 then bnd (x1 + 1) (fun (v6 : Int32) => f12_nextAt_lp2 m p1 K2 n3 v6) else K2 x1)
theorem f12_nextAt_lp2_s (m : Cm) (p1 : Int32) (K2 : Int32 → Int32) (n3 : Nat) (x1 : Int32) : f12_nextAt_lp2 m p1 K2 (n3 + 1) x1 = bnd (f12_signAt m p1 x1) (fun (r4 : Int32) => if r4 = 32 then bnd (x1 + 1) (fun (v6 : Int32) => f12_nextAt_lp2 m p1 K2 n3 v6) else K2 x1) := rfl
def f12_nextAt (m : Cm) (p1 : Int32) (p2 : Int32) : Int32 := jn (fun (y7 : Int32) => bnd (f12_signAt m p1 y7) (fun (r8 : Int32) => if r8 = 0 then (-1) else if r8 = 41 then (-1) else y7)) (fun K2 => f12_nextAt_lp2 m p1 K2 123 p2)
set_option maxHeartbeats 4000000 in
set_option maxRecDepth 100000 in
theorem mc_X12_nextAt (l : Launch) (D : va_G) (ta : wTa) (ad : wAd) (M : Wm) (p1 : Int32) (p2 : Int32) (hok : Ok12 (M 12)) (hp1 : vp_in p1 8) (h0 : 0 ≤ p2.toInt) (h1 : p2.toInt ≤ 121) : MC l D ta ad yX12_nextAt cX12_nextAt 5 (some .int) 1 [.ref (ad 12 0 0), .int p1, .int p2] M (fip M (f12_nextAt (M 12) p1 p2)) := by
  refine MC.of (fip M) (f12_nextAt (M 12) p1 p2) rfl (by decide) (Nat.le_of_ble_eq_true rfl) (fun p e s m args below meth c cx hr => ?_)
  unfold f12_nextAt
  refine mw_sub (lv' := [(0, .ref (ad 12 0 0)), (1, .int p1), (2, .int p2)]) [0, 1, 2] rfl ?_
  refine mw_iload_n cx (q := 1) 2 rfl rfl dX12_nextAt_0 rfl ?_
  refine mw_istore_n cx (q := 2) (lv' := [(3, .int p2), (0, .ref (ad 12 0 0)), (1, .int p1), (2, .int p2)]) rfl rfl (by decide) dX12_nextAt_1 rfl ?_
  refine mw_jnP (P := fun (y7 : Int32) => (0 ≤ (y7).toInt) ∧ ((y7).toInt ≤ 121)) (Mj := fun (y7 : Int32) => M) (pj := 19) (lj := fun (y7 : Int32) => [(3, .int y7), (0, .ref (ad 12 0 0)), (1, .int p1)]) (sj := fun (y7 : Int32) => []) (fun y7 jy7 => ?_) (fun K2 hK2 => ?_)
  · obtain ⟨jy7_0, jy7_1⟩ := jy7
    refine mw_aload_n cx (q := 20) 1 rfl rfl dX12_nextAt_19 rfl ?_
    refine mw_iload_n cx (q := 21) 2 rfl rfl dX12_nextAt_20 rfl ?_
    refine mw_iload_n cx (q := 22) 0 rfl rfl dX12_nextAt_21 rfl ?_
    refine mw_bnd (fun r8 er8 => ?_)
    refine mw_callV cx (q := 25) (d := 0) (As := [.int p1, .int y7]) (z := fip M r8) (st := []) (st1 := [.int r8]) (M' := M) (by rw [er8]; exact mc_X12_signAt l D ta ad M p1 y7 hp1 hok jy7_0) cv_X12_184 rfl rfl rfl vi_12_0 ⟨Nat.le_of_ble_eq_true rfl, Nat.le_of_ble_eq_true rfl⟩ ⟨Nat.le_refl _, Nat.le_refl _⟩ (by simp [Value.category]) rfl rfl rfl dX12_nextAt_22 rfl ?_
    refine mw_istore cx (q := 27) (lv' := [(4, .int r8), (3, .int y7), (0, .ref (ad 12 0 0)), (1, .int p1)]) rfl (by decide) dX12_nextAt_25 rfl ?_
    refine mw_iload cx (q := 29) 0 rfl dX12_nextAt_27 rfl ?_
    refine mw_if_eq cx (tgt := 39) (q := 32) dX12_nextAt_29 (by decide) rfl (fun h9 => ?_) (fun h9 => ?_)
    · refine mw_iconst cx (q := 40) (v := (-1)) dX12_nextAt_39 rfl rfl ?_
      refine mw_goto cx (tgt := 44) dX12_nextAt_40 (by decide) ?_
      exact mw_iret cx hr rfl dX12_nextAt_44
    · refine mw_iload cx (q := 34) 0 rfl dX12_nextAt_32 rfl ?_
      refine mw_bipush cx (q := 36) (v := 41) dX12_nextAt_34 rfl rfl ?_
      refine mw_icmp_ne cx (tgt := 43) (q := 39) dX12_nextAt_36 (by decide) rfl (fun h10 => ?_) (fun h10 => ?_)
      · refine mw_iload_n cx (q := 44) 1 rfl rfl dX12_nextAt_43 rfl ?_
        exact mw_iret cx hr rfl dX12_nextAt_44
      · refine mw_iconst cx (q := 40) (v := (-1)) dX12_nextAt_39 rfl rfl ?_
        refine mw_goto cx (tgt := 44) dX12_nextAt_40 (by decide) ?_
        exact mw_iret cx hr rfl dX12_nextAt_44
  · refine mw_sub [0, 1, 2] rfl ?_
    refine mw_loop (F := f12_nextAt_lp2 (M 12) p1 K2) (I := fun (x1 : Int32) => (0 ≤ (x1).toInt) ∧ ((x1).toInt ≤ 121)) (μ := fun (x1 : Int32) => (122 - (x1).toInt).toNat) (Mx := fun (x1 : Int32) => M) (px := 2) (lx := fun (x1 : Int32) => [(3, .int x1), (0, .ref (ad 12 0 0)), (1, .int p1)]) (fun n3 x1 ivx1 ih => ?_) 123 p2 ⟨h0, h1⟩ (by (try simp only [vp_in_iff, i32lt, i32le, i32eq, i32add, i32sub, i32mul, i32neg, t32_0, t32_121, t32_122] at h0 h1 ⊢); omega)
    obtain ⟨ivx1_0, ivx1_1⟩ := ivx1
    refine mw_eqS (f12_nextAt_lp2_s (M 12) p1 K2 n3 x1) ?_
    refine mw_aload_n cx (q := 3) 1 rfl rfl dX12_nextAt_2 rfl ?_
    refine mw_iload_n cx (q := 4) 2 rfl rfl dX12_nextAt_3 rfl ?_
    refine mw_iload_n cx (q := 5) 0 rfl rfl dX12_nextAt_4 rfl ?_
    refine mw_bnd (fun r4 er4 => ?_)
    refine mw_callV cx (q := 8) (d := 0) (As := [.int p1, .int x1]) (z := fip M r4) (st := []) (st1 := [.int r4]) (M' := M) (by rw [er4]; exact mc_X12_signAt l D ta ad M p1 x1 hp1 hok ivx1_0) cv_X12_184 rfl rfl rfl vi_12_0 ⟨Nat.le_of_ble_eq_true rfl, Nat.le_of_ble_eq_true rfl⟩ ⟨Nat.le_refl _, Nat.le_refl _⟩ (by simp [Value.category]) rfl rfl rfl dX12_nextAt_5 rfl ?_
    refine mw_bipush cx (q := 10) (v := 32) dX12_nextAt_8 rfl rfl ?_
    refine mw_icmp_ne cx (tgt := 19) (q := 13) dX12_nextAt_10 (by decide) rfl (fun h5 => ?_) (fun h5 => ?_)
    · exact hK2 x1 ⟨ivx1_0, ivx1_1⟩
    · refine mw_bnd (fun v6 ev6 => ?_)
      refine mw_iinc cx (q := 16) (v := v6) (lv' := [(3, .int v6), (0, .ref (ad 12 0 0)), (1, .int p1)]) 0 rfl (by rw [ev6]; rfl) rfl (by decide) dX12_nextAt_13 rfl ?_
      refine mw_goto cx (tgt := 2) dX12_nextAt_16 (by decide) ?_
      exact ih v6 ⟨(by have hz := signAt_r er4 (by assumption) (by decide); have hl := (hok.len p1 hp1).2; have hi := ivx1_0; rw [ev6, i32addn (by rw [t32_1]; omega) (by rw [t32_1]; omega), t32_1]; omega), (by have hz := signAt_r er4 (by assumption) (by decide); have hl := (hok.len p1 hp1).2; have hi := ivx1_0; rw [ev6, i32addn (by rw [t32_1]; omega) (by rw [t32_1]; omega), t32_1]; omega)⟩ (by have hz := signAt_r er4 (by assumption) (by decide); have hl := (hok.len p1 hp1).2; have hi := ivx1_0; rw [ev6, i32addn (by rw [t32_1]; omega) (by rw [t32_1]; omega), t32_1]; omega)
theorem inc_t {x : Int32} (h0 : 0 ≤ x.toInt) (h1 : x.toInt < 2147483647) : (x + 1).toInt = x.toInt + 1 := by
  rw [i32addn (by rw [t32_1]; omega) (by rw [t32_1]; omega), t32_1]
/-- what the search for an expression's end keeps: index, depth, and whether it goes on -/
def E12 (m : Cm) (s o e : Int32) (g : Bool) : Prop := 0 ≤ e.toInt ∧ e.toInt ≤ (m 3 0 s).toInt + 1 ∧ -e.toInt ≤ o.toInt ∧ o.toInt ≤ e.toInt ∧ (g = true → e.toInt ≤ (m 3 0 s).toInt ∧ ∀ i k : Nat, (i : Int) = e.toInt → (i : Int) + k = (m 3 0 s).toInt → o.toInt + sf12 m s i k ≤ 0)
theorem tok_e {m : Cm} {s i r : Int32} (e : r = f12_signAt m s i) (h : 48 ≤ r.toInt) : 48 ≤ (f12_signAt m s i).toInt := by rw [← e]; exact h
theorem nI_e {e : Int32} {i : Nat} (h : (i : Int) = e.toInt) : nI i = e := by
  apply Int32.toInt_inj.1
  rw [nI_toInt (by have := i32rng e; omega)]; exact h
theorem dl12_r (x : Int32) : -1 ≤ dl12 x ∧ dl12 x ≤ 1 := by
  unfold dl12; split
  · omega
  · split <;> omega
theorem E12.start {m : Cm} {s i : Int32} (hT : Tx12 m s) (h : Ix12 m s i) : E12 m s 0 i true := by
  refine ⟨h.1, by have := h.2; omega, by rw [t32_0]; have := h.1; omega, by rw [t32_0]; exact h.1, fun _ => ⟨by have := h.2; omega, fun j k e1 e2 => ?_⟩⟩
  rw [t32_0]; have := hT j k e2; omega
theorem E12.step {m : Cm} {s o e o' e' v sg : Int32} {gg g : Bool} (hL : (m 3 0 s).toInt ≤ 120) (hE : E12 m s o e gg) (hgg : gg = true) (he : e' = e + 1) (hs : sg = f12_signAt m s e) (hv : v.toInt = dl12 sg) (ho : o' = o + v) (hg : g = true → 0 < o' ∨ 48 ≤ (f12_signAt m s e').toInt) : E12 m s o' e' g := by
  obtain ⟨a1, a2, a3, a4, a5⟩ := hE
  obtain ⟨b1, b2⟩ := a5 hgg
  have hd := dl12_r sg
  have e1 : e'.toInt = e.toInt + 1 := by rw [he]; exact inc_t a1 (by omega)
  have o1 : o'.toInt = o.toInt + dl12 sg := by rw [ho, i32addn (by rw [hv]; omega) (by rw [hv]; omega), hv]
  have hlt : g = true → e.toInt < (m 3 0 s).toInt := by
    intro hz
    rcases hg hz with h | h
    · by_cases c : e.toInt < (m 3 0 s).toInt
      · exact c
      · have hee : e.toInt = (m 3 0 s).toInt := by omega
        have h0 := b2 e.toInt.toNat 0 (by omega) (by omega)
        have hs0 : sg = 0 := by rw [hs]; exact signAt_z (by omega)
        have hd0 : dl12 sg = 0 := by rw [hs0]; rfl
        simp only [i32lt, t32_0] at h
        have : sf12 m s e.toInt.toNat 0 = 0 := rfl
        omega
    · have := signAt_t rfl h; omega
  refine ⟨by omega, by omega, by omega, by omega, fun hz => ⟨by have := hlt hz; omega, fun i k hi hk => ?_⟩⟩
  have hb := b2 e.toInt.toNat (k + 1) (by omega) (by omega)
  have hi' : i = e.toInt.toNat + 1 := by omega
  rw [sf12, nI_e (e := e) (i := e.toInt.toNat) (by omega), ← hs, ← hi'] at hb
  omega
def f12_endOf_lp8 (m : Cm) (p1 : Int32) : Nat → (Bool × Int32 × Int32) → Int32
  | 0, x1 => 0
  | n2 + 1, x1 => if x1.1 = true then bnd (f12_signAt m p1 x1.2.1) (fun (r4 : Int32) => jn (fun (v5 : Int32) => bnd ((x1.2.2 + v5)) (fun (v9 : Int32) => bnd (x1.2.1 + 1) (fun (v10 : Int32) => bnd (f12_signAt m p1 v10) (fun (r11 : Int32) => bnd (f12_isDigit r11) (fun (r12 : Bool) => jn (fun (v13 : Bool) => jn (fun (v18 : Bool) => f12_endOf_lp8 m p1 n2 (v18, v10, v9)) (fun K19 => if 0 < v9 then K19 true else if r4 = 40 then K19 false else if r4 = 41 then K19 false else if v13 = true then K19 true else K19 false)) (fun K14 => if r12 = true then K14 true else bnd (f12_isLetter r11) (fun (r16 : Bool) => if r16 = true then K14 true else K14 false))))))) (fun K6 => if r4 = 40 then K6 1 else if r4 = 41 then K6 (-1) else K6 0)) else x1.2.1
theorem f12_endOf_lp8_s (m : Cm) (p1 : Int32) (n2 : Nat) (x1 : Bool × Int32 × Int32) : f12_endOf_lp8 m p1 (n2 + 1) x1 = if x1.1 = true then bnd (f12_signAt m p1 x1.2.1) (fun (r4 : Int32) => jn (fun (v5 : Int32) => bnd ((x1.2.2 + v5)) (fun (v9 : Int32) => bnd (x1.2.1 + 1) (fun (v10 : Int32) => bnd (f12_signAt m p1 v10) (fun (r11 : Int32) => bnd (f12_isDigit r11) (fun (r12 : Bool) => jn (fun (v13 : Bool) => jn (fun (v18 : Bool) => f12_endOf_lp8 m p1 n2 (v18, v10, v9)) (fun K19 => if 0 < v9 then K19 true else if r4 = 40 then K19 false else if r4 = 41 then K19 false else if v13 = true then K19 true else K19 false)) (fun K14 => if r12 = true then K14 true else bnd (f12_isLetter r11) (fun (r16 : Bool) => if r16 = true then K14 true else K14 false))))))) (fun K6 => if r4 = 40 then K6 1 else if r4 = 41 then K6 (-1) else K6 0)) else x1.2.1 := rfl
def f12_endOf (m : Cm) (p1 : Int32) (p2 : Int32) : Int32 := f12_endOf_lp8 m p1 123 (true, p2, 0)
set_option maxHeartbeats 4000000 in
set_option maxRecDepth 100000 in
theorem mc_X12_endOf (l : Launch) (D : va_G) (ta : wTa) (ad : wAd) (M : Wm) (p1 : Int32) (p2 : Int32) (hok : Ok12 (M 12)) (hp1 : vp_in p1 8) (hT : Tx12 (M 12) p1) (hI : Ix12 (M 12) p1 p2) : MC l D ta ad yX12_endOf cX12_endOf 9 (some .int) 2 [.ref (ad 12 0 0), .int p1, .int p2] M (fip M (f12_endOf (M 12) p1 p2)) := by
  refine MC.of (fip M) (f12_endOf (M 12) p1 p2) rfl (by decide) (Nat.le_of_ble_eq_true rfl) (fun p e s m args below meth c cx hr => ?_)
  unfold f12_endOf
  refine mw_sub (lv' := [(0, .ref (ad 12 0 0)), (1, .int p1), (2, .int p2)]) [0, 1, 2] rfl ?_
  refine mw_iconst cx (q := 1) (v := 0) dX12_endOf_0 rfl rfl ?_
  refine mw_istore_n cx (q := 2) (lv' := [(3, .int 0), (0, .ref (ad 12 0 0)), (1, .int p1), (2, .int p2)]) rfl rfl (by decide) dX12_endOf_1 rfl ?_
  refine mw_iload_n cx (q := 3) 3 rfl rfl dX12_endOf_2 rfl ?_
  refine mw_istore cx (q := 5) (lv' := [(4, .int p2), (3, .int 0), (0, .ref (ad 12 0 0)), (1, .int p1), (2, .int p2)]) rfl (by decide) dX12_endOf_3 rfl ?_
  refine mw_iconst cx (q := 6) (v := 1) dX12_endOf_5 rfl rfl ?_
  refine mw_istore cx (q := 8) (lv' := [(5, .int 1), (4, .int p2), (3, .int 0), (0, .ref (ad 12 0 0)), (1, .int p1), (2, .int p2)]) rfl (by decide) dX12_endOf_6 rfl ?_
  refine mw_sub [0, 1, 2, 3, 4] rfl ?_
  refine mw_loop (F := f12_endOf_lp8 (M 12) p1) (I := fun (x1 : Bool × Int32 × Int32) => (E12 (M 12) p1 x1.2.2 x1.2.1 x1.1) ∧ (0 ≤ (x1.2.1).toInt)) (μ := fun (x1 : Bool × Int32 × Int32) => (122 - (x1.2.1).toInt).toNat) (Mx := fun (x1 : Bool × Int32 × Int32) => M) (px := 8) (lx := fun (x1 : Bool × Int32 × Int32) => [(5, .int (b2i x1.1)), (4, .int x1.2.1), (3, .int x1.2.2), (0, .ref (ad 12 0 0)), (1, .int p1)]) (fun n2 x1 ivx1 ih => ?_) 123 (true, p2, 0) ⟨(E12.start hT hI), (hI.1)⟩ (by have := hI.1; have := hI.2; dsimp only; omega)
  obtain ⟨ivx1_0, ivx1_1⟩ := ivx1
  refine mw_eqS (f12_endOf_lp8_s (M 12) p1 n2 x1) ?_
  refine mw_iload cx (q := 10) 0 rfl dX12_endOf_8 rfl ?_
  refine mw_ifb_eq cx (tgt := 116) (q := 13) dX12_endOf_10 (by decide) rfl (fun h3 => ?_) (fun h3 => ?_)
  · refine mw_iload cx (q := 118) 1 rfl dX12_endOf_116 rfl ?_
    exact mw_iret cx hr rfl dX12_endOf_118
  · refine mw_aload_n cx (q := 14) 3 rfl rfl dX12_endOf_13 rfl ?_
    refine mw_iload_n cx (q := 15) 4 rfl rfl dX12_endOf_14 rfl ?_
    refine mw_iload cx (q := 17) 1 rfl dX12_endOf_15 rfl ?_
    refine mw_bnd (fun r4 er4 => ?_)
    refine mw_callV cx (q := 20) (d := 0) (As := [.int p1, .int x1.2.1]) (z := fip M r4) (st := []) (st1 := [.int r4]) (M' := M) (by rw [er4]; exact mc_X12_signAt l D ta ad M p1 x1.2.1 hp1 hok ivx1_1) cv_X12_184 rfl rfl rfl vi_12_0 ⟨Nat.le_of_ble_eq_true rfl, Nat.le_of_ble_eq_true rfl⟩ ⟨Nat.le_refl _, Nat.le_refl _⟩ (by simp [Value.category]) rfl rfl rfl dX12_endOf_17 rfl ?_
    refine mw_istore cx (q := 22) (lv' := [(6, .int r4), (5, .int (b2i x1.1)), (4, .int x1.2.1), (3, .int x1.2.2), (0, .ref (ad 12 0 0)), (1, .int p1)]) rfl (by decide) dX12_endOf_20 rfl ?_
    refine mw_iload_n cx (q := 23) 3 rfl rfl dX12_endOf_22 rfl ?_
    refine mw_iload cx (q := 25) 0 rfl dX12_endOf_23 rfl ?_
    refine mw_bipush cx (q := 27) (v := 40) dX12_endOf_25 rfl rfl ?_
    refine mw_jnP (P := fun (v5 : Int32) => ((v5).toInt = dl12 r4)) (Mj := fun (v5 : Int32) => M) (pj := 46) (lj := fun (v5 : Int32) => [(0, .ref (ad 12 0 0)), (1, .int p1), (4, .int x1.2.1), (6, .int r4)]) (sj := fun (v5 : Int32) => [.int v5, .int x1.2.2]) (fun v5 jv5 => ?_) (fun K6 hK6 => ?_)
    · have jv5_0 := jv5
      refine mw_iadd cx (q := 47) dX12_endOf_46 rfl ?_
      refine mw_bndT (fun v9 ev9 => ?_)
      refine mw_istore_n cx (q := 48) (lv' := [(3, .int v9), (0, .ref (ad 12 0 0)), (1, .int p1), (4, .int x1.2.1), (6, .int r4)]) rfl rfl (by decide) dX12_endOf_47 rfl ?_
      refine mw_bnd (fun v10 ev10 => ?_)
      refine mw_iinc cx (q := 51) (v := v10) (lv' := [(4, .int v10), (3, .int v9), (0, .ref (ad 12 0 0)), (1, .int p1), (6, .int r4)]) 3 rfl (by rw [ev10]; rfl) rfl (by decide) dX12_endOf_48 rfl ?_
      refine mw_aload_n cx (q := 52) 2 rfl rfl dX12_endOf_51 rfl ?_
      refine mw_iload_n cx (q := 53) 3 rfl rfl dX12_endOf_52 rfl ?_
      refine mw_iload cx (q := 55) 0 rfl dX12_endOf_53 rfl ?_
      refine mw_bnd (fun r11 er11 => ?_)
      refine mw_callV cx (q := 58) (d := 0) (As := [.int p1, .int v10]) (z := fip M r11) (st := []) (st1 := [.int r11]) (M' := M) (by rw [er11]; exact mc_X12_signAt l D ta ad M p1 v10 hp1 hok (by have hz := ivx1_0; have hl := (hok.len p1 hp1).2; have h2 := (hz.2.2.2.2 h3).1; have hi := ivx1_1; rw [ev10, inc_t (by omega) (by omega)]; omega)) cv_X12_184 rfl rfl rfl vi_12_0 ⟨Nat.le_of_ble_eq_true rfl, Nat.le_of_ble_eq_true rfl⟩ ⟨Nat.le_refl _, Nat.le_refl _⟩ (by simp [Value.category]) rfl rfl rfl dX12_endOf_55 rfl ?_
      refine mw_istore cx (q := 60) (lv' := [(7, .int r11), (4, .int v10), (3, .int v9), (0, .ref (ad 12 0 0)), (1, .int p1), (6, .int r4)]) rfl (by decide) dX12_endOf_58 rfl ?_
      refine mw_iload cx (q := 62) 0 rfl dX12_endOf_60 rfl ?_
      refine mw_bnd (fun r12 er12 => ?_)
      refine mw_callS cx (q := 65) (d := 1) (As := [.int r11]) (z := fzp M r12) (st := []) (st1 := [.int (b2i r12)]) (M' := M) (by rw [er12]; exact mc_X12_isDigit l D ta ad M r11) cv_X12_171 ⟨Nat.le_of_ble_eq_true rfl, Nat.le_of_ble_eq_true rfl⟩ ⟨Nat.le_refl _, Nat.le_refl _⟩ (by simp [Value.category]) rfl rfl rfl dX12_endOf_62 rfl ?_
      have qr120 : r12 = true → 48 ≤ r11.toInt ∧ r11.toInt ≤ 57 := (fun hq => isDigit_t (er12.symm.trans hq))
      refine mw_jnP (P := fun (v13 : Bool) => (v13 = true → 48 ≤ (f12_signAt (M 12) p1 v10).toInt)) (Mj := fun (v13 : Bool) => M) (pj := 81) (lj := fun (v13 : Bool) => [(0, .ref (ad 12 0 0)), (1, .int p1), (3, .int v9), (4, .int v10), (6, .int r4)]) (sj := fun (v13 : Bool) => [.int (b2i v13)]) (fun v13 jv13 => ?_) (fun K14 hK14 => ?_)
      · have jv13_0 := jv13
        refine mw_istore cx (q := 83) (lv' := [(8, .int (b2i v13)), (0, .ref (ad 12 0 0)), (1, .int p1), (3, .int v9), (4, .int v10), (6, .int r4)]) rfl (by decide) dX12_endOf_81 rfl ?_
        refine mw_iload_n cx (q := 84) 3 rfl rfl dX12_endOf_83 rfl ?_
        refine mw_jnP (P := fun (v18 : Bool) => (v18 = true → 0 < v9 ∨ 48 ≤ (f12_signAt (M 12) p1 v10).toInt)) (Mj := fun (v18 : Bool) => M) (pj := 111) (lj := fun (v18 : Bool) => [(0, .ref (ad 12 0 0)), (1, .int p1), (3, .int v9), (4, .int v10)]) (sj := fun (v18 : Bool) => [.int (b2i v18)]) (fun v18 jv18 => ?_) (fun K19 hK19 => ?_)
        · have jv18_0 := jv18
          refine mw_istore cx (q := 113) (lv' := [(5, .int (b2i v18)), (0, .ref (ad 12 0 0)), (1, .int p1), (3, .int v9), (4, .int v10)]) rfl (by decide) dX12_endOf_111 rfl ?_
          refine mw_goto cx (tgt := 8) dX12_endOf_113 (by decide) ?_
          refine mw_sub [0, 4, 3, 1, 2] rfl ?_
          exact ih (v18, v10, v9) ⟨(by apply E12.step (hok.len p1 hp1).2 ivx1_0 <;> assumption), (by have hz := ivx1_0; have hl := (hok.len p1 hp1).2; have h2 := hz.2.1; have hi := ivx1_1; rw [ev10, inc_t (by omega) (by omega)]; omega)⟩ (by have hz := ivx1_0.2.2.2.2 h3; have hl := (hok.len p1 hp1).2; have hi := ivx1_1; rw [ev10, inc_t (by omega) (by omega)]; omega)
        · refine mw_if_gt cx (tgt := 106) (q := 87) dX12_endOf_84 (by decide) rfl (fun h20 => ?_) (fun h20 => ?_)
          · refine mw_iconst cx (q := 107) (v := 1) dX12_endOf_106 rfl rfl ?_
            refine mw_goto cx (tgt := 111) dX12_endOf_107 (by decide) ?_
            refine mw_sub [1, 2, 3, 4] rfl ?_
            exact hK19 true (by intro hz; first | exact absurd hz (by decide) | exact Or.inl (by assumption) | exact Or.inr (by (try simp only [vp_in_iff, i32lt, i32le, i32eq, i32add, i32sub, i32mul, i32neg, t32_0, t32_1, t32_8, t32_48, t32_57] at hp1 hT hI ivx1_0 ivx1_1 h3 ev9 ev10 qr120 jv13_0 h20 jv5_0 ⊢); omega))
          · refine mw_iload cx (q := 89) 5 rfl dX12_endOf_87 rfl ?_
            refine mw_bipush cx (q := 91) (v := 40) dX12_endOf_89 rfl rfl ?_
            refine mw_icmp_eq cx (tgt := 110) (q := 94) dX12_endOf_91 (by decide) rfl (fun h21 => ?_) (fun h21 => ?_)
            · refine mw_iconst cx (q := 111) (v := 0) dX12_endOf_110 rfl rfl ?_
              refine mw_sub [1, 2, 3, 4] rfl ?_
              exact hK19 false (by intro hz; first | exact absurd hz (by decide) | exact Or.inl (by assumption) | exact Or.inr (by (try simp only [vp_in_iff, i32lt, i32le, i32eq, i32add, i32sub, i32mul, i32neg, t32_0, t32_1, t32_8, t32_40, t32_48, t32_57] at hp1 hT hI ivx1_0 ivx1_1 h3 ev9 ev10 qr120 jv13_0 h20 jv5_0 h21 ⊢); omega))
            · refine mw_iload cx (q := 96) 5 rfl dX12_endOf_94 rfl ?_
              refine mw_bipush cx (q := 98) (v := 41) dX12_endOf_96 rfl rfl ?_
              refine mw_icmp_eq cx (tgt := 110) (q := 101) dX12_endOf_98 (by decide) rfl (fun h22 => ?_) (fun h22 => ?_)
              · refine mw_iconst cx (q := 111) (v := 0) dX12_endOf_110 rfl rfl ?_
                refine mw_sub [1, 2, 3, 4] rfl ?_
                exact hK19 false (by intro hz; first | exact absurd hz (by decide) | exact Or.inl (by assumption) | exact Or.inr (by (try simp only [vp_in_iff, i32lt, i32le, i32eq, i32add, i32sub, i32mul, i32neg, t32_0, t32_1, t32_8, t32_40, t32_41, t32_48, t32_57] at hp1 hT hI ivx1_0 ivx1_1 h3 ev9 ev10 qr120 jv13_0 h20 jv5_0 h21 h22 ⊢); omega))
              · refine mw_iload cx (q := 103) 0 rfl dX12_endOf_101 rfl ?_
                refine mw_ifb_eq cx (tgt := 110) (q := 106) dX12_endOf_103 (by decide) rfl (fun h23 => ?_) (fun h23 => ?_)
                · refine mw_iconst cx (q := 111) (v := 0) dX12_endOf_110 rfl rfl ?_
                  refine mw_sub [1, 2, 3, 4] rfl ?_
                  exact hK19 false (by intro hz; first | exact absurd hz (by decide) | exact Or.inl (by assumption) | exact Or.inr (by (try simp only [vp_in_iff, i32lt, i32le, i32eq, i32add, i32sub, i32mul, i32neg, t32_0, t32_1, t32_8, t32_40, t32_41, t32_48, t32_57] at hp1 hT hI ivx1_0 ivx1_1 h3 ev9 ev10 qr120 jv13_0 h20 h23 jv5_0 h21 h22 ⊢); omega))
                · refine mw_iconst cx (q := 107) (v := 1) dX12_endOf_106 rfl rfl ?_
                  refine mw_goto cx (tgt := 111) dX12_endOf_107 (by decide) ?_
                  refine mw_sub [1, 2, 3, 4] rfl ?_
                  exact hK19 true (by intro hz; first | exact absurd hz (by decide) | exact Or.inl (by assumption) | exact Or.inr (jv13_0 h23))
      · refine mw_ifb_ne cx (tgt := 76) (q := 68) dX12_endOf_65 (by decide) rfl (fun h15 => ?_) (fun h15 => ?_)
        · refine mw_iconst cx (q := 77) (v := 1) dX12_endOf_76 rfl rfl ?_
          refine mw_goto cx (tgt := 81) dX12_endOf_77 (by decide) ?_
          refine mw_sub [3, 4, 2, 1, 5] rfl ?_
          exact hK14 true (by intro hz; first | exact absurd hz (by decide) | exact tok_e (r := r11) (by assumption) (qr120 h15).1)
        · refine mw_iload cx (q := 70) 0 rfl dX12_endOf_68 rfl ?_
          refine mw_bnd (fun r16 er16 => ?_)
          refine mw_callS cx (q := 73) (d := 1) (As := [.int r11]) (z := fzp M r16) (st := []) (st1 := [.int (b2i r16)]) (M' := M) (by rw [er16]; exact mc_X12_isLetter l D ta ad M r11) cv_X12_175 ⟨Nat.le_of_ble_eq_true rfl, Nat.le_of_ble_eq_true rfl⟩ ⟨Nat.le_refl _, Nat.le_refl _⟩ (by simp [Value.category]) rfl rfl rfl dX12_endOf_70 rfl ?_
          have qr160 : r16 = true → 48 ≤ r11.toInt ∧ 97 ≤ r11.toInt ∧ r11.toInt ≤ 122 := (fun hq => isLetter_t (er16.symm.trans hq))
          refine mw_ifb_eq cx (tgt := 80) (q := 76) dX12_endOf_73 (by decide) rfl (fun h17 => ?_) (fun h17 => ?_)
          · refine mw_iconst cx (q := 81) (v := 0) dX12_endOf_80 rfl rfl ?_
            refine mw_sub [3, 4, 2, 1, 5] rfl ?_
            exact hK14 false (by intro hz; first | exact absurd hz (by decide) | exact tok_e (r := r11) (by assumption) (by (try simp only [vp_in_iff, i32lt, i32le, i32eq, i32add, i32sub, i32mul, i32neg, t32_0, t32_1, t32_8, t32_48, t32_57, t32_97, t32_122] at qr120 h15 qr160 h17 h3 ivx1_0 ivx1_1 ev9 ev10 hp1 hT hI jv5_0 ⊢); omega))
          · refine mw_iconst cx (q := 77) (v := 1) dX12_endOf_76 rfl rfl ?_
            refine mw_goto cx (tgt := 81) dX12_endOf_77 (by decide) ?_
            refine mw_sub [3, 4, 2, 1, 5] rfl ?_
            exact hK14 true (by intro hz; first | exact absurd hz (by decide) | exact tok_e (r := r11) (by assumption) (qr160 h17).1)
    · refine mw_icmp_ne cx (tgt := 34) (q := 30) dX12_endOf_27 (by decide) rfl (fun h7 => ?_) (fun h7 => ?_)
      · refine mw_iload cx (q := 36) 0 rfl dX12_endOf_34 rfl ?_
        refine mw_bipush cx (q := 38) (v := 41) dX12_endOf_36 rfl rfl ?_
        refine mw_icmp_ne cx (tgt := 45) (q := 41) dX12_endOf_38 (by decide) rfl (fun h8 => ?_) (fun h8 => ?_)
        · refine mw_iconst cx (q := 46) (v := 0) dX12_endOf_45 rfl rfl ?_
          refine mw_sub [4, 5, 2, 0] rfl ?_
          exact hK6 0 (by unfold dl12; first | (rw [if_pos (by assumption)]; rfl) | (rw [if_neg (by assumption), if_pos (by assumption)]; rfl) | (rw [if_neg (by assumption), if_neg (by assumption)]; rfl))
        · refine mw_iconst cx (q := 42) (v := (-1)) dX12_endOf_41 rfl rfl ?_
          refine mw_goto cx (tgt := 46) dX12_endOf_42 (by decide) ?_
          refine mw_sub [4, 5, 2, 0] rfl ?_
          exact hK6 (-1) (by unfold dl12; first | (rw [if_pos (by assumption)]; rfl) | (rw [if_neg (by assumption), if_pos (by assumption)]; rfl) | (rw [if_neg (by assumption), if_neg (by assumption)]; rfl))
      · refine mw_iconst cx (q := 31) (v := 1) dX12_endOf_30 rfl rfl ?_
        refine mw_goto cx (tgt := 46) dX12_endOf_31 (by decide) ?_
        refine mw_sub [4, 5, 2, 0] rfl ?_
        exact hK6 1 (by unfold dl12; first | (rw [if_pos (by assumption)]; rfl) | (rw [if_neg (by assumption), if_pos (by assumption)]; rfl) | (rw [if_neg (by assumption), if_neg (by assumption)]; rfl))
theorem endOf_lp {m : Cm} {s : Int32} (hL : (m 3 0 s).toInt ≤ 120) : ∀ (k : Nat) (x : Bool × Int32 × Int32), E12 m s x.2.2 x.2.1 x.1 → (x.1 = true → x.2.1.toInt < (m 3 0 s).toInt) → x.2.1.toInt ≤ (m 3 0 s).toInt → 122 - x.2.1.toInt < k → x.2.1.toInt ≤ (f12_endOf_lp8 m s k x).toInt ∧ (f12_endOf_lp8 m s k x).toInt ≤ (m 3 0 s).toInt ∧ (x.1 = true → x.2.1.toInt < (f12_endOf_lp8 m s k x).toInt) := by
  intro k
  induction k with
  | zero => intro x hE _ h2 hk; have := hE.1; omega
  | succ k ih =>
    intro x hE h1 h2 hk
    rw [f12_endOf_lp8_s]
    by_cases c : x.1 = true
    · rw [if_pos c]
      have hlt := h1 c
      have h0 := hE.1
      refine bnd_I (P := fun r : Int32 => x.2.1.toInt ≤ r.toInt ∧ r.toInt ≤ (m 3 0 s).toInt ∧ (x.1 = true → x.2.1.toInt < r.toInt)) (fun r4 e4 => jn_I' (Q := fun v : Int32 => v.toInt = dl12 r4) (P := fun r : Int32 => x.2.1.toInt ≤ r.toInt ∧ r.toInt ≤ (m 3 0 s).toInt ∧ (x.1 = true → x.2.1.toInt < r.toInt)) (fun K hK => ?_) (fun v5 h5 => bnd_I (P := fun r : Int32 => x.2.1.toInt ≤ r.toInt ∧ r.toInt ≤ (m 3 0 s).toInt ∧ (x.1 = true → x.2.1.toInt < r.toInt)) (fun v9 e9 => bnd_I (P := fun r : Int32 => x.2.1.toInt ≤ r.toInt ∧ r.toInt ≤ (m 3 0 s).toInt ∧ (x.1 = true → x.2.1.toInt < r.toInt)) (fun v10 e10 => bnd_I (P := fun r : Int32 => x.2.1.toInt ≤ r.toInt ∧ r.toInt ≤ (m 3 0 s).toInt ∧ (x.1 = true → x.2.1.toInt < r.toInt)) (fun r11 e11 => bnd_I (P := fun r : Int32 => x.2.1.toInt ≤ r.toInt ∧ r.toInt ≤ (m 3 0 s).toInt ∧ (x.1 = true → x.2.1.toInt < r.toInt)) (fun r12 e12 => jn_I' (Q := fun v : Bool => v = true → 48 ≤ r11.toInt) (P := fun r : Int32 => x.2.1.toInt ≤ r.toInt ∧ r.toInt ≤ (m 3 0 s).toInt ∧ (x.1 = true → x.2.1.toInt < r.toInt)) (fun K hK => ?_) (fun v13 h13 => jn_I' (Q := fun v : Bool => v = true → 0 < v9 ∨ 48 ≤ r11.toInt) (P := fun r : Int32 => x.2.1.toInt ≤ r.toInt ∧ r.toInt ≤ (m 3 0 s).toInt ∧ (x.1 = true → x.2.1.toInt < r.toInt)) (fun K hK => ?_) (fun v18 h18 => ?_))))))))
      · by_cases c1 : r4 = 40
        · rw [if_pos c1]; exact hK _ (by rw [dl12, if_pos c1]; rfl)
        · rw [if_neg c1]
          by_cases c2 : r4 = 41
          · rw [if_pos c2]; exact hK _ (by rw [dl12, if_neg c1, if_pos c2]; rfl)
          · rw [if_neg c2]; exact hK _ (by rw [dl12, if_neg c1, if_neg c2]; rfl)
      · by_cases c1 : r12 = true
        · rw [if_pos c1]; exact hK _ (fun _ => (isDigit_t (by rw [← e12]; exact c1)).1)
        · rw [if_neg c1]
          refine bnd_I (P := fun r : Int32 => x.2.1.toInt ≤ r.toInt ∧ r.toInt ≤ (m 3 0 s).toInt ∧ (x.1 = true → x.2.1.toInt < r.toInt)) (fun r16 e16 => ?_)
          by_cases c2 : r16 = true
          · rw [if_pos c2]; exact hK _ (fun _ => (isLetter_t (by rw [← e16]; exact c2)).1)
          · rw [if_neg c2]; exact hK _ (fun z => absurd z (by decide))
      · by_cases c1 : 0 < v9
        · rw [if_pos c1]; exact hK _ (fun _ => Or.inl c1)
        · rw [if_neg c1]
          split
          · exact hK _ (fun z => absurd z (by decide))
          · split
            · exact hK _ (fun z => absurd z (by decide))
            · split
              · rename_i c3; exact hK _ (fun _ => Or.inr (h13 c3))
              · exact hK _ (fun z => absurd z (by decide))
      · have hg : v18 = true → 0 < v9 ∨ 48 ≤ (f12_signAt m s v10).toInt := fun z => by rw [← e11]; exact h18 z
        have hE' := E12.step hL hE c e10 e4 h5 e9 hg
        have e1 : v10.toInt = x.2.1.toInt + 1 := by rw [e10]; exact inc_t h0 (by omega)
        have hl' : v18 = true → v10.toInt < (m 3 0 s).toInt := by
          intro z
          rcases hg z with hh | hh
          · have hb := (hE'.2.2.2.2 z).2
            by_cases cc : v10.toInt < (m 3 0 s).toInt
            · exact cc
            · have := hb v10.toInt.toNat 0 (by omega) (by omega)
              have h00 : sf12 m s v10.toInt.toNat 0 = 0 := rfl
              simp only [i32lt, t32_0] at hh
              omega
          · exact signAt_t rfl hh
        have hr := ih (v18, v10, v9) hE' hl' (by show v10.toInt ≤ _; omega) (by show 122 - v10.toInt < _; omega)
        have hr1 : v10.toInt ≤ (f12_endOf_lp8 m s k (v18, v10, v9)).toInt := hr.1
        exact ⟨by omega, hr.2.1, fun _ => by omega⟩
    · rw [if_neg c]; exact ⟨Int.le_refl _, h2, fun z => absurd z c⟩
theorem endOf_o {m : Cm} {s i : Int32} (hk : Ok12 m) (hs : vp_in s 8) (hT : Tx12 m s) (hI : Ix12 m s i) : i.toInt < (f12_endOf m s i).toInt ∧ (f12_endOf m s i).toInt ≤ (m 3 0 s).toInt := by
  have h := endOf_lp (hk.len s hs).2 123 (true, i, 0) (E12.start hT hI) (fun _ => hI.2) (by have := hI.2; show i.toInt ≤ _; omega) (by have := hI.1; show 122 - i.toInt < _; omega)
  exact ⟨h.2.2 rfl, h.2.1⟩
/-- none, or where an expression begins, not ahead of an index -/
def nxP (m : Cm) (s i r : Int32) : Prop := r = -1 ∨ (i.toInt ≤ r.toInt ∧ r.toInt < (m 3 0 s).toInt ∧ ¬ f12_signAt m s r = 0 ∧ ¬ f12_signAt m s r = 32 ∧ ¬ f12_signAt m s r = 41)
theorem nextAt_o {m : Cm} {s i : Int32} (hk : Ok12 m) (hs : vp_in s 8) (h0 : 0 ≤ i.toInt) (h1 : i.toInt ≤ 121) : nxP m s i (f12_nextAt m s i) := by
  have hL := (hk.len s hs).2
  have key : ∀ (K : Int32 → Int32), (∀ y : Int32, i.toInt ≤ y.toInt → ¬ f12_signAt m s y = 32 → nxP m s i (K y)) → ∀ (k : Nat) (x : Int32), i.toInt ≤ x.toInt → x.toInt ≤ 121 → 122 - x.toInt < k → nxP m s i (f12_nextAt_lp2 m s K k x) := by
    intro K hK k
    induction k with
    | zero => intro x a b c; omega
    | succ k ih =>
      intro x a b c
      rw [f12_nextAt_lp2_s]
      refine bnd_I (P := nxP m s i) (fun r e => ?_)
      by_cases c1 : r = 32
      · rw [if_pos c1]
        have hlt := signAt_r e c1 (by decide)
        refine bnd_I (P := nxP m s i) (fun v ev => ?_)
        have e1 : v.toInt = x.toInt + 1 := by rw [ev]; exact inc_t (by omega) (by omega)
        exact ih v (by omega) (by omega) (by omega)
      · rw [if_neg c1]; exact hK x a (by rw [← e]; exact c1)
  unfold f12_nextAt
  refine jn_I' (Q := fun y : Int32 => i.toInt ≤ y.toInt ∧ ¬ f12_signAt m s y = 32) (P := nxP m s i) (fun K hK => key K (fun y a b => hK y ⟨a, b⟩) 123 i (Int.le_refl _) h1 (by omega)) (fun y hy => bnd_I (P := nxP m s i) (fun r e => ?_))
  by_cases c1 : r = 0
  · rw [if_pos c1]; exact Or.inl rfl
  · rw [if_neg c1]
    by_cases c2 : r = 41
    · rw [if_pos c2]; exact Or.inl rfl
    · rw [if_neg c2]
      rw [e] at c1 c2
      exact Or.inr ⟨hy.1, signAt_lt c1, c1, hy.2, c2⟩
theorem nextAt_n {m : Cm} {s i : Int32} (hk : Ok12 m) (hs : vp_in s 8) (h0 : 0 ≤ i.toInt) (h1 : i.toInt ≤ 121) : Nx12 m s (f12_nextAt m s i) := (nextAt_o hk hs h0 h1).elim Or.inl (fun h => Or.inr ⟨by have := h.1; omega, h.2.1⟩)
def f12_following (m : Cm) (p1 : Int32) (p2 : Int32) : Int32 := bnd (f12_endOf m p1 p2) (fun (r1 : Int32) => bnd (f12_nextAt m p1 r1) (fun (r2 : Int32) => r2))
set_option maxHeartbeats 4000000 in
set_option maxRecDepth 100000 in
theorem mc_X12_following (l : Launch) (D : va_G) (ta : wTa) (ad : wAd) (M : Wm) (p1 : Int32) (p2 : Int32) (hok : Ok12 (M 12)) (hp1 : vp_in p1 8) (hT : Tx12 (M 12) p1) (hI : Ix12 (M 12) p1 p2) : MC l D ta ad yX12_following cX12_following 3 (some .int) 3 [.ref (ad 12 0 0), .int p1, .int p2] M (fip M (f12_following (M 12) p1 p2)) := by
  refine MC.of (fip M) (f12_following (M 12) p1 p2) rfl (by decide) (Nat.le_of_ble_eq_true rfl) (fun p e s m args below meth c cx hr => ?_)
  unfold f12_following
  refine mw_sub (lv' := [(0, .ref (ad 12 0 0)), (1, .int p1), (2, .int p2)]) [0, 1, 2] rfl ?_
  refine mw_aload_n cx (q := 1) 0 rfl rfl dX12_following_0 rfl ?_
  refine mw_iload_n cx (q := 2) 1 rfl rfl dX12_following_1 rfl ?_
  refine mw_aload_n cx (q := 3) 0 rfl rfl dX12_following_2 rfl ?_
  refine mw_iload_n cx (q := 4) 1 rfl rfl dX12_following_3 rfl ?_
  refine mw_iload_n cx (q := 5) 2 rfl rfl dX12_following_4 rfl ?_
  refine mw_bnd (fun r1 er1 => ?_)
  refine mw_callV cx (q := 8) (d := 2) (As := [.int p1, .int p2]) (z := fip M r1) (st := [.int p1, .ref (ad 12 0 0)]) (st1 := [.int r1, .int p1, .ref (ad 12 0 0)]) (M' := M) (by rw [er1]; exact mc_X12_endOf l D ta ad M p1 p2 hok hp1 hT hI) cv_X12_195 rfl rfl rfl vi_12_0 ⟨Nat.le_of_ble_eq_true rfl, Nat.le_of_ble_eq_true rfl⟩ ⟨Nat.le_refl _, Nat.le_refl _⟩ (by simp [Value.category]) rfl rfl rfl dX12_following_5 rfl ?_
  have he : p2.toInt < (r1).toInt ∧ (r1).toInt ≤ ((M 12) 3 0 p1).toInt := (by rw [er1]; exact endOf_o hok hp1 hT hI)
  refine mw_bnd (fun r2 er2 => ?_)
  refine mw_callV cx (q := 11) (d := 1) (As := [.int p1, .int r1]) (z := fip M r2) (st := []) (st1 := [.int r2]) (M' := M) (by rw [er2]; exact mc_X12_nextAt l D ta ad M p1 r1 hok hp1 (by have := he.1; have := hI.1; omega) (by have := he.2; have := (hok.len p1 hp1).2; omega)) cv_X12_198 rfl rfl rfl vi_12_0 ⟨Nat.le_of_ble_eq_true rfl, Nat.le_of_ble_eq_true rfl⟩ ⟨Nat.le_refl _, Nat.le_refl _⟩ (by simp [Value.category]) rfl rfl rfl dX12_following_8 rfl ?_
  exact mw_iret cx hr rfl dX12_following_11
theorem following_o {m : Cm} {s i : Int32} (hk : Ok12 m) (hs : vp_in s 8) (hT : Tx12 m s) (hI : Ix12 m s i) : nxP m s (i + 1) (f12_following m s i) := by
  have h := endOf_o hk hs hT hI
  have h0 := hI.1
  have hL := (hk.len s hs).2
  have e1 : (i + 1).toInt = i.toInt + 1 := inc_t h0 (by have := hI.2; omega)
  unfold f12_following
  refine bnd_I (P := nxP m s (i + 1)) (fun r e => ?_)
  rw [← e] at h
  refine bnd_I (P := nxP m s (i + 1)) (fun q eq => ?_)
  rw [eq]
  rcases nextAt_o hk hs (i := r) (by omega) (by omega) with z | z
  · exact Or.inl z
  · exact Or.inr ⟨by have := z.1; omega, z.2⟩
theorem following_n {m : Cm} {s i : Int32} (hk : Ok12 m) (hs : vp_in s 8) (hT : Tx12 m s) (hI : Ix12 m s i) : Nx12 m s (f12_following m s i) := (following_o hk hs hT hI).elim Or.inl (fun h => Or.inr ⟨by have := h.1; have e1 : (i + 1).toInt = i.toInt + 1 := inc_t hI.1 (by have := hI.2; have := (hk.len s hs).2; omega); have := hI.1; omega, h.2.1⟩)
