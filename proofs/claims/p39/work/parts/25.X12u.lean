/-- how many signs stand behind an index; none behind none -/
def mu12 (x : Int32) : Nat := if x = -1 then 0 else (122 - x.toInt).toNat
theorem mu12_le {m : Cm} {s i : Int32} (h : Nx12 m s i) : mu12 i < 123 := by
  unfold mu12; split
  · omega
  · rename_i c; have := (h.resolve_left c).1; omega
theorem mu12_lt {m : Cm} {s i : Int32} (hk : Ok12 m) (hs : vp_in s 8) (hT : Tx12 m s) (hI : Ix12 m s i) : mu12 (f12_following m s i) < mu12 i := by
  have hL := (hk.len s hs).2
  have h0 := hI.1; have h1 := hI.2
  have e1 : (i + 1).toInt = i.toInt + 1 := inc_t h0 (by omega)
  have hi : ¬ i = -1 := by intro z; rw [z] at h0; exact absurd h0 (by decide)
  unfold mu12
  rw [if_neg hi]
  rcases following_o hk hs hT hI with z | z
  · rw [if_pos z]; omega
  · split
    · omega
    · have := z.1; omega
def f12_countFrom_lp5 (m : Cm) (p1 : Int32) : Nat → (Int32 × Int32) → Int32
  | 0, x1 => 0
  | n2 + 1, x1 => if x1.1 = (-1) then x1.2 else bnd (x1.2 + 1) (fun (v4 : Int32) => bnd (f12_following m p1 x1.1) (fun (r5 : Int32) => f12_countFrom_lp5 m p1 n2 (r5, v4)))
theorem f12_countFrom_lp5_s (m : Cm) (p1 : Int32) (n2 : Nat) (x1 : Int32 × Int32) : f12_countFrom_lp5 m p1 (n2 + 1) x1 = if x1.1 = (-1) then x1.2 else bnd (x1.2 + 1) (fun (v4 : Int32) => bnd (f12_following m p1 x1.1) (fun (r5 : Int32) => f12_countFrom_lp5 m p1 n2 (r5, v4))) := rfl
def f12_countFrom (m : Cm) (p1 : Int32) (p2 : Int32) : Int32 := f12_countFrom_lp5 m p1 123 (p2, 0)
def f12_isName (m : Cm) (p1 : Int32) (p2 : Int32) : Bool := if p2 = (-1) then false else bnd (f12_signAt m p1 p2) (fun (r2 : Int32) => bnd (f12_isLetter r2) (fun (r3 : Bool) => if r3 = true then true else false))
theorem isName_i {m : Cm} {s i : Int32} (hN : Nx12 m s i) (h : f12_isName m s i = true) : Ix12 m s i := by
  refine hN.resolve_left (fun z => ?_)
  unfold f12_isName at h
  rw [if_pos z] at h; cases h
def f12_nameAt_lp5 (m : Cm) (p1 : Int32) : Nat → (Int32 × Int32) → Int32
  | 0, x1 => 0
  | n2 + 1, x1 => bnd (f12_signAt m p1 x1.1) (fun (r3 : Int32) => bnd (f12_isLetter r3) (fun (r4 : Bool) => if r4 = true then bnd (f12_signAt m p1 x1.1) (fun (r6 : Int32) => bnd ((((27 * x1.2) + r6) - 96)) (fun (v7 : Int32) => bnd (x1.1 + 1) (fun (v8 : Int32) => f12_nameAt_lp5 m p1 n2 (v8, v7)))) else x1.2))
theorem f12_nameAt_lp5_s (m : Cm) (p1 : Int32) (n2 : Nat) (x1 : Int32 × Int32) : f12_nameAt_lp5 m p1 (n2 + 1) x1 = bnd (f12_signAt m p1 x1.1) (fun (r3 : Int32) => bnd (f12_isLetter r3) (fun (r4 : Bool) => if r4 = true then bnd (f12_signAt m p1 x1.1) (fun (r6 : Int32) => bnd ((((27 * x1.2) + r6) - 96)) (fun (v7 : Int32) => bnd (x1.1 + 1) (fun (v8 : Int32) => f12_nameAt_lp5 m p1 n2 (v8, v7)))) else x1.2)) := rfl
def f12_nameAt (m : Cm) (p1 : Int32) (p2 : Int32) : Int32 := f12_nameAt_lp5 m p1 123 (p2, 0)
def f12_numberAt_lp34 (m : Cm) (p1 : Int32) (K9 : Int32 → Int32) : Nat → (Int32 × Int32) → Int32
  | 0, x8 => 0
  | n10 + 1, x8 => bnd (f12_signAt m p1 x8.1) (fun (r11 : Int32) => bnd (f12_isDigit r11) (fun (r12 : Bool) => if r12 = true then bnd (f12_signAt m p1 x8.1) (fun (r14 : Int32) => bnd ((((10 * x8.2) + r14) - 48)) (fun (v15 : Int32) => bnd (x8.1 + 1) (fun (v16 : Int32) => f12_numberAt_lp34 m p1 K9 n10 (v16, v15)))) else K9 x8.2))
theorem f12_numberAt_lp34_s (m : Cm) (p1 : Int32) (K9 : Int32 → Int32) (n10 : Nat) (x8 : Int32 × Int32) : f12_numberAt_lp34 m p1 K9 (n10 + 1) x8 = bnd (f12_signAt m p1 x8.1) (fun (r11 : Int32) => bnd (f12_isDigit r11) (fun (r12 : Bool) => if r12 = true then bnd (f12_signAt m p1 x8.1) (fun (r14 : Int32) => bnd ((((10 * x8.2) + r14) - 48)) (fun (v15 : Int32) => bnd (x8.1 + 1) (fun (v16 : Int32) => f12_numberAt_lp34 m p1 K9 n10 (v16, v15)))) else K9 x8.2)) := rfl
def f12_numberAt (m : Cm) (p1 : Int32) (p2 : Int32) : Int32 := bnd (f12_signAt m p1 p2) (fun (r1 : Int32) => jn (fun (v2 : Bool) => jn (fun (v5 : Int32) => jn (fun (y17 : Int32) => if v2 = true then (-y17) else y17) (fun K9 => f12_numberAt_lp34 m p1 K9 (123 + 0 * (p1).toInt.toNat) (v5, 0))) (fun K6 => if v2 = true then K6 (p2 + 1) else K6 p2)) (fun K3 => if r1 = 45 then K3 true else K3 false))
def f12_goodAt (m : Cm) (p1 : Int32) (p2 : Int32) : Int32 := bnd (f12_isName m p1 p2) (fun (r1 : Bool) => jn (fun (v2 : Int32) => bnd (f12_in v2 1 8) (fun (r6 : Bool) => if r6 = true then (v2 - 1) else (-1))) (fun K3 => if r1 = true then bnd (f12_nameAt m p1 p2) (fun (r5 : Int32) => K3 r5) else K3 0))
theorem goodAt_in {m : Cm} {s i : Int32} (h : ¬ f12_goodAt m s i = -1) : vp_in (f12_goodAt m s i) 8 := by
  have key : oIn 8 (f12_goodAt m s i) := by
    unfold f12_goodAt
    refine bnd_I (P := oIn 8) (fun r e => jn_I (P := oIn 8) (fun K hK => ?_) (fun v => bnd_I (P := oIn 8) (fun q eq => ?_)))
    · split
      · exact bnd_I (P := oIn 8) (fun x ex => hK x)
      · exact hK 0
    · by_cases c : q = true
      · rw [if_pos c]
        have hi := in_i (eq.symm.trans c)
        simp only [t32_1, t32_8] at hi
        exact Or.inr (by rw [vp_in_iff, i32subn (by rw [t32_1]; omega) (by rw [t32_1]; omega), t32_1]; omega)
      · rw [if_neg c]; exact Or.inl rfl
  exact key.ix h
def f12_read (p1 : Int32) (p2 : Int32) : Int32 := bnd (f12_isDigit p1) (fun (r1 : Bool) => if r1 = true then if 2 ≤ p2 then if 8 ≤ p2 then (-1) else (p2 + 1) else 3 else bnd (f12_isLetter p1) (fun (r3 : Bool) => if r3 = true then if p2 = 0 then 11 else if p2 ≤ 10 then (-1) else if 16 ≤ p2 then (-1) else (p2 + 1) else if p1 = 45 then if p2 = 0 then 1 else (-1) else if p2 = 1 then (-1) else 0))
def f12_faultOf_lp7 (m : Cm) (p1 : Int32) (K2 : (Int32 × Int32) → Int32) : Nat → (Int32 × Int32 × Int32) → Int32
  | 0, x1 => 0
  | n3 + 1, x1 => if (m 3 0 p1) ≤ x1.1 then K2 (x1.2.2, x1.2.1) else bnd (f12_signAt m p1 x1.1) (fun (r5 : Int32) => bnd (f12_read r5 x1.2.1) (fun (r6 : Int32) => jn (fun (v7 : Int32) => bnd ((x1.2.2 + v7)) (fun (v11 : Int32) => if r6 = (-1) then x1.1 else if v11 < 0 then x1.1 else if v11 ≤ 20 then bnd (x1.1 + 1) (fun (v15 : Int32) => f12_faultOf_lp7 m p1 K2 n3 (v15, r6, v11)) else x1.1)) (fun K8 => if r5 = 40 then K8 1 else if r5 = 41 then K8 (-1) else K8 0)))
theorem f12_faultOf_lp7_s (m : Cm) (p1 : Int32) (K2 : (Int32 × Int32) → Int32) (n3 : Nat) (x1 : Int32 × Int32 × Int32) : f12_faultOf_lp7 m p1 K2 (n3 + 1) x1 = if (m 3 0 p1) ≤ x1.1 then K2 (x1.2.2, x1.2.1) else bnd (f12_signAt m p1 x1.1) (fun (r5 : Int32) => bnd (f12_read r5 x1.2.1) (fun (r6 : Int32) => jn (fun (v7 : Int32) => bnd ((x1.2.2 + v7)) (fun (v11 : Int32) => if r6 = (-1) then x1.1 else if v11 < 0 then x1.1 else if v11 ≤ 20 then bnd (x1.1 + 1) (fun (v15 : Int32) => f12_faultOf_lp7 m p1 K2 n3 (v15, r6, v11)) else x1.1)) (fun K8 => if r5 = 40 then K8 1 else if r5 = 41 then K8 (-1) else K8 0))) := rfl
def f12_faultOf (m : Cm) (p1 : Int32) : Int32 := jn (fun (y16 : Int32 × Int32) => if 0 < y16.1 then (m 3 0 p1) else if y16.2 = 1 then (m 3 0 p1) else (-1)) (fun K2 => f12_faultOf_lp7 m p1 K2 122 (0, 0, 0))
