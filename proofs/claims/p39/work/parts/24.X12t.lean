/-! TEXTS: an index within one, none or an index, and what a text without fault is -/
def Ix12 (m : Cm) (s i : Int32) : Prop := 0 ≤ i.toInt ∧ i.toInt < (m 3 0 s).toInt
def Nx12 (m : Cm) (s i : Int32) : Prop := i = -1 ∨ Ix12 m s i
def dl12 (x : Int32) : Int := if x = 40 then 1 else if x = 41 then -1 else 0
/-- how far a run of signs goes down -/
def sf12 (m : Cm) (s : Int32) : Nat → Nat → Int
  | _, 0 => 0
  | i, k + 1 => dl12 (f12_signAt m s (nI i)) + sf12 m s (i + 1) k
/-- from any sign of it on a text without fault opens no more than it closes -/
def Tx12 (m : Cm) (s : Int32) : Prop := ∀ i k : Nat, (i : Int) + k = (m 3 0 s).toInt → sf12 m s i k ≤ 0
theorem signAt_fr {m m' : Cm} (h : m' 2 = m 2 ∧ m' 3 = m 3) (s i : Int32) : f12_signAt m' s i = f12_signAt m s i := by
  unfold f12_signAt; rw [h.1, h.2]
theorem sf12_fr {m m' : Cm} (h : m' 2 = m 2 ∧ m' 3 = m 3) (s : Int32) (i k : Nat) : sf12 m' s i k = sf12 m s i k := by
  induction k generalizing i with
  | zero => rfl
  | succ k ih => rw [sf12, sf12, signAt_fr h, ih]
theorem Tx12.fr {m m' : Cm} {s : Int32} (h : m' 2 = m 2 ∧ m' 3 = m 3) (t : Tx12 m s) : Tx12 m' s := by
  intro i k e
  rw [sf12_fr h]; rw [h.2] at e; exact t i k e
theorem Ix12.fr {m m' : Cm} {s i : Int32} (h : m' 2 = m 2 ∧ m' 3 = m 3) (t : Ix12 m s i) : Ix12 m' s i := by
  unfold Ix12 at t ⊢; rw [h.2]; exact t
theorem Nx12.fr {m m' : Cm} {s i : Int32} (h : m' 2 = m 2 ∧ m' 3 = m 3) (t : Nx12 m s i) : Nx12 m' s i := t.elim Or.inl (fun x => Or.inr (x.fr h))
theorem signAt_lt {m : Cm} {s i : Int32} (h : ¬ f12_signAt m s i = 0) : i.toInt < (m 3 0 s).toInt := by
  unfold f12_signAt at h
  by_cases c : m 3 0 s ≤ i
  · rw [if_pos c] at h; exact absurd rfl h
  · simp only [i32le] at c; omega
theorem signAt_z {m : Cm} {s i : Int32} (h : (m 3 0 s).toInt ≤ i.toInt) : f12_signAt m s i = 0 := by
  unfold f12_signAt
  rw [if_pos (by rw [i32le]; exact h)]
theorem signAt_r {m : Cm} {s i r k : Int32} (e : r = f12_signAt m s i) (h : r = k) (hk : ¬ k = 0) : i.toInt < (m 3 0 s).toInt := signAt_lt (by rw [← e, h]; exact hk)
theorem signAt_t {m : Cm} {s i r : Int32} (e : r = f12_signAt m s i) (h : 48 ≤ r.toInt) : i.toInt < (m 3 0 s).toInt := signAt_lt (by rw [← e]; intro z; rw [z, t32_0] at h; omega)
def f12_nextAt_lp2 (m : Cm) (p1 : Int32) (K2 : Int32 → Int32) : Nat → Int32 → Int32
  | 0, x1 => 0
  | n3 + 1, x1 => bnd (f12_signAt m p1 x1) (fun (r4 : Int32) => if r4 = 32 then bnd (x1 + 1) (fun (v6 : Int32) => f12_nextAt_lp2 m p1 K2 n3 v6) else K2 x1)
theorem f12_nextAt_lp2_s (m : Cm) (p1 : Int32) (K2 : Int32 → Int32) (n3 : Nat) (x1 : Int32) : f12_nextAt_lp2 m p1 K2 (n3 + 1) x1 = bnd (f12_signAt m p1 x1) (fun (r4 : Int32) => if r4 = 32 then bnd (x1 + 1) (fun (v6 : Int32) => f12_nextAt_lp2 m p1 K2 n3 v6) else K2 x1) := rfl
def f12_nextAt (m : Cm) (p1 : Int32) (p2 : Int32) : Int32 := jn (fun (y7 : Int32) => bnd (f12_signAt m p1 y7) (fun (r8 : Int32) => if r8 = 0 then (-1) else if r8 = 41 then (-1) else y7)) (fun K2 => f12_nextAt_lp2 m p1 K2 123 p2)
theorem inc_t {x : Int32} (h0 : 0 ≤ x.toInt) (h1 : x.toInt < 2147483647) : (x + 1).toInt = x.toInt + 1 := by
  rw [i32addn (by rw [t32_1]; omega) (by rw [t32_1]; omega), t32_1]
/-- what the search for an expression's end keeps: index, depth, and whether it goes on -/
def E12 (m : Cm) (s o e : Int32) (g : Bool) : Prop := 0 ≤ e.toInt ∧ e.toInt ≤ (m 3 0 s).toInt + 1 ∧ -e.toInt ≤ o.toInt ∧ o.toInt ≤ e.toInt ∧ (g = true → e.toInt ≤ (m 3 0 s).toInt ∧ ∀ i k : Nat, (i : Int) = e.toInt → (i : Int) + k = (m 3 0 s).toInt → o.toInt + sf12 m s i k ≤ 0)
theorem tok_e {m : Cm} {s i r : Int32} (e : r = f12_signAt m s i) (h : 48 ≤ r.toInt) : 48 ≤ (f12_signAt m s i).toInt := by rw [← e]; exact h
theorem nI_e {e : Int32} {i : Nat} (h : (i : Int) = e.toInt) : nI i = e := by
  apply Int32.toInt_inj.1
  rw [nI_toInt (by have := i32rng e; omega)]; exact h
theorem dl12_r (x : Int32) : -1 ≤ dl12 x ∧ dl12 x ≤ 1 := by
  unfold dl12; split
  · omega
  · split <;> omega
theorem E12.start {m : Cm} {s i : Int32} (hT : Tx12 m s) (h : Ix12 m s i) : E12 m s 0 i true := by
  refine ⟨h.1, by have := h.2; omega, by rw [t32_0]; have := h.1; omega, by rw [t32_0]; exact h.1, fun _ => ⟨by have := h.2; omega, fun j k e1 e2 => ?_⟩⟩
  rw [t32_0]; have := hT j k e2; omega
theorem E12.step {m : Cm} {s o e o' e' v sg : Int32} {gg g : Bool} (hL : (m 3 0 s).toInt ≤ 120) (hE : E12 m s o e gg) (hgg : gg = true) (he : e' = e + 1) (hs : sg = f12_signAt m s e) (hv : v.toInt = dl12 sg) (ho : o' = o + v) (hg : g = true → 0 < o' ∨ 48 ≤ (f12_signAt m s e').toInt) : E12 m s o' e' g := by
  obtain ⟨a1, a2, a3, a4, a5⟩ := hE
  obtain ⟨b1, b2⟩ := a5 hgg
  have hd := dl12_r sg
  have e1 : e'.toInt = e.toInt + 1 := by rw [he]; exact inc_t a1 (by omega)
  have o1 : o'.toInt = o.toInt + dl12 sg := by rw [ho, i32addn (by rw [hv]; omega) (by rw [hv]; omega), hv]
  have hlt : g = true → e.toInt < (m 3 0 s).toInt := by
    intro hz
    rcases hg hz with h | h
    · by_cases c : e.toInt < (m 3 0 s).toInt
      · exact c
      · have hee : e.toInt = (m 3 0 s).toInt := by omega
        have h0 := b2 e.toInt.toNat 0 (by omega) (by omega)
        have hs0 : sg = 0 := by rw [hs]; exact signAt_z (by omega)
        have hd0 : dl12 sg = 0 := by rw [hs0]; rfl
        simp only [i32lt, t32_0] at h
        have : sf12 m s e.toInt.toNat 0 = 0 := rfl
        omega
    · have := signAt_t rfl h; omega
  refine ⟨by omega, by omega, by omega, by omega, fun hz => ⟨by have := hlt hz; omega, fun i k hi hk => ?_⟩⟩
  have hb := b2 e.toInt.toNat (k + 1) (by omega) (by omega)
  have hi' : i = e.toInt.toNat + 1 := by omega
  rw [sf12, nI_e (e := e) (i := e.toInt.toNat) (by omega), ← hs, ← hi'] at hb
  omega
def f12_endOf_lp8 (m : Cm) (p1 : Int32) : Nat → (Bool × Int32 × Int32) → Int32
  | 0, x1 => 0
  | n2 + 1, x1 => if x1.1 = true then bnd (f12_signAt m p1 x1.2.1) (fun (r4 : Int32) => jn (fun (v5 : Int32) => bnd ((x1.2.2 + v5)) (fun (v9 : Int32) => bnd (x1.2.1 + 1) (fun (v10 : Int32) => bnd (f12_signAt m p1 v10) (fun (r11 : Int32) => bnd (f12_isDigit r11) (fun (r12 : Bool) => jn (fun (v13 : Bool) => jn (fun (v18 : Bool) => f12_endOf_lp8 m p1 n2 (v18, v10, v9)) (fun K19 => if 0 < v9 then K19 true else if r4 = 40 then K19 false else if r4 = 41 then K19 false else if v13 = true then K19 true else K19 false)) (fun K14 => if r12 = true then K14 true else bnd (f12_isLetter r11) (fun (r16 : Bool) => if r16 = true then K14 true else K14 false))))))) (fun K6 => if r4 = 40 then K6 1 else if r4 = 41 then K6 (-1) else K6 0)) else x1.2.1
theorem f12_endOf_lp8_s (m : Cm) (p1 : Int32) (n2 : Nat) (x1 : Bool × Int32 × Int32) : f12_endOf_lp8 m p1 (n2 + 1) x1 = if x1.1 = true then bnd (f12_signAt m p1 x1.2.1) (fun (r4 : Int32) => jn (fun (v5 : Int32) => bnd ((x1.2.2 + v5)) (fun (v9 : Int32) => bnd (x1.2.1 + 1) (fun (v10 : Int32) => bnd (f12_signAt m p1 v10) (fun (r11 : Int32) => bnd (f12_isDigit r11) (fun (r12 : Bool) => jn (fun (v13 : Bool) => jn (fun (v18 : Bool) => f12_endOf_lp8 m p1 n2 (v18, v10, v9)) (fun K19 => if 0 < v9 then K19 true else if r4 = 40 then K19 false else if r4 = 41 then K19 false else if v13 = true then K19 true else K19 false)) (fun K14 => if r12 = true then K14 true else bnd (f12_isLetter r11) (fun (r16 : Bool) => if r16 = true then K14 true else K14 false))))))) (fun K6 => if r4 = 40 then K6 1 else if r4 = 41 then K6 (-1) else K6 0)) else x1.2.1 := rfl
def f12_endOf (m : Cm) (p1 : Int32) (p2 : Int32) : Int32 := f12_endOf_lp8 m p1 123 (true, p2, 0)
theorem endOf_lp {m : Cm} {s : Int32} (hL : (m 3 0 s).toInt ≤ 120) : ∀ (k : Nat) (x : Bool × Int32 × Int32), E12 m s x.2.2 x.2.1 x.1 → (x.1 = true → x.2.1.toInt < (m 3 0 s).toInt) → x.2.1.toInt ≤ (m 3 0 s).toInt → 122 - x.2.1.toInt < k → x.2.1.toInt ≤ (f12_endOf_lp8 m s k x).toInt ∧ (f12_endOf_lp8 m s k x).toInt ≤ (m 3 0 s).toInt ∧ (x.1 = true → x.2.1.toInt < (f12_endOf_lp8 m s k x).toInt) := by
  intro k
  induction k with
  | zero => intro x hE _ h2 hk; have := hE.1; omega
  | succ k ih =>
    intro x hE h1 h2 hk
    rw [f12_endOf_lp8_s]
    by_cases c : x.1 = true
    · rw [if_pos c]
      have hlt := h1 c
      have h0 := hE.1
      refine bnd_I (P := fun r : Int32 => x.2.1.toInt ≤ r.toInt ∧ r.toInt ≤ (m 3 0 s).toInt ∧ (x.1 = true → x.2.1.toInt < r.toInt)) (fun r4 e4 => jn_I' (Q := fun v : Int32 => v.toInt = dl12 r4) (P := fun r : Int32 => x.2.1.toInt ≤ r.toInt ∧ r.toInt ≤ (m 3 0 s).toInt ∧ (x.1 = true → x.2.1.toInt < r.toInt)) (fun K hK => ?_) (fun v5 h5 => bnd_I (P := fun r : Int32 => x.2.1.toInt ≤ r.toInt ∧ r.toInt ≤ (m 3 0 s).toInt ∧ (x.1 = true → x.2.1.toInt < r.toInt)) (fun v9 e9 => bnd_I (P := fun r : Int32 => x.2.1.toInt ≤ r.toInt ∧ r.toInt ≤ (m 3 0 s).toInt ∧ (x.1 = true → x.2.1.toInt < r.toInt)) (fun v10 e10 => bnd_I (P := fun r : Int32 => x.2.1.toInt ≤ r.toInt ∧ r.toInt ≤ (m 3 0 s).toInt ∧ (x.1 = true → x.2.1.toInt < r.toInt)) (fun r11 e11 => bnd_I (P := fun r : Int32 => x.2.1.toInt ≤ r.toInt ∧ r.toInt ≤ (m 3 0 s).toInt ∧ (x.1 = true → x.2.1.toInt < r.toInt)) (fun r12 e12 => jn_I' (Q := fun v : Bool => v = true → 48 ≤ r11.toInt) (P := fun r : Int32 => x.2.1.toInt ≤ r.toInt ∧ r.toInt ≤ (m 3 0 s).toInt ∧ (x.1 = true → x.2.1.toInt < r.toInt)) (fun K hK => ?_) (fun v13 h13 => jn_I' (Q := fun v : Bool => v = true → 0 < v9 ∨ 48 ≤ r11.toInt) (P := fun r : Int32 => x.2.1.toInt ≤ r.toInt ∧ r.toInt ≤ (m 3 0 s).toInt ∧ (x.1 = true → x.2.1.toInt < r.toInt)) (fun K hK => ?_) (fun v18 h18 => ?_))))))))
      · by_cases c1 : r4 = 40
        · rw [if_pos c1]; exact hK _ (by rw [dl12, if_pos c1]; rfl)
        · rw [if_neg c1]
          by_cases c2 : r4 = 41
          · rw [if_pos c2]; exact hK _ (by rw [dl12, if_neg c1, if_pos c2]; rfl)
          · rw [if_neg c2]; exact hK _ (by rw [dl12, if_neg c1, if_neg c2]; rfl)
      · by_cases c1 : r12 = true
        · rw [if_pos c1]; exact hK _ (fun _ => (isDigit_t (by rw [← e12]; exact c1)).1)
        · rw [if_neg c1]
          refine bnd_I (P := fun r : Int32 => x.2.1.toInt ≤ r.toInt ∧ r.toInt ≤ (m 3 0 s).toInt ∧ (x.1 = true → x.2.1.toInt < r.toInt)) (fun r16 e16 => ?_)
          by_cases c2 : r16 = true
          · rw [if_pos c2]; exact hK _ (fun _ => (isLetter_t (by rw [← e16]; exact c2)).1)
          · rw [if_neg c2]; exact hK _ (fun z => absurd z (by decide))
      · by_cases c1 : 0 < v9
        · rw [if_pos c1]; exact hK _ (fun _ => Or.inl c1)
        · rw [if_neg c1]
          split
          · exact hK _ (fun z => absurd z (by decide))
          · split
            · exact hK _ (fun z => absurd z (by decide))
            · split
              · rename_i c3; exact hK _ (fun _ => Or.inr (h13 c3))
              · exact hK _ (fun z => absurd z (by decide))
      · have hg : v18 = true → 0 < v9 ∨ 48 ≤ (f12_signAt m s v10).toInt := fun z => by rw [← e11]; exact h18 z
        have hE' := E12.step hL hE c e10 e4 h5 e9 hg
        have e1 : v10.toInt = x.2.1.toInt + 1 := by rw [e10]; exact inc_t h0 (by omega)
        have hl' : v18 = true → v10.toInt < (m 3 0 s).toInt := by
          intro z
          rcases hg z with hh | hh
          · have hb := (hE'.2.2.2.2 z).2
            by_cases cc : v10.toInt < (m 3 0 s).toInt
            · exact cc
            · have := hb v10.toInt.toNat 0 (by omega) (by omega)
              have h00 : sf12 m s v10.toInt.toNat 0 = 0 := rfl
              simp only [i32lt, t32_0] at hh
              omega
          · exact signAt_t rfl hh
        have hr := ih (v18, v10, v9) hE' hl' (by show v10.toInt ≤ _; omega) (by show 122 - v10.toInt < _; omega)
        have hr1 : v10.toInt ≤ (f12_endOf_lp8 m s k (v18, v10, v9)).toInt := hr.1
        exact ⟨by omega, hr.2.1, fun _ => by omega⟩
    · rw [if_neg c]; exact ⟨Int.le_refl _, h2, fun z => absurd z c⟩
theorem endOf_o {m : Cm} {s i : Int32} (hk : Ok12 m) (hs : vp_in s 8) (hT : Tx12 m s) (hI : Ix12 m s i) : i.toInt < (f12_endOf m s i).toInt ∧ (f12_endOf m s i).toInt ≤ (m 3 0 s).toInt := by
  have h := endOf_lp (hk.len s hs).2 123 (true, i, 0) (E12.start hT hI) (fun _ => hI.2) (by have := hI.2; show i.toInt ≤ _; omega) (by have := hI.1; show 122 - i.toInt < _; omega)
  exact ⟨h.2.2 rfl, h.2.1⟩
/-- none, or where an expression begins, not ahead of an index -/
def nxP (m : Cm) (s i r : Int32) : Prop := r = -1 ∨ (i.toInt ≤ r.toInt ∧ r.toInt < (m 3 0 s).toInt ∧ ¬ f12_signAt m s r = 0 ∧ ¬ f12_signAt m s r = 32 ∧ ¬ f12_signAt m s r = 41)
theorem nextAt_o {m : Cm} {s i : Int32} (hk : Ok12 m) (hs : vp_in s 8) (h0 : 0 ≤ i.toInt) (h1 : i.toInt ≤ 121) : nxP m s i (f12_nextAt m s i) := by
  have hL := (hk.len s hs).2
  have key : ∀ (K : Int32 → Int32), (∀ y : Int32, i.toInt ≤ y.toInt → ¬ f12_signAt m s y = 32 → nxP m s i (K y)) → ∀ (k : Nat) (x : Int32), i.toInt ≤ x.toInt → x.toInt ≤ 121 → 122 - x.toInt < k → nxP m s i (f12_nextAt_lp2 m s K k x) := by
    intro K hK k
    induction k with
    | zero => intro x a b c; omega
    | succ k ih =>
      intro x a b c
      rw [f12_nextAt_lp2_s]
      refine bnd_I (P := nxP m s i) (fun r e => ?_)
      by_cases c1 : r = 32
      · rw [if_pos c1]
        have hlt := signAt_r e c1 (by decide)
        refine bnd_I (P := nxP m s i) (fun v ev => ?_)
        have e1 : v.toInt = x.toInt + 1 := by rw [ev]; exact inc_t (by omega) (by omega)
        exact ih v (by omega) (by omega) (by omega)
      · rw [if_neg c1]; exact hK x a (by rw [← e]; exact c1)
  unfold f12_nextAt
  refine jn_I' (Q := fun y : Int32 => i.toInt ≤ y.toInt ∧ ¬ f12_signAt m s y = 32) (P := nxP m s i) (fun K hK => key K (fun y a b => hK y ⟨a, b⟩) 123 i (Int.le_refl _) h1 (by omega)) (fun y hy => bnd_I (P := nxP m s i) (fun r e => ?_))
  by_cases c1 : r = 0
  · rw [if_pos c1]; exact Or.inl rfl
  · rw [if_neg c1]
    by_cases c2 : r = 41
    · rw [if_pos c2]; exact Or.inl rfl
    · rw [if_neg c2]
      rw [e] at c1 c2
      exact Or.inr ⟨hy.1, signAt_lt c1, c1, hy.2, c2⟩
theorem nextAt_n {m : Cm} {s i : Int32} (hk : Ok12 m) (hs : vp_in s 8) (h0 : 0 ≤ i.toInt) (h1 : i.toInt ≤ 121) : Nx12 m s (f12_nextAt m s i) := (nextAt_o hk hs h0 h1).elim Or.inl (fun h => Or.inr ⟨by have := h.1; omega, h.2.1⟩)
def f12_following (m : Cm) (p1 : Int32) (p2 : Int32) : Int32 := bnd (f12_endOf m p1 p2) (fun (r1 : Int32) => bnd (f12_nextAt m p1 r1) (fun (r2 : Int32) => r2))
theorem following_o {m : Cm} {s i : Int32} (hk : Ok12 m) (hs : vp_in s 8) (hT : Tx12 m s) (hI : Ix12 m s i) : nxP m s (i + 1) (f12_following m s i) := by
  have h := endOf_o hk hs hT hI
  have h0 := hI.1
  have hL := (hk.len s hs).2
  have e1 : (i + 1).toInt = i.toInt + 1 := inc_t h0 (by have := hI.2; omega)
  unfold f12_following
  refine bnd_I (P := nxP m s (i + 1)) (fun r e => ?_)
  rw [← e] at h
  refine bnd_I (P := nxP m s (i + 1)) (fun q eq => ?_)
  rw [eq]
  rcases nextAt_o hk hs (i := r) (by omega) (by omega) with z | z
  · exact Or.inl z
  · exact Or.inr ⟨by have := z.1; omega, z.2⟩
theorem following_n {m : Cm} {s i : Int32} (hk : Ok12 m) (hs : vp_in s 8) (hT : Tx12 m s) (hI : Ix12 m s i) : Nx12 m s (f12_following m s i) := (following_o hk hs hT hI).elim Or.inl (fun h => Or.inr ⟨by have := h.1; have e1 : (i + 1).toInt = i.toInt + 1 := inc_t hI.1 (by have := hI.2; have := (hk.len s hs).2; omega); have := hI.1; omega, h.2.1⟩)
