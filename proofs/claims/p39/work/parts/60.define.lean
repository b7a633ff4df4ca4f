/-! def -/
section OPS
variable {t x8 : Cm} {E : Int32 → Int32 → Prop} {L : Int} {w : Int32} {M0 M : Wm} {m0 m1 : Cm} {d s P first : Int32}
def fR (m0 : Cm) (s n0 fn : Int32) : Nat → Cm → Cm
  | 0, m => m
  | k + 1, m => u3 (fR m0 s n0 fn k m) 54 0 (3 * fn + nI k) (f12_nameAt m0 s (skp12 m0 s k n0))
theorem fR_g (m0 : Cm) (s n0 fn : Int32) : ∀ (k : Nat) (m : Cm) (g : Nat), ¬ g = 54 → fR m0 s n0 fn k m g = m g := by
  intro k
  induction k with
  | zero => intro m g _; rfl
  | succ k ih => intro m g hg; unfold fR; rw [u3_ne _ _ _ hg, ih m g hg]
theorem fR_no (m0 : Cm) (s n0 fn : Int32) (k : Nat) (m : Cm) : NO m (fR m0 s n0 fn k m) :=
  ⟨fun g hg => fR_g m0 s n0 fn k m g (fun z => by rw [z] at hg; cases hg), fun j _ => by rw [fR_g m0 s n0 fn k m 0 (by decide)]⟩
theorem fR_ok {m0 m : Cm} (s n0 fn : Int32) (h : Ok12 m) : ∀ k : Nat, Ok12 (fR m0 s n0 fn k m) := by
  intro k
  induction k with
  | zero => exact h
  | succ k ih => exact ok12_putA ih (by decide)
theorem i3_t {a : Int32} {k : Nat} (ha : 0 ≤ a.toInt ∧ a.toInt < 8) (hk : k < 3) : (3 * a + nI k).toInt = 3 * a.toInt + k := by
  have hm : (3 * a).toInt = 3 * a.toInt := by rw [i32muln (by rw [t32_3]; omega) (by rw [t32_3]; omega), t32_3]
  have tk : (nI k : Int32).toInt = k := nI_toInt (by omega)
  rw [i32addn (by rw [hm, tk]; omega) (by rw [hm, tk]; omega), hm, tk]
theorem fR_at {m0 m : Cm} {s n0 fn : Int32} (hf : 0 ≤ fn.toInt ∧ fn.toInt < 8) : ∀ (k : Nat), k ≤ 3 → (∀ i : Nat, i < k → fR m0 s n0 fn k m 54 0 (3 * fn + nI i) = f12_nameAt m0 s (skp12 m0 s i n0)) ∧ ∀ (a : Int32) (i : Nat), 0 ≤ a.toInt ∧ a.toInt < 8 → ¬ a = fn → i < 3 → fR m0 s n0 fn k m 54 0 (3 * a + nI i) = m 54 0 (3 * a + nI i) := by
  intro k
  induction k with
  | zero => intro _; exact ⟨fun i h => by omega, fun a i _ _ _ => rfl⟩
  | succ k ih =>
    intro hk
    obtain ⟨h1, h2⟩ := ih (by omega)
    refine ⟨fun i hi => ?_, fun a i ha hne hi => ?_⟩
    · unfold fR
      by_cases c : i = k
      · subst c; rw [u3_at]
      · have ne : ¬ 3 * fn + nI i = 3 * fn + nI k := by
          rw [i32eq, i3_t hf (by omega), i3_t hf (by omega)]; omega
        rw [u3_j ne]; exact h1 i (by omega)
    · unfold fR
      have ne : ¬ 3 * a + nI i = 3 * fn + nI k := by
        rw [i32eq] at hne
        rw [i32eq, i3_t ha hi, i3_t hf (by omega)]; omega
      rw [u3_j ne]; exact h2 a i ha hne hi
theorem lp82_e {fn n0 : Int32} {K : Int32 × Cm → Cm} {m : Cm} (hk0 : Ok12 m0) (hs : vp_in s 8) (hX : Tx12 m0 s) (hN : Nx12 m0 s n0) (ht : m 2 = m0 2 ∧ m 3 = m0 3) : ∀ (f k : Nat), k ≤ CN12 m0 s n0 → CN12 m0 s n0 - k < f → f12_define_lp82 s fn K f (skp12 m0 s k n0, nI k, fR m0 s n0 fn k m) = K (nI (CN12 m0 s n0), fR m0 s n0 fn (CN12 m0 s n0) m) := by
  intro f
  induction f with
  | zero => intro k h1 h2; omega
  | succ f ih =>
    intro k h1 h2
    have hlt := CN12_lt hk0 hs hX hN
    rw [f12_define_lp82_s]
    by_cases c1 : k = CN12 m0 s n0
    · have e : skp12 m0 s k n0 = -1 := (skp_cn hk0 hs hX k n0 hN).mpr (by omega)
      rw [if_pos e, c1]
    · have hj1 : ¬ skp12 m0 s k n0 = -1 := fun z => by have := (skp_cn hk0 hs hX k n0 hN).mp z; omega
      have e1 : (nI k : Int32) + 1 = nI (k + 1) := by
        rw [i32eq, inc_t (by rw [nI_toInt (by omega)]; omega) (by rw [nI_toInt (by omega)]; omega), nI_toInt (by omega), nI_toInt (by omega)]; omega
      have tf : fR m0 s n0 fn k m 2 = m0 2 ∧ fR m0 s n0 fn k m 3 = m0 3 := ⟨(fR_g _ _ _ _ k m 2 (by decide)).trans ht.1, (fR_g _ _ _ _ k m 3 (by decide)).trans ht.2⟩
      have tf1 : fR m0 s n0 fn (k + 1) m 2 = m0 2 ∧ fR m0 s n0 fn (k + 1) m 3 = m0 3 := ⟨(fR_g _ _ _ _ (k + 1) m 2 (by decide)).trans ht.1, (fR_g _ _ _ _ (k + 1) m 3 (by decide)).trans ht.2⟩
      rw [if_neg hj1]
      simp only [bnd_e]
      rw [nameAt_fr tf, e1]
      show f12_define_lp82 s fn K f (f12_following (fR m0 s n0 fn (k + 1) m) s (skp12 m0 s k n0), nI (k + 1), fR m0 s n0 fn (k + 1) m) = _
      rw [following_fr tf1, show f12_following m0 s (skp12 m0 s k n0) = skp12 m0 s (k + 1) n0 by rw [skp_s, if_neg hj1]]
      exact ih (k + 1) (by omega) (by omega)
/-- the row of a function's name in the class -/
theorem defines_row {n : Cm} {name : Int32} {K : Int32 → Bool × Cm} (h0 : 0 ≤ (n 0 0 6).toInt ∧ (n 0 0 6).toInt ≤ 8) : ∀ (f : Nat) (x : Int32), 0 ≤ x.toInt → x.toInt ≤ (n 0 0 6).toInt → (n 0 0 6).toInt - x.toInt < f → (∀ j : Int32, 0 ≤ j.toInt → j.toInt < x.toInt → ¬ n 5 0 j = name) → ∃ r : Int32, f2_defines_lp2 n name K f x = K r ∧ ((r = n 0 0 6 ∧ ∀ j : Int32, 0 ≤ j.toInt → j.toInt < (n 0 0 6).toInt → ¬ n 5 0 j = name) ∨ (0 ≤ r.toInt ∧ r.toInt < (n 0 0 6).toInt ∧ n 5 0 r = name)) := by
  intro f
  induction f with
  | zero => intro x a b c; omega
  | succ f ih =>
    intro x a b c h
    rw [f2_defines_lp2_s]
    by_cases c1 : n 0 0 6 ≤ x
    · rw [if_pos c1]
      simp only [i32le] at c1
      have e : x = n 0 0 6 := by rw [i32eq]; omega
      exact ⟨x, rfl, Or.inl ⟨e, fun j h1 h2 => h j h1 (by omega)⟩⟩
    · rw [if_neg c1]
      simp only [i32le] at c1
      by_cases c2 : n 5 0 x = name
      · rw [if_pos c2]; exact ⟨x, rfl, Or.inr ⟨a, by omega, c2⟩⟩
      · rw [if_neg c2]
        simp only [bnd_e]
        have e1 : (x + 1).toInt = x.toInt + 1 := inc_t a (by omega)
        exact ih (x + 1) (by omega) (by omega) (by omega) (fun j h1 h2 => by
          by_cases e : j = x
          · rw [e]; exact c2
          · exact h j h1 (by rw [i32eq] at e; omega))
theorem adv_def {m : Cm} (h : m 32 0 d = 17) : f12_advance m d = f12_define m d := by
  rw [adv_tell h (Or.inr rfl)]; unfold f12_tell; simp only [bnd_e]; rw [if_pos h]
theorem FnD.cells {m m' : Cm} {P j : Int32} (h : FnD t E P m j) (e2 : m' 2 = m 2 ∧ m' 3 = m 3) (e53 : m' 53 0 j = m 53 0 j) (e54 : ∀ i : Nat, i < 3 → m' 54 0 (3 * j + nI i) = m 54 0 (3 * j + nI i)) (e55 : m' 55 0 j = m 55 0 j) (e56 : m' 56 0 j = m 56 0 j) : FnD t E P m' j := by
  obtain ⟨a, b, c, e, f, g, h1, h2⟩ := h
  unfold FnD
  rw [e53, e55, e56, faultOf_fr e2]
  refine ⟨a, b, c, fun k k0 k1 => ?_, f, g, h1, h2⟩
  have c' := vp_in_iff.mp c
  have ek : k = nI k.toInt.toNat := by rw [i32eq, nI_toInt (by omega)]; omega
  have := e k k0 k1
  refine ⟨this.1, this.2.trans ?_⟩
  rw [ek, e54 k.toInt.toNat (by omega)]
/-- the reference's memory when a function has been put on row r -/
def dM (m0 m1 : Cm) (s n0 r name b : Int32) : Cm := u3 (u3 (u3 (u3 (u3 (fR m0 s n0 r (CN12 m0 s n0) m1) 52 0 r name) 53 0 r (nI (CN12 m0 s n0))) 55 0 r s) 56 0 r b) 0 0 50 (m1 0 0 50 + b2i (decide (r = m1 0 0 50)))
def dN (n : Cm) (r name P : Int32) : Cm := u3 (u3 (u3 n 5 0 r name) 6 0 r P) 0 0 6 (mxI (n 0 0 6) (r + 1))
section DM
variable {n0 r name b : Int32}
theorem dM_no : NO m1 (dM m0 m1 s n0 r name b) :=
  ((((((fR_no m0 s n0 r (CN12 m0 s n0) m1).trans (NO.g _ 0 _ _ rfl (by decide))).trans (NO.g _ 0 _ _ rfl (by decide))).trans (NO.g _ 0 _ _ rfl (by decide))).trans (NO.g _ 0 _ _ rfl (by decide))).trans (NO.s _ _ rfl))
theorem dM_52 (j : Int32) : dM m0 m1 s n0 r name b 52 0 j = if j = r then name else m1 52 0 j := by
  unfold dM
  rw [u3_ne _ _ _ (by decide), u3_ne _ _ _ (by decide), u3_ne _ _ _ (by decide), u3_ne _ _ _ (by decide)]
  by_cases c : j = r
  · rw [if_pos c, c, u3_at]
  · rw [if_neg c, u3_j c, fR_g _ _ _ _ _ _ 52 (by decide)]
theorem dM_53 (j : Int32) : dM m0 m1 s n0 r name b 53 0 j = if j = r then nI (CN12 m0 s n0) else m1 53 0 j := by
  unfold dM
  rw [u3_ne _ _ _ (by decide), u3_ne _ _ _ (by decide), u3_ne _ _ _ (by decide)]
  by_cases c : j = r
  · rw [if_pos c, c, u3_at]
  · rw [if_neg c, u3_j c, u3_ne _ _ _ (by decide), fR_g _ _ _ _ _ _ 53 (by decide)]
theorem dM_54 : dM m0 m1 s n0 r name b 54 = fR m0 s n0 r (CN12 m0 s n0) m1 54 := by
  unfold dM
  rw [u3_ne _ _ _ (by decide), u3_ne _ _ _ (by decide), u3_ne _ _ _ (by decide), u3_ne _ _ _ (by decide), u3_ne _ _ _ (by decide)]
theorem dM_55 (j : Int32) : dM m0 m1 s n0 r name b 55 0 j = if j = r then s else m1 55 0 j := by
  unfold dM
  rw [u3_ne _ _ _ (by decide), u3_ne _ _ _ (by decide)]
  by_cases c : j = r
  · rw [if_pos c, c, u3_at]
  · rw [if_neg c, u3_j c, u3_ne _ _ _ (by decide), u3_ne _ _ _ (by decide), fR_g _ _ _ _ _ _ 55 (by decide)]
theorem dM_56 (j : Int32) : dM m0 m1 s n0 r name b 56 0 j = if j = r then b else m1 56 0 j := by
  unfold dM
  rw [u3_ne _ _ _ (by decide)]
  by_cases c : j = r
  · rw [if_pos c, c, u3_at]
  · rw [if_neg c, u3_j c, u3_ne _ _ _ (by decide), u3_ne _ _ _ (by decide), u3_ne _ _ _ (by decide), fR_g _ _ _ _ _ _ 56 (by decide)]
theorem dM_0 {k : Int32} (hk : ¬ k = 50) : dM m0 m1 s n0 r name b 0 0 k = m1 0 0 k := by
  unfold dM
  rw [u3_s hk, u3_ne _ _ _ (by decide), u3_ne _ _ _ (by decide), u3_ne _ _ _ (by decide), u3_ne _ _ _ (by decide), fR_g _ _ _ _ _ _ 0 (by decide)]
theorem dM_g {g : Nat} (hg : ¬ g = 0 ∧ ¬ g = 52 ∧ ¬ g = 53 ∧ ¬ g = 54 ∧ ¬ g = 55 ∧ ¬ g = 56) : dM m0 m1 s n0 r name b g = m1 g := by
  unfold dM
  rw [u3_ne _ _ _ hg.1, u3_ne _ _ _ hg.2.2.2.2.2, u3_ne _ _ _ hg.2.2.2.2.1, u3_ne _ _ _ hg.2.2.1, u3_ne _ _ _ hg.2.1, fR_g _ _ _ _ _ _ g hg.2.2.2.1]
theorem dN_5 {n : Cm} (j : Int32) : dN n r name P 5 0 j = if j = r then name else n 5 0 j := by
  unfold dN
  rw [u3_ne _ _ _ (by decide), u3_ne _ _ _ (by decide)]
  by_cases c : j = r
  · rw [if_pos c, c, u3_at]
  · rw [if_neg c, u3_j c]
theorem dN_6 {n : Cm} (j : Int32) : dN n r name P 6 0 j = if j = r then P else n 6 0 j := by
  unfold dN
  rw [u3_ne _ _ _ (by decide)]
  by_cases c : j = r
  · rw [if_pos c, c, u3_at]
  · rw [if_neg c, u3_j c, u3_ne _ _ _ (by decide)]
theorem dM_50 {n : Cm} (h : n 0 0 6 = m1 0 0 50) (hr : 0 ≤ r.toInt ∧ r.toInt < 8) (hc : r.toInt ≤ (n 0 0 6).toInt ∧ (n 0 0 6).toInt ≤ 8) : (m1 0 0 50 + b2i (decide (r = m1 0 0 50)) = mxI (n 0 0 6) (r + 1) ∧ (mxI (n 0 0 6) (r + 1)).toInt = (if r = n 0 0 6 then r.toInt + 1 else (n 0 0 6).toInt)) ∧ 0 ≤ (mxI (n 0 0 6) (r + 1)).toInt ∧ (mxI (n 0 0 6) (r + 1)).toInt ≤ 8 := by
  have A : m1 0 0 50 + b2i (decide (r = m1 0 0 50)) = mxI (n 0 0 6) (r + 1) ∧ (mxI (n 0 0 6) (r + 1)).toInt = (if r = n 0 0 6 then r.toInt + 1 else (n 0 0 6).toInt) := by
    have e1 : (r + 1).toInt = r.toInt + 1 := inc_t hr.1 (by omega)
    rw [← h]
    unfold mxI b2i
    by_cases c : r = n 0 0 6
    · rw [if_pos c, ← c, decide_eq_true rfl, if_pos (show r < r + 1 by simp only [i32lt]; omega)]
      exact ⟨rfl, e1⟩
    · have : r.toInt < (n 0 0 6).toInt := by rw [i32eq] at c; omega
      rw [if_neg c, decide_eq_false c, if_neg (show ¬ n 0 0 6 < r + 1 by simp only [i32lt]; omega)]
      exact ⟨Int32.add_zero _, rfl⟩
  refine ⟨A, ?_, ?_⟩
  · rw [A.2]; split <;> omega
  · rw [A.2]; split <;> omega
theorem dM_ok {n : Cm} (hk : Ok12 m1) (hs : vp_in s 8) (hcn : CN12 m0 s n0 ≤ 3) (h : n 0 0 6 = m1 0 0 50) (hr : 0 ≤ r.toInt ∧ r.toInt < 8) (hc : r.toInt ≤ (n 0 0 6).toInt ∧ (n 0 0 6).toInt ≤ 8) : Ok12 (dM m0 m1 s n0 r name b) := by
  have A := dM_50 (m1 := m1) h hr hc
  have ok1 : Ok12 (u3 (fR m0 s n0 r (CN12 m0 s n0) m1) 52 0 r name) := ok12_putA (fR_ok s n0 r hk _) (by decide)
  have ok2 := (okT_g53 (m0 := u3 (fR m0 s n0 r (CN12 m0 s n0) m1) 52 0 r name) ⟨ok1, rfl, rfl⟩ (j := r) (x := nI (CN12 m0 s n0)) (by rw [vp_in_iff, nI_toInt (by omega)]; omega)).1
  have ok3 := (okT_g55 (m0 := (u3 (u3 (fR m0 s n0 r (CN12 m0 s n0) m1) 52 0 r name) 53 0 r (nI (CN12 m0 s n0)))) ⟨ok2, rfl, rfl⟩ (j := r) (x := s) hs).1
  have ok4 := ok12_putA (g := 56) (j := r) (x := b) ok3 (by decide)
  exact (okT_s50 (m0 := (u3 (u3 (u3 (u3 (fR m0 s n0 r (CN12 m0 s n0) m1) 52 0 r name) 53 0 r (nI (CN12 m0 s n0))) 55 0 r s) 56 0 r b)) ⟨ok4, rfl, rfl⟩ (x := m1 0 0 50 + b2i (decide (r = m1 0 0 50))) (by rw [A.1.1]; exact A.2)).1
/-- names and functions still answer alike -/
theorem dM_nr {n : Cm} (hB : RelB2 n m1) (hF : RelFn t E n m1) (hr : 0 ≤ r.toInt ∧ r.toInt < 8) (hr0 : r.toInt ≤ (n 0 0 6).toInt) (r3 : r = n 0 0 6 ∧ (∀ j : Int32, 0 ≤ j.toInt → j.toInt < (n 0 0 6).toInt → ¬ m1 52 0 j = name) ∨ 0 ≤ r.toInt ∧ r.toInt < (n 0 0 6).toInt ∧ m1 52 0 r = name) (hcn : CN12 m0 s n0 ≤ 3) (FD : FnD t E P (dM m0 m1 s n0 r name b) r) : RelB2 (dN n r name P) (dM m0 m1 s n0 r name b) ∧ RelFn t E (dN n r name P) (dM m0 m1 s n0 r name b) := by
  have A := dM_50 (m1 := m1) hF.1 hr ⟨hr0, hF.2.1.2⟩
  refine ⟨?_, ?_⟩
  · obtain ⟨a, b, c, e, f, g⟩ := hB
    unfold RelB2
    rw [dM_0 (by decide), dM_0 (by decide), dM_g (by decide), dM_g (by decide)]
    exact ⟨a, b, c, e, f, g⟩
  · have old : ∀ j : Int32, 0 ≤ j.toInt → j.toInt < (mxI (n 0 0 6) (r + 1)).toInt → ¬ j = r → j.toInt < (n 0 0 6).toInt := by
      intro j j0 j1 jr
      rw [A.1.2] at j1
      rw [i32eq] at jr
      by_cases c : r = n 0 0 6
      · rw [if_pos c] at j1; rw [← c]; omega
      · rw [if_neg c] at j1; exact j1
    have n06 : dN n r name P 0 0 6 = mxI (n 0 0 6) (r + 1) := by unfold dN; rw [u3_at]
    have c50 : dM m0 m1 s n0 r name b 0 0 50 = mxI (n 0 0 6) (r + 1) := by unfold dM; rw [u3_at]; exact A.1.1
    have FA := (fR_at (m0 := m0) (m := m1) (s := s) (n0 := n0) hr (CN12 m0 s n0) hcn).2
    unfold RelFn
    rw [n06, c50]
    refine ⟨rfl, A.2, fun i j i0 i1 j0 j1 => ?_, fun j j0 j1 => ?_⟩
    · rw [dM_52 i, dM_52 j]
      by_cases ci : i = r
      · by_cases cj : j = r
        · intro _; rw [ci, cj]
        · rw [if_pos ci, if_neg cj]
          intro z
          have oj := old j j0 j1 cj
          rcases r3 with ⟨q1, q2⟩ | ⟨q1, q2, q3⟩
          · exact absurd z.symm (q2 j j0 oj)
          · exact absurd (hF.2.2.1 j r j0 oj q1 q2 (z.symm.trans q3.symm)) cj
      · by_cases cj : j = r
        · rw [if_neg ci, if_pos cj]
          intro z
          have oi := old i i0 i1 ci
          rcases r3 with ⟨q1, q2⟩ | ⟨q1, q2, q3⟩
          · exact absurd z (q2 i i0 oi)
          · exact absurd (hF.2.2.1 i r i0 oi q1 q2 (z.trans q3.symm)) ci
        · rw [if_neg ci, if_neg cj]
          exact hF.2.2.1 i j i0 (old i i0 i1 ci) j0 (old j j0 j1 cj)
    · rw [dN_5 j, dN_6 j, dM_52 j]
      by_cases cj : j = r
      · rw [if_pos cj, if_pos cj, if_pos cj, cj]
        exact ⟨rfl, FD⟩
      · rw [if_neg cj, if_neg cj, if_neg cj]
        have oj := old j j0 j1 cj
        have H := hF.2.2.2 j j0 oj
        exact ⟨H.1, H.2.cells ⟨dM_g (by decide), dM_g (by decide)⟩ (by rw [dM_53 j, if_neg cj]) (fun i hi => by rw [dM_54]; exact FA j i ⟨j0, by have := hF.2.1.2; omega⟩ cj hi) (by rw [dM_55 j, if_neg cj]) (by rw [dM_56 j, if_neg cj])⟩
end DM
theorem define_c (hL : LsC t E m0 s P first) (hP9 : ¬ P = -1) (hn : CN12 m0 s first = 3) (hnm : f12_isName m0 s first = true) (hop : f12_opOf m0 (f12_nameAt m0 s first) = -1) (hC0 : Ct12 m0) (hgd : f12_goodAt m0 s first = -1) (hip : f12_isParts m0 s (f12_following m0 s first) = true) (hM : Mid t x8 E L w M0 m0 d M m1) (hl : LvI m1 d s 17 first) (hb : M 2 0 0 2 = M0 2 0 0 2 ∧ M 2 0 0 3 = M0 2 0 0 3) :
    PostA t x8 E L w M0 m0 d (f7_define M P) (f12_advance m1 d) := by
  have E1 : E s first := hL.e 0 (by omega)
  have P1 : f9_partOf t P 1 = Pl s first := hL.p 0 (by omega) 1 (by decide)
  have E2 := hL.e 1 (by omega)
  have P2 := hL.p 1 (by omega) 2 (by decide)
  have E3 := hL.e 2 (by omega)
  have P3 := hL.p 2 (by omega) 3 (by decide)
  have f2 := hL.e2 (by omega)
  have f3 := hL.e3 (by omega)
  rw [f2] at E2 P2
  rw [f3] at E3 P3
  have hk0 := hL.1.2.2.2.2
  have hX := hL.1.2.2.2.1
  have hT := hL.1.2.2.1
  have hs := hL.1.1
  have t1 := hM.tx
  have le := letter_e hL E1 hnm
  have ip := (isParts_e hk0 hs hX (hL.ix E2)).mp hip
  have ai := (areInner_e (M := M) hM.m9 hk0 hs hX hT E2 ip.1).mpr ip.2
  have ND := hT.2 _ E2
  have hle2 := (hL.ix E2).le hk0 hs
  obtain ⟨_, hx0, hLs⟩ := ND.2.2.2.1 ip.1
  have cn3 : CN12 m0 s (f12_nextAt m0 s (f12_following m0 s first + 1)) ≤ 3 := isParts_cn hk0 hs hX (hL.ix E2) hip
  have hN := hx0.nx hT
  -- the class' checks
  have hgo : f10_goodOf (f12_nameAt m0 s first) = -1 := by
    have : f12_goodAt m0 s first = f10_goodOf (f12_nameAt m0 s first) := by
      unfold f12_goodAt f10_goodOf
      simp only [bnd, jn]
      rw [if_pos hnm]
      unfold f12_in
      by_cases c1 : f12_nameAt m0 s first < 1
      · rw [if_pos c1, if_pos c1]; rfl
      · rw [if_neg c1, if_neg c1]
        by_cases c2 : 8 < f12_nameAt m0 s first
        · rw [if_pos c2, if_pos c2]; rfl
        · rw [if_neg c2, if_neg c2]; rfl
    rw [← this]; exact hgd
  have hof : f10_of (f12_nameAt m0 s first) = -1 := by rw [← opOf_of hC0]; exact hop
  unfold f7_define
  simp only [bnd_e]
  rw [hM.m9, P1, le.2.1, hof, if_pos (by decide), hgo, if_pos rfl, P2, ai]
  simp only [if_true]
  generalize hnn : f12_nameAt m0 s first = name
  generalize hn0 : f12_nextAt m0 s (f12_following m0 s first + 1) = n0 at ip ai hx0 hLs cn3 hN
  have hF := hM.2.1.2
  have fl := functionOf_last (m := m1) (x := name) (by rw [← hF.1]; exact hF.2.1.1) (by rw [← hF.1]; exact hF.2.1.2)
  rw [← hF.1] at fl
  -- the row in both
  have row : ∃ r : Int32, f2_defines (M 2) name P = (if r < 8 then (true, u3 (u3 (u3 (M 2) 5 0 r name) 6 0 r P) 0 0 6 (mxI (M 2 0 0 6) (r + 1))) else (false, M 2)) ∧ (if f12_functionOf m1 name = -1 then m1 0 0 50 else f12_functionOf m1 name) = r ∧ (r = M 2 0 0 6 ∧ (∀ j : Int32, 0 ≤ j.toInt → j.toInt < (M 2 0 0 6).toInt → ¬ m1 52 0 j = name) ∨ 0 ≤ r.toInt ∧ r.toInt < (M 2 0 0 6).toInt ∧ m1 52 0 r = name) := by
    obtain ⟨r, e1, e2⟩ := defines_row (n := M 2) (name := name) (K := fun (y7 : Int32) => if y7 < 8 then bnd (u3 (M 2) 5 0 y7 name) (fun (m9 : Cm) => bnd (u3 m9 6 0 y7 P) (fun (m10 : Cm) => bnd (u3 m10 0 0 6 (mxI (M 2 0 0 6) (y7 + 1))) (fun (m11 : Cm) => (true, m11)))) else (false, M 2)) hF.2.1 9 0 (by decide) (by rw [t32_0]; exact hF.2.1.1) (by rw [t32_0]; have := hF.2.1.2; omega) (fun j a b => by rw [t32_0] at b; omega)
    refine ⟨r, e1, ?_, ?_⟩
    · rcases e2 with ⟨q1, q2⟩ | ⟨q1, q2, q3⟩
      · rcases fl with ⟨z, _⟩ | ⟨a, b, c, _⟩
        · rw [if_pos z, q1, hF.1]
        · exact absurd ((hF.2.2.2 _ a b).1.trans c) (q2 _ a b)
      · rcases fl with ⟨z, z2⟩ | ⟨a, b, c, _⟩
        · exact absurd ((hF.2.2.2 r q1 q2).1.symm.trans q3) (z2 r q1 q2)
        · rw [if_neg (by intro z; rw [z] at a; exact absurd a (by decide))]
          exact hF.2.2.1 _ _ a b q1 q2 (c.trans ((hF.2.2.2 r q1 q2).1.symm.trans q3).symm)
    · rcases e2 with ⟨q1, q2⟩ | ⟨q1, q2, q3⟩
      · exact Or.inl ⟨q1, fun j a b => by rw [← (hF.2.2.2 j a b).1]; exact q2 j a b⟩
      · exact Or.inr ⟨q1, q2, by rw [← (hF.2.2.2 r q1 q2).1]; exact q3⟩
  obtain ⟨r, r1, r2, r3⟩ := row
  have hr0 : 0 ≤ r.toInt ∧ r.toInt ≤ (M 2 0 0 6).toInt := by
    rcases r3 with ⟨z, _⟩ | ⟨a, b, _⟩
    · rw [z]; exact ⟨hF.2.1.1, Int.le_refl _⟩
    · omega
  rw [r1]
  have a1 : f12_advance m1 d = if r = 8 then u3 m1 0 0 63 2 else f12_finish (u3 (u3 (u3 (u3 (u3 (fR m0 s n0 r (CN12 m0 s n0) m1) 52 0 r name) 53 0 r (nI (CN12 m0 s n0))) 55 0 r s) 56 0 r (f12_following m0 s (f12_following m0 s first))) 0 0 50 (m1 0 0 50 + b2i (decide (r = m1 0 0 50)))) 0 := by
    rw [adv_def hl.2.1]
    unfold f12_define
    simp only [bnd_e]
    rw [hl.1, hl.2.2, nameAt_fr t1, hnn]
    have J : ∀ (f : Int32 → Cm), jn f (fun K5 => if f12_functionOf m1 name = -1 then K5 (m1 0 0 50) else K5 (f12_functionOf m1 name)) = f r := by
      intro f
      simp only [jn]
      rw [← r2]
      by_cases c : f12_functionOf m1 name = -1
      · rw [if_pos c, if_pos c]
      · rw [if_neg c, if_neg c]
    rw [J, following_fr t1, nextAt_fr t1, hn0]
    by_cases c8 : r = 8
    · rw [if_pos c8, if_pos c8]
    · rw [if_neg c8, if_neg c8]
      simp only [jn]
      have e := fun K => lp82_e (fn := r) (K := K) (m := m1) hk0 hs hX hN t1 123 0 (Nat.zero_le _) (by omega)
      have e' : ∀ K : Int32 × Cm → Cm, f12_define_lp82 s r K 123 (n0, 0, m1) = K (nI (CN12 m0 s n0), fR m0 s n0 r (CN12 m0 s n0) m1) := e
      rw [e']
      have t5 : (u3 (u3 (u3 (fR m0 s n0 r (CN12 m0 s n0) m1) 52 0 r name) 53 0 r (nI (CN12 m0 s n0))) 55 0 r s) 2 = m0 2 ∧ (u3 (u3 (u3 (fR m0 s n0 r (CN12 m0 s n0) m1) 52 0 r name) 53 0 r (nI (CN12 m0 s n0))) 55 0 r s) 3 = m0 3 := ⟨by rw [u3_ne _ _ _ (by decide), u3_ne _ _ _ (by decide), u3_ne _ _ _ (by decide), fR_g _ _ _ _ _ _ _ (by decide)]; exact t1.1, by rw [u3_ne _ _ _ (by decide), u3_ne _ _ _ (by decide), u3_ne _ _ _ (by decide), fR_g _ _ _ _ _ _ _ (by decide)]; exact t1.2⟩
      dsimp only
      have e00 : fR m0 s n0 r (CN12 m0 s n0) m1 0 0 50 = m1 0 0 50 := congrFun (congrFun (fR_g _ _ _ _ _ _ 0 (by decide)) 0) 50
      rw [following_fr t5]
      simp only [e00]
      by_cases cq : r = m1 0 0 50
      · rw [if_pos cq, decide_eq_true cq]
      · rw [if_neg cq, decide_eq_false cq]
  rw [a1]
  have c6 := hF.2.1
  by_cases c8 : r = 8
  · have h8 : ¬ r < 8 := by rw [c8]; decide
    rw [if_pos c8, if_neg h8]
    simp only [Bool.false_eq_true, if_false, uW_same]
    exact err_c hM (by decide)
  · have hr8 : r.toInt < 8 := by
      rw [i32eq, t32_8] at c8; omega
    have h8 : r < 8 := by simp only [i32lt, t32_8]; exact hr8
    rw [if_neg c8, if_pos h8]
    simp only [if_true]
    have hr : 0 ≤ r.toInt ∧ r.toInt < 8 := ⟨hr0.1, hr8⟩
    have hcl := CN12_lt hk0 hs hX hN
    have tcn : (nI (CN12 m0 s n0) : Int32).toInt = CN12 m0 s n0 := nI_toInt (by omega)
    have FA := (fR_at (m0 := m0) (m := m1) (s := s) (n0 := n0) hr (CN12 m0 s n0) cn3).1
    have FD : FnD t E P (dM m0 m1 s n0 r name (f12_following m0 s (f12_following m0 s first))) r := by
      unfold FnD
      rw [dM_53 r, dM_55 r, dM_56 r, if_pos rfl, if_pos rfl, if_pos rfl, P2, faultOf_fr (m := m0) ⟨(dM_g (by decide)).trans t1.1, (dM_g (by decide)).trans t1.2⟩]
      obtain ⟨p1, p2, p3⟩ := Pl_in hs hle2.1 hle2.2
      refine ⟨hP9, ?_, by rw [vp_in_iff]; omega, fun k k0 k1 => ?_, ?_, hs, hL.1.2.1, ?_⟩
      · rw [parts_e hs hle2.1 hle2.2, i32eq, hLs.2, tcn]
      · rw [tcn] at k1
        have nk : ¬ skp12 m0 s k.toInt.toNat n0 = -1 := fun z => by have := (skp_cn hk0 hs hX k.toInt.toNat n0 hN).mp z; omega
        have e := (skp_ex hT k.toInt.toNat n0 hx0).resolve_left nk
        rw [part_e hk0 hs hX hT hLs hx0 p1 p2 k0, Px_e nk]
        have lk := letter_e hL e (ip.2 k.toInt.toNat (by omega)).1.1
        obtain ⟨q1, _, _⟩ := Pl_in hs ((hT.2 _ e).1.le hk0 hs).1 ((hT.2 _ e).1.le hk0 hs).2
        refine ⟨fun z => q1 (by rw [z]; decide), ?_⟩
        rw [lk.2.1, dM_54, ← FA k.toInt.toNat (by omega), show nI k.toInt.toNat = k by rw [i32eq, nI_toInt (by omega)]; omega]
      · exact P3
      · exact E3
    have M5 := hM.no dM_no (dM_ok (name := name) (b := f12_following m0 s (f12_following m0 s first)) hM.ok hs cn3 hF.1 hr ⟨hr0.2, hF.2.1.2⟩) (n' := dN (M 2) r name P) (dM_nr hM.2.1.1 hF hr hr0.2 r3 cn3 FD)
    exact fin_c M5 ⟨hb.1, hb.2⟩
end OPS
