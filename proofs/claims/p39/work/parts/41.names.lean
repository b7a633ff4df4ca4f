/-! NAMES: the latest of a name, words, functions -/
/-- r is the last place from lo to hi where f is x; -1 if there is none -/
def Last (lo hi : Int) (f : Int32 → Int32) (x r : Int32) : Prop := (r = -1 ∧ ∀ j : Int32, lo ≤ j.toInt → j.toInt < hi → ¬ f j = x) ∨ (lo ≤ r.toInt ∧ r.toInt < hi ∧ f r = x ∧ ∀ j : Int32, r.toInt < j.toInt → j.toInt < hi → ¬ f j = x)
theorem Last.uniq {lo hi : Int} {f : Int32 → Int32} {x r r' : Int32} (h : Last lo hi f x r) (h' : Last lo hi f x r') : r = r' := by
  rcases h with ⟨a, b⟩ | ⟨a, b, c, d⟩
  · rcases h' with ⟨a', b'⟩ | ⟨a', b', c', d'⟩
    · rw [a, a']
    · exact absurd c' (b _ a' b')
  · rcases h' with ⟨a', b'⟩ | ⟨a', b', c', d'⟩
    · exact absurd c (b' _ a b)
    · rw [i32eq]
      rcases Int.lt_trichotomy r.toInt r'.toInt with z | z | z
      · exact absurd c' (d _ z b')
      · exact z
      · exact absurd c (d' _ z b)
theorem Last.step {lo : Int} {f : Int32 → Int32} {x r y : Int32} (h0 : 0 ≤ lo) (hl : lo ≤ y.toInt) (h : Last lo y.toInt f x r) : Last lo (y.toInt + 1) f x (if f y = x then y else r) := by
  by_cases c : f y = x
  · rw [if_pos c]
    exact Or.inr ⟨hl, by omega, c, fun j a b => by omega⟩
  · rw [if_neg c]
    have hj : ∀ j : Int32, ¬ j = y → j.toInt < y.toInt + 1 → j.toInt < y.toInt := by
      intro j e l
      rw [i32eq] at e; omega
    rcases h with ⟨a, b⟩ | ⟨a, b, c2, d⟩
    · refine Or.inl ⟨a, fun j e1 e2 => ?_⟩
      by_cases e : j = y
      · rw [e]; exact c
      · exact b j e1 (hj j e e2)
    · refine Or.inr ⟨a, by omega, c2, fun j e1 e2 => ?_⟩
      by_cases e : j = y
      · rw [e]; exact c
      · exact d j e1 (hj j e e2)
theorem bindingOf_last {m : Cm} {x : Int32} (h0 : 0 ≤ (m 0 0 48).toInt) (h1 : (m 0 0 48).toInt ≤ (m 0 0 49).toInt) (h2 : (m 0 0 49).toInt ≤ 100) : Last (m 0 0 48).toInt (m 0 0 49).toInt (m 47 0) x (f12_bindingOf m x) := by
  have key : ∀ (k : Nat) (y : Int32 × Int32), (m 0 0 48).toInt ≤ y.1.toInt → y.1.toInt ≤ (m 0 0 49).toInt → (m 0 0 49).toInt - y.1.toInt < k → Last (m 0 0 48).toInt y.1.toInt (m 47 0) x y.2 → Last (m 0 0 48).toInt (m 0 0 49).toInt (m 47 0) x (f12_bindingOf_lp7 m x k y) := by
    intro k
    induction k with
    | zero => intro y a b c; omega
    | succ k ih =>
      intro y a b c h
      rw [f12_bindingOf_lp7_s]
      by_cases c1 : m 0 0 49 ≤ y.1
      · rw [if_pos c1]
        simp only [i32le] at c1
        rw [show (m 0 0 49).toInt = y.1.toInt by omega]; exact h
      · rw [if_neg c1]
        simp only [i32le] at c1
        have e1 : (y.1 + 1).toInt = y.1.toInt + 1 := inc_t (by omega) (by omega)
        have hs := h.step h0 a
        rw [← e1] at hs
        simp only [jn, bnd]
        by_cases c2 : m 47 0 y.1 = x
        · rw [if_pos c2] at hs ⊢; exact ih (y.1 + 1, y.1) (by show _ ≤ (y.1 + 1).toInt; omega) (by show (y.1 + 1).toInt ≤ _; omega) (by show _ - (y.1 + 1).toInt < _; omega) hs
        · rw [if_neg c2] at hs ⊢; exact ih (y.1 + 1, y.2) (by show _ ≤ (y.1 + 1).toInt; omega) (by show (y.1 + 1).toInt ≤ _; omega) (by show _ - (y.1 + 1).toInt < _; omega) hs
  unfold f12_bindingOf
  exact bnd_I (P := Last (m 0 0 48).toInt (m 0 0 49).toInt (m 47 0) x) (fun v e => key 102 (v, -1) (by show _ ≤ v.toInt; rw [e]; omega) (by show v.toInt ≤ _; rw [e]; exact h1) (by show _ - v.toInt < _; rw [e]; omega) (Or.inl ⟨rfl, fun j a b => by have b' : j.toInt < v.toInt := b; rw [e] at b'; omega⟩))
theorem functionOf_last {m : Cm} {x : Int32} (h0 : 0 ≤ (m 0 0 50).toInt) (h1 : (m 0 0 50).toInt ≤ 8) : Last 0 (m 0 0 50).toInt (m 52 0) x (f12_functionOf m x) := by
  have key : ∀ (k : Nat) (y : Int32 × Int32), 0 ≤ y.1.toInt → y.1.toInt ≤ (m 0 0 50).toInt → (m 0 0 50).toInt - y.1.toInt < k → Last 0 y.1.toInt (m 52 0) x y.2 → Last 0 (m 0 0 50).toInt (m 52 0) x (f12_functionOf_lp4 m x k y) := by
    intro k
    induction k with
    | zero => intro y a b c; omega
    | succ k ih =>
      intro y a b c h
      rw [f12_functionOf_lp4_s]
      by_cases c1 : m 0 0 50 ≤ y.1
      · rw [if_pos c1]
        simp only [i32le] at c1
        rw [show (m 0 0 50).toInt = y.1.toInt by omega]; exact h
      · rw [if_neg c1]
        simp only [i32le] at c1
        have e1 : (y.1 + 1).toInt = y.1.toInt + 1 := inc_t (by omega) (by omega)
        have hs := h.step (by decide) a
        rw [← e1] at hs
        simp only [jn, bnd]
        by_cases c2 : m 52 0 y.1 = x
        · rw [if_pos c2] at hs ⊢; exact ih (y.1 + 1, y.1) (by show _ ≤ (y.1 + 1).toInt; omega) (by show (y.1 + 1).toInt ≤ _; omega) (by show _ - (y.1 + 1).toInt < _; omega) hs
        · rw [if_neg c2] at hs ⊢; exact ih (y.1 + 1, y.2) (by show _ ≤ (y.1 + 1).toInt; omega) (by show (y.1 + 1).toInt ≤ _; omega) (by show _ - (y.1 + 1).toInt < _; omega) hs
  unfold f12_functionOf
  exact key 10 (0, -1) (by show 0 ≤ (0 : Int32).toInt; decide) (by show (0 : Int32).toInt ≤ _; rw [t32_0]; exact h0) (by show _ - (0 : Int32).toInt < _; rw [t32_0]; omega) (Or.inl ⟨rfl, fun j a b => by have b' : j.toInt < (0 : Int32).toInt := b; rw [t32_0] at b'; omega⟩)
theorem opOf_last {m : Cm} {x : Int32} : Last 0 26 (m 28 0) x (f12_opOf m x) := by
  have key : ∀ (k : Nat) (y : Int32 × Int32), 0 ≤ y.1.toInt → y.1.toInt ≤ 26 → 26 - y.1.toInt < k → Last 0 y.1.toInt (m 28 0) x y.2 → Last 0 26 (m 28 0) x (f12_opOf_lp4 m x k y) := by
    intro k
    induction k with
    | zero => intro y a b c; omega
    | succ k ih =>
      intro y a b c h
      rw [f12_opOf_lp4_s]
      by_cases c1 : 26 ≤ y.1
      · rw [if_pos c1]
        simp only [i32le, t32_26] at c1
        rw [show (26 : Int) = y.1.toInt by omega]; exact h
      · rw [if_neg c1]
        simp only [i32le, t32_26] at c1
        have e1 : (y.1 + 1).toInt = y.1.toInt + 1 := inc_t (by omega) (by omega)
        have hs := h.step (by decide) a
        rw [← e1] at hs
        simp only [jn, bnd]
        by_cases c2 : m 28 0 y.1 = x
        · rw [if_pos c2] at hs ⊢; exact ih (y.1 + 1, y.1) (by show _ ≤ (y.1 + 1).toInt; omega) (by show (y.1 + 1).toInt ≤ _; omega) (by show _ - (y.1 + 1).toInt < _; omega) hs
        · rw [if_neg c2] at hs ⊢; exact ih (y.1 + 1, y.2) (by show _ ≤ (y.1 + 1).toInt; omega) (by show (y.1 + 1).toInt ≤ _; omega) (by show _ - (y.1 + 1).toInt < _; omega) hs
  unfold f12_opOf
  exact key 27 (0, -1) (by show 0 ≤ (0 : Int32).toInt; decide) (by show (0 : Int32).toInt ≤ _; decide) (by show _ - (0 : Int32).toInt < _; rw [t32_0]; omega) (Or.inl ⟨rfl, fun j a b => by have b' : j.toInt < (0 : Int32).toInt := b; rw [t32_0] at b'; omega⟩)
/-- the class' search goes down -/
theorem dec_t {x : Int32} (h : -1 ≤ x.toInt) (h2 : x.toInt ≤ 1000000) : (x - 1).toInt = x.toInt - 1 := by rw [i32subn (by rw [t32_1]; omega) (by rw [t32_1]; omega), t32_1]
theorem decp_t {x : Int32} (h : -1 ≤ x.toInt) (h2 : x.toInt ≤ 1000000) : (x + (-1)).toInt = x.toInt - 1 := by
  have e : (-1 : Int32).toInt = -1 := by decide
  rw [i32addn (by rw [e]; omega) (by rw [e]; omega), e]; omega
theorem find_last {n : Cm} {x : Int32} (h0 : 0 ≤ (n 0 0 3).toInt) (h1 : (n 0 0 3).toInt ≤ (n 0 0 2).toInt) (h2 : (n 0 0 2).toInt ≤ 90) : Last (n 0 0 3).toInt (n 0 0 2).toInt (n 1 0) x (f2_find n x) := by
  have key : ∀ (k : Nat) (y : Int32), (n 0 0 3).toInt - 1 ≤ y.toInt → y.toInt < (n 0 0 2).toInt → y.toInt - (n 0 0 3).toInt + 1 < k → (∀ j : Int32, y.toInt < j.toInt → j.toInt < (n 0 0 2).toInt → ¬ n 1 0 j = x) → Last (n 0 0 3).toInt (n 0 0 2).toInt (n 1 0) x (f2_find_lp7 n x k y) := by
    intro k
    induction k with
    | zero => intro y a b c; omega
    | succ k ih =>
      intro y a b c h
      rw [f2_find_lp7_s]
      have hnone : y < n 0 0 3 ∨ y < 0 → Last (n 0 0 3).toInt (n 0 0 2).toInt (n 1 0) x (-1) := by
        intro z
        refine Or.inl ⟨rfl, fun j e1 e2 => h j ?_ e2⟩
        rcases z with z | z
        · simp only [i32lt] at z; omega
        · simp only [i32lt, t32_0] at z; omega
      by_cases c1 : y < n 0 0 3
      · rw [if_pos c1]; exact hnone (Or.inl c1)
      · rw [if_neg c1]
        by_cases c2 : y < 0
        · rw [if_pos c2]; exact hnone (Or.inr c2)
        · rw [if_neg c2]
          simp only [i32lt, t32_0] at c1 c2
          by_cases c3 : n 1 0 y = x
          · rw [if_pos c3]; exact Or.inr ⟨by omega, b, c3, h⟩
          · rw [if_neg c3]
            have e1 := decp_t (x := y) (by omega) (by omega)
            refine bnd_I (P := Last (n 0 0 3).toInt (n 0 0 2).toInt (n 1 0) x) (fun v ev => ih v (by rw [ev]; omega) (by rw [ev]; omega) (by rw [ev]; omega) (fun j a1 a2 => ?_))
            by_cases e : j = y
            · rw [e]; exact c3
            · exact h j (by rw [i32eq] at e; rw [ev] at a1; omega) a2
  unfold f2_find
  have e1 := dec_t (x := n 0 0 2) (by omega) (by omega)
  exact bnd_I (P := Last (n 0 0 3).toInt (n 0 0 2).toInt (n 1 0) x) (fun v ev => key 91 v (by rw [ev]; omega) (by rw [ev]; omega) (by rw [ev]; omega) (fun j a b => by rw [ev] at a; omega))
theorem wdCode_inj {i j : Int32} (hi : vp_in i 26) (hj : vp_in j 26) (h : wdCode i = wdCode j) : i = j := by
  refine in26 (P := fun i => ∀ j : Int32, vp_in j 26 → wdCode i = wdCode j → i = j) (fun k hk => ?_) hi j hj h
  intro j hj
  refine in26 (P := fun j => wdCode (nI k) = wdCode j → nI k = j) ?_ hj
  revert k
  decide +kernel
theorem of_last {x : Int32} : Last 0 26 wdCode x (f10_of x) := by
  have key : ∀ (k : Nat) (y : Int32), 0 ≤ y.toInt → y.toInt ≤ 26 → 26 - y.toInt < k → (∀ j : Int32, 0 ≤ j.toInt → j.toInt < y.toInt → ¬ wdCode j = x) → Last 0 26 wdCode x (f10_of_lp x k y) := by
    intro k
    induction k with
    | zero => intro y a b c; omega
    | succ k ih =>
      intro y a b c h
      unfold f10_of_lp
      by_cases c1 : 26 ≤ y
      · rw [if_pos c1]
        simp only [i32le, t32_26] at c1
        exact Or.inl ⟨rfl, fun j e1 e2 => h j e1 (by omega)⟩
      · rw [if_neg c1]
        simp only [i32le, t32_26] at c1
        by_cases c2 : wdCode y = x
        · rw [if_pos c2]
          refine Or.inr ⟨a, by omega, c2, fun j e1 e2 z => ?_⟩
          have := wdCode_inj (i := j) (j := y) (by rw [vp_in_iff]; omega) (by rw [vp_in_iff]; omega) (by rw [z, c2])
          rw [this] at e1; omega
        · rw [if_neg c2]
          have e1 : (y + 1).toInt = y.toInt + 1 := inc_t (by omega) (by omega)
          refine ih (y + 1) (by omega) (by omega) (by omega) (fun j a1 a2 => ?_)
          by_cases e : j = y
          · rw [e]; exact c2
          · exact h j a1 (by rw [i32eq] at e; omega)
  exact key 27 0 (by decide) (by decide) (by decide) (fun j a b => by rw [t32_0] at b; omega)
theorem Last.congr {lo hi : Int} {f g : Int32 → Int32} {x r : Int32} (h : Last lo hi f x r) (e : ∀ j : Int32, lo ≤ j.toInt → j.toInt < hi → f j = g j) : Last lo hi g x r := by
  rcases h with ⟨a, b⟩ | ⟨a, b, c, d⟩
  · exact Or.inl ⟨a, fun j e1 e2 => by rw [← e j e1 e2]; exact b j e1 e2⟩
  · exact Or.inr ⟨a, b, by rw [← e r a b]; exact c, fun j e1 e2 => by rw [← e j (by omega) e2]; exact d j e1 e2⟩
/-- both know the same words -/
theorem opOf_of {m : Cm} (hC : Ct12 m) (x : Int32) : f12_opOf m x = f10_of x :=
  (opOf_last.congr (fun j a b => (hC j (by rw [vp_in_iff]; omega)).1)).uniq of_last
/-- bindings alike -/
def RelB2 (n m : Cm) : Prop := n 0 0 2 = m 0 0 49 ∧ n 0 0 3 = m 0 0 48 ∧ 0 ≤ (n 0 0 3).toInt ∧ (n 0 0 3).toInt ≤ (n 0 0 2).toInt ∧ (n 0 0 2).toInt ≤ 90 ∧ ∀ j : Int32, 0 ≤ j.toInt → j.toInt < (n 0 0 2).toInt → n 1 0 j = m 47 0 j ∧ n 2 0 j = m 48 0 j
theorem RelB2.find {n m : Cm} (h : RelB2 n m) (x : Int32) : f2_find n x = f12_bindingOf m x := by
  obtain ⟨a, b, c, d, e, f⟩ := h
  have h1 := find_last (n := n) (x := x) c d e
  have h2 := bindingOf_last (m := m) (x := x) (by rw [← b]; exact c) (by rw [← a, ← b]; exact d) (by rw [← a]; omega)
  rw [← a, ← b] at h2
  exact (h1.congr (fun j e1 e2 => (f j (by omega) e2).1)).uniq h2
theorem RelB2.bind {n m : Cm} (h : RelB2 n m) {x v : Int32} (hc : (n 0 0 2).toInt < 90) : RelB2 (f2_bind n x v) (f12_bind m x v) := by
  obtain ⟨a, b, c, d, e, f⟩ := h
  unfold f2_bind f12_bind
  rw [if_neg (by simp only [i32le]; rw [show (90 : Int32).toInt = 90 by decide]; omega)]
  simp only [bnd]
  have e1 : (n 0 0 2 + 1).toInt = (n 0 0 2).toInt + 1 := inc_t (by omega) (by omega)
  refine ⟨by show n 0 0 2 + 1 = m 0 0 49 + 1; rw [a], b, c, by show (n 0 0 3).toInt ≤ (n 0 0 2 + 1).toInt; omega, by show (n 0 0 2 + 1).toInt ≤ 90; omega, fun j h1 h2 => ?_⟩
  have h2' : j.toInt < (n 0 0 2 + 1).toInt := h2
  show fI (n 1 0) (n 0 0 2) x j = fI (m 47 0) (m 0 0 49) x j ∧ fI (n 2 0) (n 0 0 2) v j = fI (m 48 0) (m 0 0 49) v j
  rw [← a]
  unfold fI
  by_cases c1 : j = n 0 0 2
  · rw [if_pos c1, if_pos c1, if_pos c1, if_pos c1]; exact ⟨rfl, rfl⟩
  · rw [if_neg c1, if_neg c1, if_neg c1, if_neg c1]
    exact f j h1 (by rw [i32eq] at c1; omega)
