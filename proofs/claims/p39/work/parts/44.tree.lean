/-! THE TREE of a text: what the class keeps of it, in the reference's words -/
def Pl (s i : Int32) : Int32 := (s * 121) + i
def Px (s n : Int32) : Int32 := if n = -1 then -1 else Pl s n
def ExE (E : Int32 → Prop) (n : Int32) : Prop := n = -1 ∨ E n
def LsT (t m : Cm) (s L n : Int32) : Prop := t 4 0 L = Px s n ∧ (t 3 0 L).toInt = (CN12 m s n : Int)
def NdT (t m : Cm) (s : Int32) (E : Int32 → Prop) (i : Int32) : Prop := Ix12 m s i ∧ ExE E (f12_following m s i) ∧ t 6 0 (Pl s i) = Px s (f12_following m s i) ∧
  (f12_signAt m s i = 40 → t 1 0 (Pl s i) = 3 ∧ ExE E (f12_nextAt m s (i + 1)) ∧ LsT t m s (Pl s i) (f12_nextAt m s (i + 1))) ∧
  (f12_isLetter (f12_signAt m s i) = true → t 1 0 (Pl s i) = 2 ∧ t 2 0 (Pl s i) = f12_nameAt m s i) ∧
  (¬ f12_signAt m s i = 40 → ¬ f12_isLetter (f12_signAt m s i) = true → t 1 0 (Pl s i) = 1 ∧ t 2 0 (Pl s i) = f12_numberAt m s i)
def TreeOk (t m : Cm) (s : Int32) (E : Int32 → Prop) : Prop := (ExE E (f12_nextAt m s 0) ∧ LsT t m s (Pl s 120) (f12_nextAt m s 0)) ∧ ∀ i : Int32, E i → NdT t m s E i
theorem Pl_t {s i : Int32} (hs : vp_in s 8) (h0 : 0 ≤ i.toInt) (h1 : i.toInt ≤ 120) : (Pl s i).toInt = 121 * s.toInt + i.toInt := by
  rw [vp_in_iff] at hs
  have t121 : (121 : Int32).toInt = 121 := by decide
  have e1 : (s * 121).toInt = 121 * s.toInt := by rw [i32muln (by rw [t121]; omega) (by rw [t121]; omega), t121]; omega
  unfold Pl
  rw [i32addn (by rw [e1]; omega) (by rw [e1]; omega), e1]
theorem Pl_in {s i : Int32} (hs : vp_in s 8) (h0 : 0 ≤ i.toInt) (h1 : i.toInt ≤ 120) : ¬ Pl s i < 0 ∧ ¬ 968 ≤ Pl s i ∧ Pl s i < 968 := by
  have e := Pl_t hs h0 h1
  rw [vp_in_iff] at hs
  have t968 : (968 : Int32).toInt = 968 := by decide
  simp only [i32lt, i32le, t32_0, t968]; omega
theorem Pl_inj {s i j : Int32} (h : Pl s i = Pl s j) : i = j := by
  unfold Pl at h
  have : s * 121 + i - s * 121 = s * 121 + j - s * 121 := by rw [h]
  rwa [Int32.add_comm (s * 121) i, Int32.add_comm (s * 121) j, Int32.add_sub_cancel, Int32.add_sub_cancel] at this
theorem Ix12.le {m : Cm} {s i : Int32} (hk : Ok12 m) (hs : vp_in s 8) (h : Ix12 m s i) : 0 ≤ i.toInt ∧ i.toInt ≤ 120 := by
  have h0 := h.1; have h1 := h.2; have h2 := (hk.len s hs).2; omega
theorem Ix12.ne {m : Cm} {s i : Int32} (h : Ix12 m s i) : ¬ i = -1 := by intro z; rw [z] at h; exact absurd h.1 (by decide)
theorem Px_e {s n : Int32} (h : ¬ n = -1) : Px s n = Pl s n := by unfold Px; rw [if_neg h]
theorem Px_m (s : Int32) : Px s (-1) = -1 := by unfold Px; rw [if_pos rfl]
theorem Pl_ne {s i : Int32} (hs : vp_in s 8) (h0 : 0 ≤ i.toInt) (h1 : i.toInt ≤ 120) : ¬ Pl s i = -1 := by
  intro z
  have e := Pl_t hs h0 h1
  rw [z] at e
  rw [vp_in_iff] at hs
  have : (-1 : Int32).toInt = -1 := by decide
  omega
section TREE
variable {t m : Cm} {s : Int32} {E : Int32 → Prop}
theorem kind_e {i : Int32} (hs : vp_in s 8) (h0 : 0 ≤ i.toInt) (h1 : i.toInt ≤ 120) : f9_kindOf t (Pl s i) = t 1 0 (Pl s i) := by
  obtain ⟨a, b, _⟩ := Pl_in hs h0 h1
  unfold f9_kindOf; rw [if_neg a, if_neg b]
theorem cont_e {i : Int32} (hs : vp_in s 8) (h0 : 0 ≤ i.toInt) (h1 : i.toInt ≤ 120) : f9_contentOf t (Pl s i) = t 2 0 (Pl s i) := by
  obtain ⟨a, b, _⟩ := Pl_in hs h0 h1
  unfold f9_contentOf; rw [if_neg a, if_neg b]
theorem parts_e {i : Int32} (hs : vp_in s 8) (h0 : 0 ≤ i.toInt) (h1 : i.toInt ≤ 120) : f9_partsOf t (Pl s i) = t 3 0 (Pl s i) := by
  obtain ⟨a, b, _⟩ := Pl_in hs h0 h1
  unfold f9_partsOf; rw [if_neg a, if_neg b]
theorem next_e {i : Int32} (hs : vp_in s 8) (h0 : 0 ≤ i.toInt) (h1 : i.toInt ≤ 120) : f9_nextOf t (Pl s i) = t 6 0 (Pl s i) := by
  obtain ⟨a, b, _⟩ := Pl_in hs h0 h1
  unfold f9_nextOf; rw [if_neg a, if_neg b]
theorem skp_ex (hT : TreeOk t m s E) : ∀ (k : Nat) (n : Int32), ExE E n → ExE E (skp12 m s k n) := by
  intro k
  induction k with
  | zero => intro n h; exact h
  | succ k ih =>
    intro n h
    unfold skp12
    by_cases c : n = -1
    · rw [if_pos c]; exact Or.inl rfl
    · rw [if_neg c]; exact ih _ (hT.2 n (h.resolve_left c)).2.1
theorem skp_cn (hk : Ok12 m) (hs : vp_in s 8) (hX : Tx12 m s) : ∀ (k : Nat) (n : Int32), Nx12 m s n → (skp12 m s k n = -1 ↔ CN12 m s n ≤ k) := by
  intro k
  induction k with
  | zero =>
    intro n h
    refine ⟨fun z => by rw [show n = -1 from z, CN12_none]; exact Nat.le_refl _, fun z => ?_⟩
    rcases h with h | h
    · exact h
    · rw [CN12_s hk hs hX h] at z; omega
  | succ k ih =>
    intro n h
    unfold skp12
    by_cases c : n = -1
    · rw [if_pos c, c, CN12_none]; simp
    · rw [if_neg c]
      have hI := h.resolve_left c
      rw [ih _ (following_n hk hs hX hI), CN12_s hk hs hX hI]; omega
theorem skp_s (k : Nat) (n : Int32) : skp12 m s (k + 1) n = (if skp12 m s k n = -1 then -1 else f12_following m s (skp12 m s k n)) := by
  induction k generalizing n with
  | zero => rfl
  | succ k ih =>
    rw [skp12]
    by_cases c : n = -1
    · rw [if_pos c, c, skp12_none, if_pos rfl]
    · rw [if_neg c, ih, skp12, if_neg c]
theorem ExE.nx (hT : TreeOk t m s E) {n : Int32} (h : ExE E n) : Nx12 m s n := h.elim Or.inl (fun z => Or.inr (hT.2 n z).1)
/-- a part of a list, by its number -/
theorem part_e (hk : Ok12 m) (hs : vp_in s 8) (hX : Tx12 m s) (hT : TreeOk t m s E) {L n : Int32} (hL : LsT t m s L n) (hn : ExE E n) (hL0 : ¬ L < 0) (hL1 : ¬ 968 ≤ L) {j : Int32} (hj : 0 ≤ j.toInt) : f9_partOf t L j = Px s (skp12 m s j.toInt.toNat n) := by
  have hN := hn.nx hT
  unfold f9_partOf
  rw [if_neg hL0, if_neg hL1, if_neg (show ¬ j < 0 by simp only [i32lt, t32_0]; omega)]
  have hc := skp_cn hk hs hX j.toInt.toNat n hN
  by_cases c1 : j < t 3 0 L
  · rw [if_pos c1]
    simp only [i32lt] at c1
    rw [hL.2] at c1
    have key : ∀ (k : Nat) (y : Int32 × Int32), 0 ≤ y.1.toInt → y.1.toInt ≤ j.toInt → j.toInt - y.1.toInt < k → y.2 = Px s (skp12 m s y.1.toInt.toNat n) → f9_partOf_lp37 t j k y = Px s (skp12 m s j.toInt.toNat n) := by
      intro k
      induction k with
      | zero => intro y a b c; omega
      | succ k ih =>
        intro y a b c e
        rw [f9_partOf_lp37_s]
        by_cases c2 : j ≤ y.1
        · rw [if_pos c2, e]
          simp only [i32le] at c2
          rw [show y.1.toInt.toNat = j.toInt.toNat by omega]
        · rw [if_neg c2]
          simp only [i32le] at c2
          have hne : ¬ skp12 m s y.1.toInt.toNat n = -1 := by
            rw [skp_cn hk hs hX _ n hN]; omega
          have hE := (skp_ex hT y.1.toInt.toNat n hn).resolve_left hne
          have hnd := hT.2 _ hE
          have hle := hnd.1.le hk hs
          have e2 : y.2 = Pl s (skp12 m s y.1.toInt.toNat n) := by rw [e, Px_e hne]
          obtain ⟨p1, p2, _⟩ := Pl_in hs hle.1 hle.2
          rw [if_neg (by rw [e2]; exact p1), if_neg (by rw [e2]; exact p2)]
          have hjr := (i32rng j).2
          have e1 : (y.1 + 1).toInt = y.1.toInt + 1 := inc_t a (by omega)
          refine bnd_I (P := fun z => z = _) (fun v ev => bnd_I (P := fun z => z = _) (fun v2 ev2 => ?_))
          refine ih (v2, v) (by show 0 ≤ v2.toInt; rw [ev2]; omega) (by show v2.toInt ≤ _; rw [ev2]; omega) (by show _ - v2.toInt < _; rw [ev2]; omega) ?_
          show v = Px s (skp12 m s v2.toInt.toNat n)
          rw [ev, ev2, e1, show (y.1.toInt + 1).toNat = y.1.toInt.toNat + 1 by omega, skp_s, if_neg hne, e2, hnd.2.2.1]
    simp only [bnd]
    exact key _ (0, t 4 0 L) (by show 0 ≤ (0 : Int32).toInt; decide) (by show (0 : Int32).toInt ≤ _; rw [t32_0]; exact hj) (by show _ - (0 : Int32).toInt < _; rw [t32_0]; omega) (by show t 4 0 L = _; rw [hL.1]; rfl)
  · rw [if_neg c1]
    simp only [i32lt] at c1
    rw [hL.2] at c1
    rw [hc.mpr (by omega), Px_m]
end TREE
