def PR {α : Type} (P : Cm → Prop) (r : α × Cm) : Prop := P r.2
theorem buyFuel_lp_P {P : Cm → Prop} (h6 : ∀ (m : Cm) (j x : Int32), P m → P (u3 m 6 0 j x)) (h7 : ∀ (m : Cm) (j x : Int32), P m → P (u3 m 7 0 j x)) (a v : Int32) : ∀ (k : Nat) (x : Int32 × Int32 × Cm), P x.2.2 → PR P (f12_buyFuel_lp35 a v k x) := by
  intro k
  induction k with
  | zero => intro x h; exact h
  | succ k ih =>
    intro x h
    rw [f12_buyFuel_lp35_s]
    by_cases c : 4 ≤ x.1
    · rw [if_pos c]; exact h
    · rw [if_neg c]
      refine bnd_I (P := PR P) (fun v8 _ => jn_I (P := PR P) (fun K hK => ?_) (fun v9 => bnd_I (P := PR P) (fun m1 e1 => bnd_I (P := PR P) (fun m2 e2 => bnd_I (P := PR P) (fun m3 e3 => bnd_I (P := PR P) (fun v15 _ => bnd_I (P := PR P) (fun v16 _ => ?_)))))))
      · split <;> exact hK _
      · refine ih _ ?_
        show P m3
        rw [e3, e2, e1]
        exact h6 _ _ _ (h6 _ _ _ (h7 _ _ _ h))
theorem buyFuel_P {P : Cm → Prop} (h5 : ∀ (m : Cm) (j x : Int32), P m → P (u3 m 5 0 j x)) (h6 : ∀ (m : Cm) (j x : Int32), P m → P (u3 m 6 0 j x)) (h7 : ∀ (m : Cm) (j x : Int32), P m → P (u3 m 7 0 j x)) {m : Cm} (h : P m) (a b : Int32) : PR P (f12_buyFuel m a b) := by
  unfold f12_buyFuel
  refine bnd_I (P := PR P) (fun v1 _ => bnd_I (P := PR P) (fun v2 _ => bnd_I (P := PR P) (fun m3 e3 => bnd_I (P := PR P) (fun m4 e4 => ?_))))
  refine buyFuel_lp_P h6 h7 _ _ _ _ ?_
  show P m4
  rw [e4, e3]
  exact h6 _ _ _ (h5 _ _ _ h)
theorem takesFuel_P {P : Cm → Prop} (h5 : ∀ (m : Cm) (j x : Int32), P m → P (u3 m 5 0 j x)) (h6 : ∀ (m : Cm) (j x : Int32), P m → P (u3 m 6 0 j x)) (h7 : ∀ (m : Cm) (j x : Int32), P m → P (u3 m 7 0 j x)) (h21 : ∀ (m : Cm) (j x : Int32), P m → P (u3 m 21 0 j x)) (h0 : ∀ (m : Cm) (x : Int32), P m → P (u3 m 0 0 58 x)) {m : Cm} (h : P m) : P (f12_takesFuel m).2 := by
  unfold f12_takesFuel
  split
  · exact h
  · refine jn_I' (Q := P) (P := fun r : Bool × Cm => P r.2) (fun K hK => ?_) (fun v2 hv => ?_)
    · split
      · split
        · exact hK _ h
        · split
          · exact hK _ h
          · exact bnd_I (P := fun r : Bool × Cm => P r.2) (fun r e => hK _ (by rw [e]; exact buyFuel_P h5 h6 h7 h _ _))
      · exact hK _ h
    · split
      · refine bnd_I (P := fun r : Bool × Cm => P r.2) (fun r e => ?_)
        split
        · exact hv
        · exact h21 _ _ _ (h0 _ _ (h7 _ _ _ (h6 _ _ _ hv)))
      · exact h21 _ _ _ (h0 _ _ (h6 _ _ _ hv))
theorem okT_f12_takesFuel {m0 m : Cm} (h : OkT m0 m) : OkT m0 (f12_takesFuel m).2 :=
  takesFuel_P (P := OkT m0) (fun m j x h => okT_putA h (by decide)) (fun m j x h => okT_putA h (by decide)) (fun m j x h => okT_putA h (by decide)) (fun m j x h => okT_putA h (by decide)) (fun m x h => okT_put0 h (by decide)) h
theorem takesFuel_g (m : Cm) {g : Nat} (a0 : ¬ g = 0) (a5 : ¬ g = 5) (a6 : ¬ g = 6) (a7 : ¬ g = 7) (a21 : ¬ g = 21) : (f12_takesFuel m).2 g = m g :=
  takesFuel_P (P := fun m' => m' g = m g) (fun m j x h => by rw [u3_ne _ _ _ a5]; exact h) (fun m j x h => by rw [u3_ne _ _ _ a6]; exact h) (fun m j x h => by rw [u3_ne _ _ _ a7]; exact h) (fun m j x h => by rw [u3_ne _ _ _ a21]; exact h) (fun m x h => by rw [u3_ne _ _ _ a0]; exact h) rfl
theorem takesFuel_s (m : Cm) {k : Int32} (hk : ¬ k = 58) : (f12_takesFuel m).2 0 0 k = m 0 0 k :=
  takesFuel_P (P := fun m' => m' 0 0 k = m 0 0 k) (fun m j x h => by rw [u3_ne _ _ _ (by decide)]; exact h) (fun m j x h => by rw [u3_ne _ _ _ (by decide)]; exact h) (fun m j x h => by rw [u3_ne _ _ _ (by decide)]; exact h) (fun m j x h => by rw [u3_ne _ _ _ (by decide)]; exact h) (fun m x h => by rw [u3_s hk]; exact h) rfl
theorem Ct12.fr {m m' : Cm} (h : Ct12 m) (a : m' 28 = m 28) (b : m' 29 = m 29) (c : m' 30 = m 30) : Ct12 m' := by
  unfold Ct12; rw [a, b, c]; exact h
def f12_enter (m : Cm) : Cm := bnd (f12_signAt m (m 0 0 60) (m 0 0 61)) (fun (r1 : Int32) => bnd (u3 m 0 0 59 0) (fun (m2 : Cm) => bnd (f12_takesFuel m2) (fun (r4 : Bool × Cm) => if r4.1 = true then if (r4.2 0 0 45) < 30 then if r1 = 40 then bnd (f12_open r4.2) (fun (r16 : Cm) => r16) else bnd (f12_isLetter r1) (fun (r9 : Bool) => if r9 = true then bnd (f12_nameAt r4.2 (r4.2 0 0 60) (r4.2 0 0 61)) (fun (r14 : Int32) => bnd (f12_valueName r4.2 r14) (fun (r15 : Cm) => r15)) else bnd (f12_numberAt r4.2 (r4.2 0 0 60) (r4.2 0 0 61)) (fun (r11 : Int32) => bnd (u3 r4.2 0 0 62 r11) (fun (m12 : Cm) => m12))) else bnd (u3 r4.2 0 0 63 2) (fun (m17 : Cm) => m17) else bnd (u3 r4.2 0 0 63 7) (fun (m19 : Cm) => m19))))
/-- the reference's list machine: where it stands, what a step makes of it, what a step needs -/
def ini12 (m : Cm) (s i : Int32) : Cm := u3 (u3 (u3 (u3 (u3 (u3 (u3 (u3 m 0 0 45 0) 0 0 48 0) 0 0 49 0) 0 0 63 0) 0 0 62 0) 0 0 59 1) 0 0 60 s) 0 0 61 i
def go12 (m : Cm) : Prop := m 0 0 63 = 0 ∧ (¬ m 0 0 59 = 0 ∨ 0 < m 0 0 45)
def adv12 (m : Cm) : Cm := u3 m 33 0 (m 0 0 45 - 1) (m 33 0 (m 0 0 45 - 1) + 1)
def stp12 (m : Cm) : Cm := if m 0 0 59 = 0 then f12_advance (adv12 m) (m 0 0 45 - 1) else f12_enter m
def EntP (m : Cm) : Prop := Ok12 m ∧ Tx12 m (m 0 0 60) ∧ Ix12 m (m 0 0 60) (m 0 0 61) ∧ Ct12 m ∧ ((m 0 0 45).toInt < 30 → (m 0 0 49).toInt ≤ 97)
def StpP (m : Cm) : Prop := (¬ m 0 0 59 = 0 → EntP m) ∧ (m 0 0 59 = 0 → Ok12 m ∧ AdvP (adv12 m) (m 0 0 45 - 1))
def Run12 : Nat → Cm → Cm → Prop
  | 0, m, m' => ¬ go12 m ∧ m = m'
  | k + 1, m, m' => go12 m ∧ StpP m ∧ Run12 k (stp12 m) m'
theorem Run12.uniq : ∀ {k k' : Nat} {m a b : Cm}, Run12 k m a → Run12 k' m b → a = b := by
  intro k
  induction k with
  | zero =>
    intro k' m a b h h'
    cases k' with
    | zero => exact h.2.symm.trans h'.2
    | succ k' => exact absurd h'.1 h.1
  | succ k ih =>
    intro k' m a b h h'
    cases k' with
    | zero => exact absurd h.1 h'.1
    | succ k' => exact ih h.2.2 h'.2.2
noncomputable def ev12 (m : Cm) : Cm := Classical.epsilon (fun m' => ∃ k, Run12 k m m')
theorem ev12_run {m : Cm} (h : ∃ k m', Run12 k m m') : ∃ k, Run12 k m (ev12 m) := by
  obtain ⟨k, m', h⟩ := h
  exact Classical.epsilon_spec (p := fun m' => ∃ k, Run12 k m m') ⟨m', k, h⟩
theorem ev12_eq {k : Nat} {m m' : Cm} (h : Run12 k m m') : ev12 m = m' := by
  obtain ⟨k', h'⟩ := ev12_run ⟨k, m', h⟩
  exact h'.uniq h
theorem ok12_putA {m : Cm} (h : Ok12 m) {g : Nat} {j x : Int32} (hg : hmG g = true) : Ok12 (u3 m g 0 j x) := (okT_putA (m0 := m) ⟨h, rfl, rfl⟩ hg).1
theorem dpt_in {m : Cm} (hk : Ok12 m) (h : 0 < m 0 0 45) : vp_in (m 0 0 45 - 1) 32 := by
  have h0 := hk.d0; have h1 := hk.d1
  simp only [i32lt, t32_0] at h
  rw [vp_in_iff, i32subn (by rw [t32_1]; omega) (by rw [t32_1]; omega), t32_1]; omega
def evB12 (m' x : Cm) : Cm := if (x 0 0 63) = 0 then if (x 0 0 59) = 0 then if (x 0 0 45) ≤ 0 then x else if (x 0 0 59) = 0 then bnd (u3 x 33 0 ((x 0 0 45) - 1) ((x 33 0 ((x 0 0 45) - 1)) + 1)) (fun (m9 : Cm) => bnd (f12_advance m9 ((x 0 0 45) - 1)) (fun (r10 : Cm) => m')) else bnd (f12_enter x) (fun (r11 : Cm) => m') else if (x 0 0 59) = 0 then bnd (u3 x 33 0 ((x 0 0 45) - 1) ((x 33 0 ((x 0 0 45) - 1)) + 1)) (fun (m4 : Cm) => bnd (f12_advance m4 ((x 0 0 45) - 1)) (fun (r5 : Cm) => m')) else bnd (f12_enter x) (fun (r6 : Cm) => m') else x
theorem evB12_eq {m' x : Cm} (h : ¬ go12 x → m' = x) : m' = evB12 m' x := by
  by_cases c : go12 x
  · unfold evB12
    simp only [bnd]
    obtain ⟨c1, c2⟩ := c
    rw [if_pos c1]
    by_cases c3 : x 0 0 59 = 0
    · rw [if_pos c3]
      have c4 := c2.resolve_left (fun z => z c3)
      rw [if_neg (Int32.not_le.mpr c4)]
      split <;> rfl
    · rw [if_neg c3]
      split <;> rfl
  · have hx := h c
    subst hx
    unfold evB12
    simp only [bnd]
    repeat' split
    all_goals rfl
noncomputable def f12_evaluate (m : Cm) (p1 : Int32) (p2 : Int32) : Cm := bnd (u3 m 0 0 45 0) (fun (m1 : Cm) => bnd (u3 m1 0 0 48 0) (fun (m2 : Cm) => bnd (u3 m2 0 0 49 0) (fun (m3 : Cm) => bnd (u3 m3 0 0 63 0) (fun (m4 : Cm) => bnd (u3 m4 0 0 62 0) (fun (m5 : Cm) => bnd (u3 m5 0 0 59 1) (fun (m6 : Cm) => bnd (u3 m6 0 0 60 p1) (fun (m7 : Cm) => bnd (u3 m7 0 0 61 p2) (fun (m8 : Cm) => ev12 m8))))))))
theorem evaluate_eq {k : Nat} {m m' : Cm} {s i : Int32} (h : Run12 k (ini12 m s i) m') : f12_evaluate m s i = m' := ev12_eq h
