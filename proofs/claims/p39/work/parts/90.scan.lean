/-! SCANNING a text: blanks, tokens, lists, words; where expressions begin -/
section SCAN
variable {m : Cm} {s : Int32}
def Bk (m : Cm) (s a b : Int32) : Prop := ∀ j : Int32, a.toInt ≤ j.toInt → j.toInt < b.toInt → f12_signAt m s j = 32
theorem nxl_scan (K : Int32 → Int32) {b : Int32} (hb : b.toInt ≤ 121) : ∀ (n : Nat) (a : Int32), 0 ≤ a.toInt → a.toInt ≤ b.toInt → b.toInt - a.toInt < n → Bk m s a b → ¬ f12_signAt m s b = 32 → f12_nextAt_lp2 m s K n a = K b := by
  intro n
  induction n with
  | zero => intro a _ h c; omega
  | succ n ih =>
    intro a h0 h1 h2 hB hb2
    rw [f12_nextAt_lp2_s]
    simp only [bnd_e]
    by_cases c : a.toInt = b.toInt
    · have e : a = b := Int32.toInt_inj.1 c
      rw [e, if_neg hb2]
    · have e1 : (a + 1).toInt = a.toInt + 1 := inc_t h0 (by omega)
      rw [if_pos (hB a (Int.le_refl _) (by omega))]
      exact ih (a + 1) (by omega) (by omega) (by omega) (fun j x y => hB j (by omega) y) hb2
theorem nextAt_scan {a b : Int32} (h0 : 0 ≤ a.toInt) (h1 : a.toInt ≤ b.toInt) (hb : b.toInt ≤ 121) (hB : Bk m s a b) (h32 : ¬ f12_signAt m s b = 32) : f12_nextAt m s a = if f12_signAt m s b = 0 then -1 else if f12_signAt m s b = 41 then -1 else b := by
  unfold f12_nextAt
  simp only [jn_e, bnd_e]
  rw [nxl_scan _ hb 123 a h0 h1 (by omega) hB h32]
/-- depth ahead of a sign, and what stands ahead of it -/
def dpN (m : Cm) (s : Int32) : Nat → Int
  | 0 => 0
  | k + 1 => dpN m s k + dl12 (f12_signAt m s (nI k))
def dp (m : Cm) (s i : Int32) : Int := dpN m s i.toInt.toNat
theorem dp_s {i : Int32} (h0 : 0 ≤ i.toInt) (h1 : i.toInt < 2147483647) : dp m s (i + 1) = dp m s i + dl12 (f12_signAt m s i) := by
  unfold dp
  rw [inc_t h0 h1, show (i.toInt + 1).toNat = i.toInt.toNat + 1 by omega, dpN, nI_e (show ((i.toInt.toNat : Nat) : Int) = i.toInt by omega)]
def ahN (m : Cm) (s : Int32) : Nat → Int32
  | 0 => 0
  | k + 1 => f12_read (f12_signAt m s (nI k)) (ahN m s k)
def ah (m : Cm) (s i : Int32) : Int32 := ahN m s i.toInt.toNat
theorem ah_s {i : Int32} (h0 : 0 ≤ i.toInt) (h1 : i.toInt < 2147483647) : ah m s (i + 1) = f12_read (f12_signAt m s i) (ah m s i) := by
  unfold ah
  rw [inc_t h0 h1, show (i.toInt + 1).toNat = i.toInt.toNat + 1 by omega, ahN, nI_e (show ((i.toInt.toNat : Nat) : Int) = i.toInt by omega)]
/-- an expression begins here -/
def Bx (m : Cm) (s i : Int32) : Prop := Ix12 m s i ∧ (f12_signAt m s i = 40 ∨ (ah m s i = 0 ∧ (wd12 (f12_signAt m s i) ∨ f12_signAt m s i = 45)))
theorem Bx.ne {i : Int32} (h : Bx m s i) : ¬ f12_signAt m s i = 32 ∧ ¬ f12_signAt m s i = 41 ∧ ¬ f12_signAt m s i = 0 := by
  rcases h.2 with z | ⟨_, z | z⟩
  · rw [z]; decide
  · exact ⟨wd_ne z (by decide), wd_ne z (by decide), wd_ne z (by decide)⟩
  · rw [z]; decide
/-- the end of a list -/
theorem lp8_b {n : Nat} {a o : Int32} : f12_endOf_lp8 m s (n + 1) (true, a, o) = f12_endOf_lp8 m s n (if 0 < o + dl32 (f12_signAt m s a) then true else if f12_signAt m s a = 40 then false else if f12_signAt m s a = 41 then false else (f12_isDigit (f12_signAt m s (a + 1)) || f12_isLetter (f12_signAt m s (a + 1))), a + 1, o + dl32 (f12_signAt m s a)) := by
  rw [f12_endOf_lp8_s]
  simp only [bnd_e, jn_e]
  rw [if_pos trivial]
  unfold dl32
  cases f12_isDigit (f12_signAt m s (a + 1)) <;> cases f12_isLetter (f12_signAt m s (a + 1)) <;> simp only [Bool.false_eq_true, if_true, if_false, Bool.or_false, Bool.or_true, Bool.true_or, Bool.false_or, Bool.or_self] <;> repeat' split
  all_goals first | rfl | (exfalso; simp_all; done)
theorem endL {i e : Int32} (h0 : 0 ≤ i.toInt) (he : e.toInt ≤ 120) (hI : ∀ j : Int32, i.toInt < j.toInt → j.toInt < e.toInt → dp m s i < dp m s j) (hE : dp m s e = dp m s i) (h40 : f12_signAt m s i = 40) : ∀ (n : Nat) (a o : Int32), i.toInt ≤ a.toInt → a.toInt < e.toInt → e.toInt - a.toInt < n → o.toInt = dp m s a - dp m s i → o.toInt ≤ a.toInt → f12_endOf_lp8 m s n (true, a, o) = e := by
  intro n
  induction n with
  | zero => intro a o _ _ c; omega
  | succ n ih =>
    intro a o a0 a1 a2 a3 a4
    have e1 : (a + 1).toInt = a.toInt + 1 := inc_t (by omega) (by omega)
    have ds := dp_s (m := m) (s := s) (i := a) (by omega) (by omega)
    have dl : (dl32 (f12_signAt m s a)).toInt = dl12 (f12_signAt m s a) := by
      unfold dl32 dl12
      split
      · decide
      · split <;> decide
    have dr := dl12_r (f12_signAt m s a)
    have o0 : 0 ≤ o.toInt := by
      by_cases c : a.toInt = i.toInt
      · have : a = i := Int32.toInt_inj.1 c
        rw [this] at a3; omega
      · have := hI a (by omega) a1; omega
    have eo : (o + dl32 (f12_signAt m s a)).toInt = o.toInt + dl12 (f12_signAt m s a) := by
      rw [i32addn (by rw [dl]; omega) (by rw [dl]; omega), dl]
    rw [lp8_b]
    by_cases c : (a + 1).toInt = e.toInt
    · have ce : a + 1 = e := Int32.toInt_inj.1 c
      have z : (o + dl32 (f12_signAt m s a)).toInt = 0 := by rw [eo]; rw [ce] at ds; omega
      have n0 : ¬ 0 < o + dl32 (f12_signAt m s a) := by simp only [i32lt, t32_0]; omega
      rw [if_neg n0]
      have g40 : ¬ f12_signAt m s a = 40 := by
        intro y
        have : dl12 (f12_signAt m s a) = 1 := by rw [y]; rfl
        omega
      have g41 : f12_signAt m s a = 41 := by
        by_cases ci : a.toInt = i.toInt
        · have : a = i := Int32.toInt_inj.1 ci
          exact absurd (by rw [this]; exact h40) g40
        · have := hI a (by omega) a1
          by_cases y : f12_signAt m s a = 41
          · exact y
          · have : dl12 (f12_signAt m s a) = 0 := by unfold dl12; rw [if_neg g40, if_neg y]
            omega
      rw [if_neg g40, if_pos g41]
      obtain ⟨k, rfl⟩ : ∃ k, n = k + 1 := ⟨n - 1, by omega⟩
      rw [endF, ce]
    · have := hI (a + 1) (by omega) (by omega)
      rw [if_pos (show 0 < o + dl32 (f12_signAt m s a) by simp only [i32lt, t32_0]; omega)]
      exact ih (a + 1) _ (by omega) (by omega) (by omega) (by omega) (by omega)
theorem endOf_list {i e : Int32} (h0 : 0 ≤ i.toInt) (he : e.toInt ≤ 120) (h1 : i.toInt < e.toInt) (hI : ∀ j : Int32, i.toInt < j.toInt → j.toInt < e.toInt → dp m s i < dp m s j) (hE : dp m s e = dp m s i) (h40 : f12_signAt m s i = 40) : f12_endOf m s i = e :=
  endL h0 he hI hE h40 123 i 0 (Int.le_refl _) h1 (by omega) (by rw [t32_0]; omega) (by rw [t32_0]; exact h0)
/-- the end of a number or a name -/
theorem endA {e : Int32} (he : e.toInt ≤ 120) (hw : ¬ wd12 (f12_signAt m s e)) : ∀ (n : Nat) (a : Int32), 0 ≤ a.toInt → a.toInt < e.toInt → e.toInt - a.toInt < n → ¬ f12_signAt m s a = 40 → ¬ f12_signAt m s a = 41 → (∀ j : Int32, a.toInt < j.toInt → j.toInt < e.toInt → wd12 (f12_signAt m s j)) → f12_endOf_lp8 m s n (true, a, 0) = e := by
  intro n
  induction n with
  | zero => intro a _ _ c; omega
  | succ n ih =>
    intro a a0 a1 a2 n40 n41 hW
    have e1 : (a + 1).toInt = a.toInt + 1 := inc_t a0 (by omega)
    rw [lp8_atom n40 n41]
    by_cases c : (a + 1).toInt = e.toInt
    · have ce : a + 1 = e := Int32.toInt_inj.1 c
      rw [ce]
      have wb : (f12_isDigit (f12_signAt m s e) || f12_isLetter (f12_signAt m s e)) = false := by
        cases h : f12_isDigit (f12_signAt m s e) with
        | true => exact absurd (Or.inl h) hw
        | false =>
          cases h' : f12_isLetter (f12_signAt m s e) with
          | true => exact absurd (Or.inr h') hw
          | false => rfl
      rw [wb]
      obtain ⟨k, rfl⟩ : ∃ k, n = k + 1 := ⟨n - 1, by omega⟩
      rw [endF]
    · have w := hW (a + 1) (by omega) (by omega)
      have wb : (f12_isDigit (f12_signAt m s (a + 1)) || f12_isLetter (f12_signAt m s (a + 1))) = true := by
        rcases w with w | w <;> rw [w]
        · rfl
        · exact Bool.or_true _
      rw [wb]
      exact ih (a + 1) (by omega) (by omega) (by omega) (wd_ne w (by decide)) (wd_ne w (by decide)) (fun j x y => hW j (by omega) y)
theorem endOf_atom {i e : Int32} (h0 : 0 ≤ i.toInt) (he : e.toInt ≤ 120) (h1 : i.toInt < e.toInt) (hw : ¬ wd12 (f12_signAt m s e)) (n40 : ¬ f12_signAt m s i = 40) (n41 : ¬ f12_signAt m s i = 41) (hW : ∀ j : Int32, i.toInt < j.toInt → j.toInt < e.toInt → wd12 (f12_signAt m s j)) : f12_endOf m s i = e :=
  endA he hw 123 i h0 h1 (by omega) n40 n41 hW
/-- a name and a number, letter by letter -/
def NmI (m : Cm) (s c p v : Int32) : Prop := f12_nameAt m s c = f12_nameAt_lp5 m s (123 - (p.toInt - c.toInt).toNat) (p, v)
theorem ring1 (v g : Int32) : 27 * v + g - 96 = v * 27 + (g - 97 + 1) := by
  rw [Int32.mul_comm, Int32.sub_eq_add_neg, Int32.sub_eq_add_neg, Int32.add_assoc, Int32.add_assoc]; rfl
theorem NmI.one {c v : Int32} (hc : 0 ≤ c.toInt ∧ c.toInt < 120) : NmI m s c c 0 := by
  unfold NmI; rw [Int.sub_self]; rfl
theorem NmI.step {c p v : Int32} (h : NmI m s c p v) (h0 : 0 ≤ c.toInt) (h1 : c.toInt ≤ p.toInt) (h2 : p.toInt < 120) (hl : f12_isLetter (f12_signAt m s p) = true) : NmI m s c (p + 1) (v * 27 + (f12_signAt m s p - 97 + 1)) := by
  have e1 : (p + 1).toInt = p.toInt + 1 := inc_t (by omega) (by omega)
  unfold NmI at *
  obtain ⟨k, hk⟩ : ∃ k, 123 - (p.toInt - c.toInt).toNat = k + 1 := ⟨122 - (p.toInt - c.toInt).toNat, by omega⟩
  have hk2 : 123 - ((p + 1).toInt - c.toInt).toNat = k := by omega
  rw [h, hk, hk2, f12_nameAt_lp5_s]
  simp only [bnd_e]
  rw [if_pos hl, ring1]
theorem NmI.done {c p v : Int32} (h : NmI m s c p v) (h0 : 0 ≤ c.toInt) (h1 : c.toInt ≤ p.toInt) (h2 : p.toInt ≤ 120) (hl : ¬ f12_isLetter (f12_signAt m s p) = true) : f12_nameAt m s c = v := by
  unfold NmI at h
  obtain ⟨k, hk⟩ : ∃ k, 123 - (p.toInt - c.toInt).toNat = k + 1 := ⟨122 - (p.toInt - c.toInt).toNat, by omega⟩
  rw [h, hk, f12_nameAt_lp5_s]
  simp only [bnd_e]
  rw [if_neg hl]
def ngI (g y : Int32) : Int32 := if g = 45 then -y else y
def ngS (g c : Int32) : Int32 := if g = 45 then c + 1 else c
def NuI (m : Cm) (s c p v : Int32) : Prop := ∃ y : Int32, v = ngI (f12_signAt m s c) y ∧ f12_numberAt m s c = f12_numberAt_lp34 m s (ngI (f12_signAt m s c)) (123 - (p.toInt - (ngS (f12_signAt m s c) c).toInt).toNat) (p, y)
theorem numberAt_e (c : Int32) : f12_numberAt m s c = f12_numberAt_lp34 m s (ngI (f12_signAt m s c)) 123 (ngS (f12_signAt m s c) c, 0) := by
  unfold f12_numberAt ngS ngI
  simp only [bnd_e, jn_e, Nat.zero_mul, Nat.add_zero]
  by_cases h : f12_signAt m s c = 45
  · rw [if_pos h, if_pos h]
    simp only [h, if_true]
  · rw [if_neg h, if_neg h]
    simp only [h, if_false, Bool.false_eq_true]
theorem NuI.one (c : Int32) : NuI m s c (ngS (f12_signAt m s c) c) 0 := by
  refine ⟨0, ?_, ?_⟩
  · unfold ngI; split <;> rfl
  · rw [Int.sub_self]; exact numberAt_e c
theorem ring2 (y g : Int32) : -(10 * y + g - 48) = (-y) * 10 + -(g - 48) := by
  rw [Int32.sub_eq_add_neg, Int32.add_assoc, Int32.neg_add, ← Int32.sub_eq_add_neg g 48, Int32.mul_comm, Int32.neg_mul, Int32.sub_eq_add_neg (-(y * 10))]
theorem ring3 (y g : Int32) : 10 * y + g - 48 = y * 10 + (g - 48) := by
  rw [Int32.mul_comm, Int32.sub_eq_add_neg, Int32.sub_eq_add_neg, Int32.add_assoc]
theorem NuI.step {c p v : Int32} (h : NuI m s c p v) (h0 : 0 ≤ c.toInt) (hc : c.toInt < 120) (h1 : (ngS (f12_signAt m s c) c).toInt ≤ p.toInt) (h2 : p.toInt < 120) (hl : f12_isDigit (f12_signAt m s p) = true) : NuI m s c (p + 1) (v * 10 + ngI (f12_signAt m s c) (f12_signAt m s p - 48)) := by
  have e0 : 0 ≤ (ngS (f12_signAt m s c) c).toInt := by
    unfold ngS
    split
    · rw [inc_t h0 (by omega)]; omega
    · exact h0
  have e1 : (p + 1).toInt = p.toInt + 1 := inc_t (by omega) (by omega)
  obtain ⟨y, hv, h⟩ := h
  generalize hq : (ngS (f12_signAt m s c) c).toInt = q at *
  obtain ⟨k, hk⟩ : ∃ k, 123 - (p.toInt - q).toNat = k + 1 := ⟨122 - (p.toInt - q).toNat, by omega⟩
  have hk2 : 123 - ((p + 1).toInt - q).toNat = k := by omega
  refine ⟨10 * y + f12_signAt m s p - 48, ?_, ?_⟩
  · rw [hv]
    unfold ngI
    split
    · rw [ring2]
    · rw [ring3]
  · rw [hq, h, hk, hk2, f12_numberAt_lp34_s]
    simp only [bnd_e]
    rw [if_pos hl]
theorem NuI.done {c p v : Int32} (h : NuI m s c p v) (h0 : 0 ≤ c.toInt) (hc : c.toInt < 120) (h1 : (ngS (f12_signAt m s c) c).toInt ≤ p.toInt) (h2 : p.toInt ≤ 120) (hl : ¬ f12_isDigit (f12_signAt m s p) = true) : f12_numberAt m s c = v := by
  have e0 : 0 ≤ (ngS (f12_signAt m s c) c).toInt := by
    unfold ngS
    split
    · rw [inc_t h0 (by omega)]; omega
    · exact h0
  obtain ⟨y, hv, h⟩ := h
  generalize hq : (ngS (f12_signAt m s c) c).toInt = q at *
  obtain ⟨k, hk⟩ : ∃ k, 123 - (p.toInt - q).toNat = k + 1 := ⟨122 - (p.toInt - q).toNat, by omega⟩
  rw [h, hk, f12_numberAt_lp34_s]
  simp only [bnd_e]
  rw [if_neg hl, hv]
end SCAN
