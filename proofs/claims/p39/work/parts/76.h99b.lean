/-! how many expressions a list may hold: at most 99 -/
section CNT
variable {t x8 m : Cm} {E : Int32 → Int32 → Prop} {s i : Int32}
def wd12 (x : Int32) : Prop := f12_isDigit x = true ∨ f12_isLetter x = true
theorem in12_rg {a b c : Int32} (h : f12_in a b c = true) : b.toInt ≤ a.toInt ∧ a.toInt ≤ c.toInt := by
  unfold f12_in at h
  by_cases c1 : a < b
  · rw [if_pos c1] at h; cases h
  · rw [if_neg c1] at h
    by_cases c2 : c < a
    · rw [if_pos c2] at h; cases h
    · simp only [i32lt] at c1 c2; omega
theorem wd_48 {x : Int32} (h : wd12 x) : 48 ≤ x.toInt := by
  rcases h with h | h
  · exact (in12_rg (a := x) (b := 48) (c := 57) h).1
  · have := (in12_rg (a := x) (b := 97) (c := 122) h).1
    rw [show (97 : Int32).toInt = 97 by decide] at this; omega
theorem wd_ne {x k : Int32} (h : wd12 x) (hk : k.toInt < 48) : ¬ x = k := by
  intro z; have := wd_48 h; rw [z] at this; omega
theorem endF (k : Nat) (p d : Int32) : f12_endOf_lp8 m s (k + 1) (false, p, d) = p := by
  rw [f12_endOf_lp8_s, if_neg (show ¬ (false : Bool) = true by decide)]
theorem lp8_atom {k : Nat} {p : Int32} (h1 : ¬ f12_signAt m s p = 40) (h2 : ¬ f12_signAt m s p = 41) : f12_endOf_lp8 m s (k + 1) (true, p, 0) = f12_endOf_lp8 m s k (f12_isDigit (f12_signAt m s (p + 1)) || f12_isLetter (f12_signAt m s (p + 1)), p + 1, 0) := by
  rw [f12_endOf_lp8_s]
  simp only [bnd_e, jn_e]
  rw [if_pos trivial, if_neg h1, if_neg h2]
  rw [show (0 : Int32) + 0 = 0 from rfl]
  have n0 : ¬ (0 : Int32) < 0 := by decide
  cases f12_isDigit (f12_signAt m s (p + 1)) with
  | true =>
    simp only [if_true]
    rw [if_neg n0, if_neg h1, if_neg h2]; rfl
  | false =>
    cases f12_isLetter (f12_signAt m s (p + 1)) with
    | true =>
      simp only [Bool.false_eq_true, if_false, if_true]
      rw [if_neg n0, if_neg h1, if_neg h2]; rfl
    | false =>
      simp only [Bool.false_eq_true, if_false]
      rw [if_neg n0, if_neg h1, if_neg h2]; rfl
theorem atom_end (hL : (m 3 0 s).toInt ≤ 120) : ∀ (k : Nat) (p : Int32), 0 ≤ p.toInt → p.toInt < (m 3 0 s).toInt → 122 - p.toInt < k → ¬ f12_signAt m s p = 40 → ¬ f12_signAt m s p = 41 → p.toInt + 1 ≤ (f12_endOf_lp8 m s k (true, p, 0)).toInt ∧ ¬ wd12 (f12_signAt m s (f12_endOf_lp8 m s k (true, p, 0))) ∧ (wd12 (f12_signAt m s (p + 1)) → p.toInt + 2 ≤ (f12_endOf_lp8 m s k (true, p, 0)).toInt) := by
  intro k
  induction k with
  | zero => intro p a b c; omega
  | succ k ih =>
    intro p a b c h1 h2
    have e1 : (p + 1).toInt = p.toInt + 1 := inc_t a (by omega)
    rw [lp8_atom h1 h2]
    by_cases w : wd12 (f12_signAt m s (p + 1))
    · have wb : (f12_isDigit (f12_signAt m s (p + 1)) || f12_isLetter (f12_signAt m s (p + 1))) = true := by
        rcases w with w | w <;> rw [w]
        · rfl
        · exact Bool.or_true _
      rw [wb]
      have lt : (p + 1).toInt < (m 3 0 s).toInt := signAt_lt (wd_ne w (by decide))
      obtain ⟨I1, I2, I3⟩ := ih (p + 1) (by omega) lt (by omega) (wd_ne w (by decide)) (wd_ne w (by decide))
      exact ⟨by omega, I2, fun _ => by omega⟩
    · have wb : (f12_isDigit (f12_signAt m s (p + 1)) || f12_isLetter (f12_signAt m s (p + 1))) = false := by
        unfold wd12 at w
        cases h : f12_isDigit (f12_signAt m s (p + 1)) with
        | true => exact absurd (Or.inl h) w
        | false =>
          cases h' : f12_isLetter (f12_signAt m s (p + 1)) with
          | true => exact absurd (Or.inr h') w
          | false => rfl
      rw [wb]
      obtain ⟨k', rfl⟩ : ∃ k', k = k' + 1 := ⟨k - 1, by omega⟩
      rw [endF]
      exact ⟨by omega, w, fun z => absurd z w⟩
theorem list_end (hk : Ok12 m) (hs : vp_in s 8) (hT : Tx12 m s) (hI : Ix12 m s i) (h40 : f12_signAt m s i = 40) : i.toInt + 2 ≤ (f12_endOf m s i).toInt := by
  have hL := (hk.len s hs).2
  have h0 := hI.1
  have h1 := hI.2
  have e1 : (i + 1).toInt = i.toInt + 1 := inc_t h0 (by omega)
  have st : f12_endOf m s i = f12_endOf_lp8 m s 122 (true, i + 1, 1) := by
    unfold f12_endOf
    rw [f12_endOf_lp8_s]
    simp only [bnd_e, jn_e]
    rw [if_pos trivial, if_pos h40]
    rw [show (0 : Int32) + 1 = 1 from rfl, if_pos (show (0 : Int32) < 1 by decide)]
    cases f12_isDigit (f12_signAt m s (i + 1)) with
    | true => rfl
    | false =>
      cases f12_isLetter (f12_signAt m s (i + 1)) with
      | true => rfl
      | false => rfl
  have E0 := E12.start hT hI
  have E1 : E12 m s 1 (i + 1) true := E12.step (o := 0) (e := i) (v := 1) (sg := f12_signAt m s i) (gg := true) hL E0 rfl rfl rfl (by rw [h40]; decide) rfl (fun _ => Or.inl (by decide))
  have lt : (i + 1).toInt < (m 3 0 s).toInt := by
    obtain ⟨a, b⟩ := E1.2.2.2.2 rfl
    by_cases c : (i + 1).toInt < (m 3 0 s).toInt
    · exact c
    · have := b (i + 1).toInt.toNat 0 (by omega) (by omega)
      have z : sf12 m s (i + 1).toInt.toNat 0 = 0 := rfl
      rw [z, t32_1] at this; omega
  have R := endOf_lp hL 122 (true, i + 1, 1) E1 (fun _ => lt) (by show (i + 1).toInt ≤ _; omega) (by show 122 - (i + 1).toInt < _; omega)
  rw [st]
  have := R.2.2 rfl
  have z : (i + 1).toInt < (f12_endOf_lp8 m s 122 (true, i + 1, 1)).toInt := this
  omega
/-- where an expression may begin -/
def Bg (m : Cm) (s i : Int32) : Prop := Ix12 m s i ∧ ¬ f12_signAt m s i = 0 ∧ ¬ f12_signAt m s i = 32 ∧ ¬ f12_signAt m s i = 41
theorem following_b (hk : Ok12 m) (hs : vp_in s 8) (hT : Tx12 m s) (hI : Ix12 m s i) (hn : ¬ f12_following m s i = -1) : Bg m s (f12_following m s i) ∧ (f12_endOf m s i).toInt ≤ (f12_following m s i).toInt := by
  have h := endOf_o hk hs hT hI
  have h0 := hI.1
  have hL := (hk.len s hs).2
  have e : f12_following m s i = f12_nextAt m s (f12_endOf m s i) := rfl
  rw [e] at hn ⊢
  rcases nextAt_o hk hs (i := f12_endOf m s i) (by omega) (by omega) with z | z
  · exact absurd z hn
  · exact ⟨⟨⟨by have := z.1; omega, z.2.1⟩, z.2.2⟩, z.1⟩
theorem three_c (hk : Ok12 m) (hs : vp_in s 8) (hT : Tx12 m s) (hF : f12_faultOf m s = -1) (hS : SgS m s) (hB : Bg m s i) (h2 : ¬ f12_following m s i = -1) (h3 : ¬ f12_following m s (f12_following m s i) = -1) : i.toInt + 3 ≤ (f12_following m s (f12_following m s i)).toInt := by
  have hL := (hk.len s hs).2
  have two : ∀ j : Int32, Bg m s j → (f12_signAt m s j = 40 ∨ f12_signAt m s j = 45) → j.toInt + 2 ≤ (f12_endOf m s j).toInt := by
    intro j hj c
    rcases c with c | c
    · exact list_end hk hs hT hj.1 c
    · have mn := minus_c hk hs hF hj.1.1 hj.1.2 c
      have A := atom_end hL 123 j hj.1.1 hj.1.2 (by have := hj.1.1; omega) (by rw [c]; decide) (by rw [c]; decide)
      exact A.2.2 (Or.inl mn)
  obtain ⟨B2, l2⟩ := following_b hk hs hT hB.1 h2
  obtain ⟨B3, l3⟩ := following_b hk hs hT B2.1 h3
  have o1 := endOf_o hk hs hT hB.1
  have o2 := endOf_o hk hs hT B2.1
  by_cases c40 : f12_signAt m s i = 40
  · have := list_end hk hs hT hB.1 c40
    omega
  · by_cases c2 : i.toInt + 2 ≤ (f12_following m s i).toInt
    · omega
    · have A := atom_end hL 123 i hB.1.1 hB.1.2 (by have := hB.1.1; omega) c40 hB.2.2.2
      have ee : f12_endOf m s i = f12_following m s i := by
        rw [i32eq]; have := A.1
        have e : f12_endOf_lp8 m s 123 (true, i, 0) = f12_endOf m s i := rfl
        rw [e] at this; omega
      have nw : ¬ wd12 (f12_signAt m s (f12_following m s i)) := by
        rw [← ee]; exact A.2.1
      have sg := hS (f12_following m s i) B2.1.1 B2.1.2
      have c : f12_signAt m s (f12_following m s i) = 40 ∨ f12_signAt m s (f12_following m s i) = 45 := by
        rcases sg with (z | z) | (z | z) | z
        · exact absurd z B2.2.2.1
        · exact Or.inl z
        · exact absurd z B2.2.2.2
        · exact Or.inr z
        · exact absurd z nw
      have := two _ B2 c
      omega
theorem count_b (hk : Ok12 m) (hs : vp_in s 8) (hT : Tx12 m s) (hF : f12_faultOf m s = -1) (hS : SgS m s) : ∀ (k : Nat) (i : Int32), (m 3 0 s).toInt - i.toInt ≤ k → Bg m s i → 3 * (CN12 m s i : Int) ≤ 2 * ((m 3 0 s).toInt - i.toInt) + 2 := by
  intro k
  induction k using Nat.strongRecOn with
  | ind k ih =>
    intro i hi hB
    have h1 := hB.1.2
    have c1 := CN12_s hk hs hT hB.1
    by_cases h2 : f12_following m s i = -1
    · rw [h2, CN12_none] at c1; omega
    · obtain ⟨B2, l2⟩ := following_b hk hs hT hB.1 h2
      have o1 := endOf_o hk hs hT hB.1
      have c2 := CN12_s hk hs hT B2.1
      have g2 := B2.1.2
      by_cases h3 : f12_following m s (f12_following m s i) = -1
      · rw [h3, CN12_none] at c2; omega
      · obtain ⟨B3, l3⟩ := following_b hk hs hT B2.1 h3
        have t3 := three_c hk hs hT hF hS hB h2 h3
        have g3 := B3.1.2
        have I := ih ((m 3 0 s).toInt - (f12_following m s (f12_following m s i)).toInt).toNat (by omega) (f12_following m s (f12_following m s i)) (by omega) B3
        omega
theorem h99_all : H99 t x8 E := by
  intro m s n hk hX hs hF hE
  have hL := (hk.len s hs).2
  have hS := (hX s hs).1.2
  have hTr := (hX s hs).2 hF
  have hT := faultOf_T hk hs hF
  by_cases hn : n = -1
  · rw [hn, CN12_none]; omega
  · have nd := hTr.2 n (hE.resolve_left hn)
    have c1 := CN12_s hk hs hT nd.1
    by_cases h2 : f12_following m s n = -1
    · rw [h2, CN12_none] at c1; omega
    · obtain ⟨B2, _⟩ := following_b hk hs hT nd.1 h2
      have g0 := B2.1.1
      have := count_b hk hs hT hF hS 120 (f12_following m s n) (by omega) B2
      omega
end CNT
