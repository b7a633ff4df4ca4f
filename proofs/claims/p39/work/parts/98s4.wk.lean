/-! WHAT THE LAW'S CALLS LEAVE: no answer is the mark of a throw; what throws changes nothing that is told -/
section WKS
variable {s : ST} {M : Wm} {p1 p2 p3 p4 : Int32}
theorem n99 {x : Int32} (h : 0 ≤ x.toInt) : ¬ x = -99999 := fun z => by rw [z] at h; exact absurd h (by decide)
theorem Z12_thr {a b : Nat} {m : Cm} {r : Int32 × Cm} (h : ¬ (Z12 a b m r).1.1 = 0) : (Z12 a b m r).2 = m := by
  unfold Z12 at h ⊢
  by_cases c : r.2 0 0 0 = 0
  · rw [if_pos c] at h; exact absurd rfl h
  · rw [if_neg c]
def WK (s : ST) (z : Int32 × ST) : Prop := OKS z.2 ∧ z.2.1 = s.1 ∧ (s.2.1 ≤ z.2.2.1 ∧ z.2.2.1 ≤ s.2.1 + 1) ∧ (z.1 = -99999 → z.2.2.2 = s.2.2)
theorem WK.of {a b : Nat} {r : Int32 × Cm} {k' : Int} {z : (Nat × Int32) × Wm} (O : LOp s.1 k' z (Z12 a b s.2.2 r)) (hk : s.2.1 ≤ k' ∧ k' ≤ s.2.1 + 1) (v : Int32) (hv : z.1.1 = 0 → ¬ v = -99999) : WK s (if (Z12 a b s.2.2 r).1.1 = 0 then (v, (s.1, k', (Z12 a b s.2.2 r).2)) else (-99999, (s.1, k', (Z12 a b s.2.2 r).2))) := by
  have ok : OKS (s.1, k', (Z12 a b s.2.2 r).2) := ⟨uW z.2 12 (Z12 a b s.2.2 r).2, uW_at _ _ _, O.2.2⟩
  by_cases c : (Z12 a b s.2.2 r).1.1 = 0
  · rw [if_pos c]; exact ⟨ok, rfl, hk, fun e => absurd e (hv (O.1.trans c))⟩
  · rw [if_neg c]; exact ⟨ok, rfl, hk, fun _ => Z12_thr c⟩
theorem t2i (x : Bool) : 0 ≤ (b2i x).toInt := by cases x <;> decide
theorem v_type (h : RW 1000 M) (e : (f11_type M p1 p2).1.1 = 0) : ¬ (f11_type M p1 p2).1.2 = -99999 := by
  refine n99 ?_
  have ln := h.ln p1
  revert e
  unfold f11_type; simp only [bnd_e, jn_e]
  by_cases c1 : f11_demandScript p1 = 0
  · have hs := demandScript_ok c1
    have := ln hs
    have ev : 0 ≤ (f8_append (M 8) p1 p2).1.toInt := by
      show 0 ≤ (u3 (u3 (M 8) 1 0 _ p2) 2 0 p1 (M 8 2 0 p1 + 1) 2 0 p1).toInt
      rw [u3_at, inc_t this.1 (by omega)]; omega
    rw [if_pos c1]
    repeat' split
    all_goals first | (intro _; exact ev) | (intro e; exact absurd e (by assumption))
  · rw [if_neg c1]; intro e; exact absurd e c1
theorem v_erase (h : RW 1000 M) (e : (f11_erase M p1 p2).1.1 = 0) : ¬ (f11_erase M p1 p2).1.2 = -99999 := by
  refine n99 ?_
  have ln := h.ln p1
  revert e
  unfold f11_erase; simp only [bnd_e, jn_e]
  by_cases c1 : f11_demandScript p1 = 0
  · have hs := demandScript_ok c1
    have := ln hs
    have m := mnI_t (a := p2) (b := M 8 2 0 p1)
    have ev : ¬ p2 < 1 → 0 ≤ (f8_cut (M 8) p1 p2).1.toInt := fun c => by
      show 0 ≤ (u3 (M 8) 2 0 p1 (M 8 2 0 p1 - mnI p2 (M 8 2 0 p1)) 2 0 p1).toInt
      simp only [i32lt, t32_1] at c
      have m0 := mnI_0 (a := p2) (b := M 8 2 0 p1) (by omega) this.1
      rw [u3_at, i32subn (by omega) (by omega)]; omega
    rw [if_pos c1]
    by_cases c2 : p2 < 1
    · rw [if_pos c2, if_neg (show ¬ f11_demand false = 0 by decide)]; intro e; exact absurd e (show ¬ f11_demand false = 0 by decide)
    · rw [if_neg c2, if_pos (show f11_demand true = 0 by decide)]; intro _; exact ev c2
  · rw [if_neg c1]; intro e; exact absurd e c1
theorem v_giveRations {x : Int32 → Int32} {B O : Int} (h : J0 x B O M) (e : (f11_giveRations M p1 p2).1.1 = 0) : ¬ (f11_giveRations M p1 p2).1.2 = -99999 := by
  refine n99 ?_
  revert e
  unfold f11_giveRations; simp only [bnd_e, jn_e]
  by_cases c1 : f11_demandCompany p1 = 0
  · rw [if_pos c1]
    have hc := demC_ok c1
    by_cases c2 : f11_demand (f11_isIn p2 1 1000) = 0
    · rw [if_pos c2]
      intro _
      have hi := isIn11_t (demand_ok c2)
      rw [t32_1, t32_1000] at hi
      have fl := h.1.fle hc; have f0 := h.1.2.1 p1 hc; have s0 := h.1.s0; have hB := h.1.2.2.2.2.1; have hB' := h.1.2.2.2.2.2
      show 0 ≤ (u3 (M 5) 2 0 p1 (M 5 2 0 p1 + p2) 2 0 p1).toInt
      rw [u3_at, i32addn (by omega) (by omega)]; omega
    · rw [if_neg c2]; intro e; exact absurd e c2
  · rw [if_neg c1]; intro e; exact absurd e c1
theorem v_setTariff {x : Int32 → Int32} {B O : Int} (h : J0 x B O M) (e : (f11_setTariff M p1).1.1 = 0) : ¬ (f11_setTariff M p1).1.2 = -99999 := by
  refine n99 ?_
  revert e
  unfold f11_setTariff; simp only [bnd_e, jn_e]
  by_cases c2 : f11_demand (f11_isIn p1 0 100) = 0
  · rw [if_pos c2]; intro _; exact h.1.1.1
  · rw [if_neg c2]; intro e; exact absurd e c2
theorem buy_v (q : Cm) (c p : Int32) : (f5_buyFuel q c p).1 = p * q 0 0 5 ∨ (f5_buyFuel q c p).1 = 0 := by
  have key : ∀ (v1 : Int32) (k : Nat) (y : Int32 × Int32 × Cm), (f5_buyFuel_lp35 c v1 k y).1 = v1 ∨ (f5_buyFuel_lp35 c v1 k y).1 = 0 := by
    intro v1 k
    induction k with
    | zero => intro y; exact Or.inr rfl
    | succ k ih =>
      intro y
      rw [f5_buyFuel_lp35]
      split
      · exact Or.inl rfl
      · simp only [bnd_e]; exact ih _
  unfold f5_buyFuel
  simp only [bnd_e]
  exact key _ _ _
theorem v_buy {x : Int32 → Int32} {B O : Int} (h : J0 x B O M) (e : (f11_buy M p1 p2).1.1 = 0) : ¬ (f11_buy M p1 p2).1.2 = -99999 := by
  refine n99 ?_
  revert e
  have bv := buy_v (M 5) p1 p2
  unfold f11_buy; simp only [bnd_e, jn_e]
  by_cases c1 : f11_demandCompany p1 = 0
  · rw [if_pos c1]
    have hc := demC_ok c1
    by_cases c2 : p2 < 1
    · rw [if_pos c2, if_neg (show ¬ f11_demand false = 0 by decide)]; intro e; exact absurd e (show ¬ f11_demand false = 0 by decide)
    · rw [if_neg c2, if_pos (show f11_demand true = 0 by decide)]
      by_cases c3 : f5_rationsOf (M 5) p1 < p2
      · rw [if_pos c3, if_neg (show ¬ f11_demandState false = 0 by decide)]; intro e; exact absurd e (show ¬ f11_demandState false = 0 by decide)
      · rw [if_neg c3, if_pos (show f11_demandState true = 0 by decide)]
        intro _
        simp only [i32lt, t32_1] at c2 c3
        have c3' : p2.toInt ≤ (M 5 2 0 p1).toInt := by
          have : (f5_rationsOf (M 5) p1).toInt = (M 5 2 0 p1).toInt := rfl
          omega
        show 0 ≤ (f5_buyFuel (M 5) p1 p2).1.toInt
        rcases bv with z | z
        · obtain ⟨t0, t1⟩ := h.1.1
          have fl := h.1.fle hc; have s0 := h.1.s0; have hB := h.1.2.2.2.2.1; have hB' := h.1.2.2.2.2.2
          have hm : p2.toInt * (M 5 0 0 5).toInt ≤ p2.toInt * 100 := Int.mul_le_mul_of_nonneg_left t1 (by omega)
          have hm0 : 0 ≤ p2.toInt * (M 5 0 0 5).toInt := Int.mul_nonneg (by omega) t0
          rw [z, i32muln (by omega) (by omega)]; exact hm0
        · rw [z]; decide
  · rw [if_neg c1]; intro e; exact absurd e c1
theorem v_setCredit {x : Int32 → Int32} {B O : Int} (h : J0 x B O M) (e : (f11_setCredit M p1 p2 p3).1.1 = 0) : ¬ (f11_setCredit M p1 p2 p3).1.2 = -99999 := by
  refine n99 ?_
  revert e
  unfold f11_setCredit; simp only [bnd_e, jn_e]
  by_cases c1 : f11_demandCompany p1 = 0
  · rw [if_pos c1]
    by_cases c0 : f11_demandCompany p2 = 0
    · rw [if_pos c0]
      have hv : 0 ≤ (f5_changeCredit (M 5) p1 p2 p3).1.toInt := (h.1.2.2.1 p2 p1 (demC_ok c0) (demC_ok c1)).2
      repeat' split
      all_goals first | (intro _; exact hv) | (intro e; exact absurd e (by assumption))
    · rw [if_neg c0]; intro e; exact absurd e c0
  · rw [if_neg c1]; intro e; exact absurd e c1
theorem v_payBack {x : Int32 → Int32} {B O : Int} (h : J0 x B O M) (e : (f11_payBack M p1 p2 p3).1.1 = 0) : ¬ (f11_payBack M p1 p2 p3).1.2 = -99999 := by
  refine n99 ?_
  revert e
  unfold f11_payBack; simp only [bnd_e, jn_e]
  by_cases c1 : f11_demandCompany p1 = 0
  · rw [if_pos c1]
    by_cases c0 : f11_demandCompany p2 = 0
    · rw [if_pos c0]
      by_cases c2 : p3 < 1
      · rw [if_pos c2, if_neg (show ¬ f11_demand false = 0 by decide)]; intro e; exact absurd e (show ¬ f11_demand false = 0 by decide)
      · rw [if_neg c2, if_pos (show f11_demand true = 0 by decide)]
        by_cases c3 : f5_debtOf (M 5) p1 p2 < p3
        · rw [if_pos c3, if_neg (show ¬ f11_demandState false = 0 by decide)]; intro e; exact absurd e (show ¬ f11_demandState false = 0 by decide)
        · rw [if_neg c3]
          have hv : 0 ≤ (f5_payFromFuel (M 5) p1 p2 p3).1.toInt := by
            have c3' : ¬ M 5 7 p1 p2 < p3 := c3
            simp only [i32lt, t32_1] at c2 c3'
            have d0 := (h.1.2.2.1 p1 p2 (demC_ok c1) (demC_ok c0)).1
            have hr := i32rng (M 5 7 p1 p2)
            show 0 ≤ (u3 (u3 (u3 (M 5) 1 0 p1 _) 1 0 p2 _) 7 p1 p2 (M 5 7 p1 p2 - p3) 7 p1 p2).toInt
            rw [u3_at, i32subn (by omega) (by omega)]; omega
          repeat' split
          all_goals first | (intro _; exact hv) | (intro e; exact absurd e (by assumption))
    · rw [if_neg c0]; intro e; exact absurd e c0
  · rw [if_neg c1]; intro e; exact absurd e c1
theorem v_order {x : Int32 → Int32} {B O : Int} (h : J0 x B O M) (e : (f11_order M p1 p2 p3 p4).1.1 = 0) : ¬ (f11_order M p1 p2 p3 p4).1.2 = -99999 := by
  have hv : ¬ (f4_add (M 4) p1 p2 p3 p4).1 = -99999 := by
    have h60 := h.2.1.1
    unfold f4_add
    simp only [bnd_e]
    split
    · show ¬ (-1 : Int32) = -99999
      decide
    · refine n99 ?_
      show 0 ≤ (M 4 0 0 1 + 1 - 1).toInt
      rw [Int32.add_sub_cancel]; exact h60.1
  revert e
  unfold f11_order; simp only [bnd_e, jn_e]
  generalize f4_add (M 4) p1 p2 p3 p4 = R at hv ⊢
  repeat' split
  all_goals first | (intro _; exact hv) | (intro e; exact absurd e (by assumption))
theorem v_takeUp {x : Int32 → Int32} {B O : Int} (h : J0 x B O M) (hk : Ok7 M) (hB : O + 1000 ≤ 2000000000) (e : (f11_takeUp M p1 p2).1.1 = 0) : ¬ (f11_takeUp M p1 p2).1.2 = -99999 := by
  refine n99 ?_
  revert e
  unfold f11_takeUp; simp only [bnd_e, jn_e]
  by_cases c1 : f11_existing M p1 = 0
  · rw [if_pos c1]
    have hi := existing_ok c1
    by_cases c2 : f11_demand (f11_isIn p2 1 1000) = 0
    · rw [if_pos c2]
      have h2 := isIn11_t (demand_ok c2)
      rw [t32_1, t32_1000] at h2
      have E := h.exec (B' := O + 1000) hk hi.1 hi.2 ⟨by omega, h2.2⟩ (by omega) (by have := (h.2.1.2.2.1 p1 hi.1 hi.2).2.1; omega) hB
      have hv : 0 ≤ ((f7_execute M p1 p2) 4 4 p1 4).toInt := ((E.1.2.1.2.2.1 p1 hi.1 (by have := E.2.1; omega)).2.2 (fun z => by rw [z] at hi; exact absurd hi.1 (by decide))).1.1
      generalize f7_execute M p1 p2 = R at hv ⊢
      repeat' split
      all_goals first | (intro _; exact hv) | (intro e; exact absurd e (by assumption))
    · rw [if_neg c2]; intro e; exact absurd e c2
  · rw [if_neg c1]; intro e; exact absurd e c1
/-- how many runs an hour has -/
theorem cnt_67 {x : Int32 → Int32} {BQ BO : Int} (h1000 : 1000 ≤ BO) {h0 n0 : Int32} {B : Int} {Q : ((Nat × Int32) × Wm) → Prop} {K : (Int32 × Wm) → ((Nat × Int32) × Wm)} (hB : B ≤ 1000000) (hK : ∀ (c : Int32) (N : Wm), J0 x BQ BO N → Ok7 N → N 4 0 0 2 = h0 → 0 ≤ c.toInt → c.toInt ≤ B + 60 → Q (K (c, N))) : ∀ (k : Nat) (i c : Int32) (N : Wm), 0 ≤ i.toInt → J0 x BQ BO N → Ok7 N → N 4 0 0 2 = h0 → n0.toInt ≤ (N 4 0 0 1).toInt → 61 - i.toInt ≤ k → i.toInt ≤ 60 → 0 ≤ c.toInt → c.toInt ≤ B + i.toInt → Q (f11_pass_lp67 n0 K k (i, c, N)) := by
  intro k
  induction k with
  | zero => intro i c N i0 h hk _ hn hm hx; exfalso; omega
  | succ k ih =>
    intro i c N i0 h hk hh hn hm hx c0 c1
    rw [f11_pass_lp67_s]
    by_cases d1 : n0 ≤ i
    · rw [if_pos d1]; exact hK c N h hk hh c0 (by omega)
    · rw [if_neg d1]
      simp only [i32le] at d1
      have h60 := h.2.1.1.2
      have e1 : (i + 1).toInt = i.toInt + 1 := inc_t i0 (by omega)
      have e2 : (c + 1).toInt = c.toInt + 1 := inc_t c0 (by omega)
      simp only [jn_e, bnd_e]
      have same : Q (f11_pass_lp67 n0 K k (i + 1, c, N)) := ih (i + 1) c N (by omega) h hk hh hn (by omega) (by omega) c0 (by omega)
      by_cases d2 : N 4 4 i 4 = 0
      · rw [if_pos d2]
        by_cases d3 : N 4 4 i 2 = N 4 0 0 2
        · rw [if_pos d3]
          have R := h.2.1.2.2.1 i i0 (by omega)
          have S := R.2.2 (fun z => by rw [z] at i0; exact absurd i0 (by decide))
          have E := h.exec hk i0 (by omega) R.1.2.2 (Int.le_refl _) (by rw [(S.2.2.2 d2).2, t32_0]; omega) h.2.2.1.2
          exact ih (i + 1) _ _ (by omega) E.1 (ok7_f7_execute hk i _ R.1.2.1) (E.2.2.trans hh) (by have := E.2.1; omega) (by omega) (by omega) (by omega) (by omega)
        · rw [if_neg d3]; exact same
      · rw [if_neg d2]; exact same
theorem v_pass {x : Int32 → Int32} {BQ BO : Int} (h : J0 x BQ BO M) (hk : Ok7 M) (h1000 : 1000 ≤ BO) (e : (f11_pass M p1).1.1 = 0) : ¬ (f11_pass M p1).1.2 = -99999 := by
  refine n99 ?_
  revert e
  unfold f11_pass
  simp only [bnd_e, jn_e]
  by_cases c1 : f11_demand (f11_isIn p1 1 100) = 0
  · rw [if_pos c1]
    have hi := isIn11_t (demand_ok c1)
    rw [t32_1, t32_100] at hi
    have key : ∀ (k : Nat) (i c : Int32) (N : Wm), 0 ≤ i.toInt → i.toInt ≤ p1.toInt → J0 x BQ BO N → Ok7 N → (N 4 0 0 2).toInt + (p1.toInt - i.toInt) ≤ 1000 → 0 ≤ c.toInt → c.toInt ≤ 60 * i.toInt → 0 ≤ (f11_pass_lp37 p1 k (i, c, N)).1.2.toInt := by
      intro k
      induction k with
      | zero => intro i c N _ _ _ _ _ _ _; show 0 ≤ (0 : Int32).toInt; decide
      | succ k ih =>
        intro i c N i0 i1 h hk hb c0 c6
        rw [f11_pass_lp37_s]
        by_cases c2 : p1 ≤ i
        · rw [if_pos c2]; exact c0
        · rw [if_neg c2]
          simp only [i32le] at c2
          simp only [jn_e, bnd_e]
          have hr := h.2.1.2.1
          have e1 : (i + 1).toInt = i.toInt + 1 := inc_t i0 (by omega)
          have eh : (N 4 0 0 2 + 1).toInt = (N 4 0 0 2).toInt + 1 := inc_t hr.1 (by omega)
          have g1 : u3 (N 4) 0 0 2 (N 4 0 0 2 + 1) 0 0 1 = N 4 0 0 1 := u3_s (by decide)
          have hN : J0 x BQ BO (uW N 4 (u3 (N 4) 0 0 2 (N 4 0 0 2 + 1))) := ⟨h.1, h.2.1.hour (by rw [eh]; omega) (by rw [eh]; omega), h.2.2.1, by show BY (N 1) (u3 (N 4) 0 0 2 (N 4 0 0 2 + 1) 0 0 1); rw [g1]; exact h.2.2.2.1, h.2.2.2.2⟩
          have okN : Ok7 (uW N 4 (u3 (N 4) 0 0 2 (N 4 0 0 2 + 1))) := ok4_w hk (by unfold ok4; rw [g1]; exact hk.o)
          have hK : ∀ (c' : Int32) (N' : Wm), J0 x BQ BO N' → Ok7 N' → N' 4 0 0 2 = N 4 0 0 2 + 1 → 0 ≤ c'.toInt → c'.toInt ≤ 60 * i.toInt + 60 → 0 ≤ (f11_pass_lp37 p1 k (i + 1, c', N')).1.2.toInt := fun c' N' j1 j2 j3 j4 j5 => ih (i + 1) c' N' (by omega) (by omega) j1 j2 (by rw [j3, eh]; omega) j4 (by omega)
          have g2 : (uW N 4 (u3 (N 4) 0 0 2 (N 4 0 0 2 + 1))) 4 0 0 2 = N 4 0 0 2 + 1 := by rw [uW_at, u3_at]
          have g3 : (N 4 0 0 1).toInt ≤ ((uW N 4 (u3 (N 4) 0 0 2 (N 4 0 0 2 + 1))) 4 0 0 1).toInt := by rw [uW_at, g1]; exact Int.le_refl _
          generalize uW N 4 (u3 (N 4) 0 0 2 (N 4 0 0 2 + 1)) = N2 at hN okN g2 g3 ⊢
          generalize hKK : (fun (y25 : Int32 × Wm) => f11_pass_lp37 p1 k (i + 1, y25.1, y25.2)) = KK
          have hK2 : ∀ (c' : Int32) (N' : Wm), J0 x BQ BO N' → Ok7 N' → N' 4 0 0 2 = N 4 0 0 2 + 1 → 0 ≤ c'.toInt → c'.toInt ≤ 60 * i.toInt + 60 → 0 ≤ (KK (c', N')).1.2.toInt := by
            intro c' N' j1 j2 j3 j4 j5
            rw [← hKK]; exact hK c' N' j1 j2 j3 j4 j5
          exact cnt_67 (Q := fun z => 0 ≤ z.1.2.toInt) (B := 60 * i.toInt) h1000 (by omega) hK2 62 0 c N2 (by decide) hN okN g2 g3 (by decide) (by decide) c0 (by rw [t32_0]; omega)
    have fin : ∀ b : Bool, (b = true → (M 4 0 0 2).toInt + p1.toInt ≤ 1000) → (if f11_demandState b = 0 then f11_pass_lp37 p1 102 (0, 0, M) else ((f11_demandState b, 0), M)).1.1 = 0 → 0 ≤ (if f11_demandState b = 0 then f11_pass_lp37 p1 102 (0, 0, M) else ((f11_demandState b, 0), M)).1.2.toInt := by
      intro b hb
      by_cases c3 : f11_demandState b = 0
      · rw [if_pos c3]
        intro _
        exact key 102 0 0 M (by decide) (by rw [t32_0]; omega) h hk (by rw [t32_0]; have := hb (demandState_ok c3); omega) (by decide) (by decide)
      · rw [if_neg c3]; intro e; exact absurd e c3
    by_cases c2 : 1000 < M 4 0 0 2 + p1
    · rw [if_pos c2]; exact fin false (fun z => by cases z)
    · rw [if_neg c2]
      refine fin true (fun _ => ?_)
      have hr := h.2.1.2.1
      simp only [i32lt, t32_1000] at c2
      rw [i32addn (by omega) (by omega)] at c2; omega
  · rw [if_neg c1]; intro e; exact absurd e c1

theorem w_type (h : LST s M) : WK s (W_type s p1 p2) := by
  have O := O_type (p1 := p1) (p2 := p2) h.2
  rw [h.1] at O
  exact WK.of O ⟨by omega, by omega⟩ _ (fun e z => v_type h.2.1 e ((O.2.1 e).trans z))
theorem w_erase (h : LST s M) : WK s (W_erase s p1 p2) := by
  have O := O_erase (p1 := p1) (p2 := p2) h.2
  rw [h.1] at O
  exact WK.of O ⟨by omega, by omega⟩ _ (fun e z => v_erase h.2.1 e ((O.2.1 e).trans z))
theorem w_giveRations (h : LST s M) (hk : s.2.1 < 10000) : WK s (W_giveRations s p1 p2) := by
  have O := O_giveRations (p1 := p1) (p2 := p2) h.2 hk
  rw [h.1] at O
  exact WK.of O ⟨by omega, by omega⟩ _ (fun e z => v_giveRations h.2.2.1 e ((O.2.1 e).trans z))
theorem w_buy (h : LST s M) : WK s (W_buy s p1 p2) := by
  have O := O_buy (p1 := p1) (p2 := p2) h.2
  rw [h.1] at O
  exact WK.of O ⟨by omega, by omega⟩ _ (fun e z => v_buy h.2.2.1 e ((O.2.1 e).trans z))
theorem w_setTariff (h : LST s M) : WK s (W_setTariff s p1) := by
  have O := O_setTariff (p1 := p1) h.2
  rw [h.1] at O
  exact WK.of O ⟨by omega, by omega⟩ _ (fun e z => v_setTariff h.2.2.1 e ((O.2.1 e).trans z))
theorem w_setCredit (h : LST s M) : WK s (W_setCredit s p1 p2 p3) := by
  have O := O_setCredit (p1 := p1) (p2 := p2) (p3 := p3) h.2
  rw [h.1] at O
  exact WK.of O ⟨by omega, by omega⟩ _ (fun e z => v_setCredit h.2.2.1 e ((O.2.1 e).trans z))
theorem w_payBack (h : LST s M) : WK s (W_payBack s p1 p2 p3) := by
  have O := O_payBack (p1 := p1) (p2 := p2) (p3 := p3) h.2
  rw [h.1] at O
  exact WK.of O ⟨by omega, by omega⟩ _ (fun e z => v_payBack h.2.2.1 e ((O.2.1 e).trans z))
theorem w_order (h : LST s M) : WK s (W_order s p1 p2 p3 p4) := by
  have O := O_order (p1 := p1) (p2 := p2) (p3 := p3) (p4 := p4) h.2
  rw [h.1] at O
  exact WK.of O ⟨by omega, by omega⟩ _ (fun e z => v_order h.2.2.1 e ((O.2.1 e).trans z))
theorem w_pass (h : LST s M) : WK s (W_pass s p1) := by
  have O := O_pass (p1 := p1) h.2
  rw [h.1] at O
  exact WK.of O ⟨by omega, by omega⟩ _ (fun e z => v_pass h.2.2.1 h.2.1.2.2.2 (by have := h.2.2.2.2.2; omega) e ((O.2.1 e).trans z))
theorem w_takeUp (h : LST s M) (hk : s.2.1 < 10000) : WK s (W_takeUp s p1 p2) := by
  have O := O_takeUp (p1 := p1) (p2 := p2) h.2 hk
  rw [h.1] at O
  exact WK.of O ⟨by omega, by omega⟩ _ (fun e z => v_takeUp h.2.2.1 h.2.1.2.2.2 (by omega) e ((O.2.1 e).trans z))
theorem w_setBuying {b : Bool} (h : LST s M) : WK s (W_setBuying s p1 b) := by
  have O := O_setBuying (p1 := p1) (b := b) h.2
  rw [h.1] at O
  exact WK.of O ⟨by omega, by omega⟩ _ (fun _ => by split <;> decide)
end WKS
