/-! PURSES: none below none; what all fuel and all rations are worth together stays under a bound -/
section PUR
variable {q : Cm} {B : Int} {c l p x : Int32}
def sF (q : Cm) : Int := (q 1 0 0).toInt + (q 1 0 1).toInt + (q 1 0 2).toInt + (q 1 0 3).toInt
def sR (q : Cm) : Int := (q 2 0 0).toInt + (q 2 0 1).toInt + (q 2 0 2).toInt + (q 2 0 3).toInt
def QI (B : Int) (q : Cm) : Prop := (0 ≤ (q 0 0 5).toInt ∧ (q 0 0 5).toInt ≤ 100) ∧ (∀ c : Int32, vp_in c 4 → 0 ≤ (q 1 0 c).toInt ∧ 0 ≤ (q 2 0 c).toInt) ∧ (∀ a b : Int32, vp_in a 4 → vp_in b 4 → 0 ≤ (q 7 a b).toInt ∧ 0 ≤ (q 8 a b).toInt) ∧ (∀ a : Int32, vp_in a 4 → q 7 a a = 0) ∧ sF q + 100 * sR q ≤ B ∧ B ≤ 2000000000
theorem c4 {P : Int32 → Prop} (h0 : P 0) (h1 : P 1) (h2 : P 2) (h3 : P 3) {c : Int32} (hc : vp_in c 4) : P c := by
  refine inN (fun k hk => ?_) hc
  have : k = 0 ∨ k = 1 ∨ k = 2 ∨ k = 3 := by omega
  rcases this with z | z | z | z <;> subst z
  · exact h0
  · exact h1
  · exact h2
  · exact h3
theorem sF_u (q : Cm) (x : Int32) (hc : vp_in c 4) : sF (u3 q 1 0 c x) = sF q + x.toInt - (q 1 0 c).toInt := by
  refine c4 (P := fun c => sF (u3 q 1 0 c x) = sF q + x.toInt - (q 1 0 c).toInt) ?_ ?_ ?_ ?_ hc
  · unfold sF; rw [u3_at, u3_j (by decide), u3_j (by decide), u3_j (by decide)]; omega
  · unfold sF; rw [u3_at, u3_j (by decide), u3_j (by decide), u3_j (by decide)]; omega
  · unfold sF; rw [u3_at, u3_j (by decide), u3_j (by decide), u3_j (by decide)]; omega
  · unfold sF; rw [u3_at, u3_j (by decide), u3_j (by decide), u3_j (by decide)]; omega
theorem sR_u (q : Cm) (x : Int32) (hc : vp_in c 4) : sR (u3 q 2 0 c x) = sR q + x.toInt - (q 2 0 c).toInt := by
  refine c4 (P := fun c => sR (u3 q 2 0 c x) = sR q + x.toInt - (q 2 0 c).toInt) ?_ ?_ ?_ ?_ hc
  · unfold sR; rw [u3_at, u3_j (by decide), u3_j (by decide), u3_j (by decide)]; omega
  · unfold sR; rw [u3_at, u3_j (by decide), u3_j (by decide), u3_j (by decide)]; omega
  · unfold sR; rw [u3_at, u3_j (by decide), u3_j (by decide), u3_j (by decide)]; omega
  · unfold sR; rw [u3_at, u3_j (by decide), u3_j (by decide), u3_j (by decide)]; omega
theorem QI.fle (h : QI B q) (hc : vp_in c 4) : (q 1 0 c).toInt ≤ sF q ∧ (q 2 0 c).toInt ≤ sR q := by
  have a0 := h.2.1 0 (vin_lit (by decide)); have a1 := h.2.1 1 (vin_lit (by decide)); have a2 := h.2.1 2 (vin_lit (by decide)); have a3 := h.2.1 3 (vin_lit (by decide))
  refine c4 (P := fun c => (q 1 0 c).toInt ≤ sF q ∧ (q 2 0 c).toInt ≤ sR q) ?_ ?_ ?_ ?_ hc <;> (unfold sF sR; omega)
theorem QI.s0 (h : QI B q) : 0 ≤ sF q ∧ 0 ≤ sR q := by
  have a0 := h.2.1 0 (vin_lit (by decide)); have a1 := h.2.1 1 (vin_lit (by decide)); have a2 := h.2.1 2 (vin_lit (by decide)); have a3 := h.2.1 3 (vin_lit (by decide))
  unfold sF sR; omega
theorem QI.mono {B' : Int} (h : QI B q) (h1 : B ≤ B') (h2 : B' ≤ 2000000000) : QI B' q := ⟨h.1, h.2.1, h.2.2.1, h.2.2.2.1, Int.le_trans h.2.2.2.2.1 h1, h2⟩
/-- a fuel, some rations, a debt anew -/
theorem QI.fuel {B' : Int} (h : QI B q) (hc : vp_in c 4) (hx : 0 ≤ x.toInt) (hB : sF q + x.toInt - (q 1 0 c).toInt + 100 * sR q ≤ B') (hB' : B' ≤ 2000000000) : QI B' (u3 q 1 0 c x) := by
  refine ⟨h.1, fun d hd => ⟨?_, (h.2.1 d hd).2⟩, h.2.2.1, h.2.2.2.1, ?_, hB'⟩
  · by_cases e : d = c
    · rw [e, u3_at]; exact hx
    · rw [u3_j e]; exact (h.2.1 d hd).1
  · rw [sF_u q x hc]; exact hB
theorem QI.rat {B' : Int} (h : QI B q) (hc : vp_in c 4) (hx : 0 ≤ x.toInt) (hB : sF q + 100 * (sR q + x.toInt - (q 2 0 c).toInt) ≤ B') (hB' : B' ≤ 2000000000) : QI B' (u3 q 2 0 c x) := by
  refine ⟨h.1, fun d hd => ⟨(h.2.1 d hd).1, ?_⟩, h.2.2.1, h.2.2.2.1, ?_, hB'⟩
  · by_cases e : d = c
    · rw [e, u3_at]; exact hx
    · rw [u3_j e]; exact (h.2.1 d hd).2
  · rw [sR_u q x hc]; exact hB
theorem QI.debt (h : QI B q) (hc : vp_in c 4) (hl : vp_in l 4) (hx : 0 ≤ x.toInt) (hcl : c = l → x = 0) : QI B (u3 q 7 c l x) := by
  refine ⟨h.1, h.2.1, fun a b ha hb => ⟨?_, (h.2.2.1 a b ha hb).2⟩, fun a ha => ?_, h.2.2.2.2.1, h.2.2.2.2.2⟩
  · by_cases e : a = c
    · rw [e]
      by_cases e2 : b = l
      · rw [e2, u3_at]; exact hx
      · rw [u3_j e2]; exact (h.2.2.1 c b hc hb).1
    · rw [u3_i e]; exact (h.2.2.1 a b ha hb).1
  · by_cases e : a = c
    · rw [e]
      by_cases e2 : c = l
      · rw [e2, u3_at]; exact hcl e2
      · rw [u3_j e2]; exact h.2.2.2.1 c hc
    · rw [u3_i e]; exact h.2.2.2.1 a ha
theorem f5_pay_e (q : Cm) (c l p : Int32) : (f5_payFromFuel q c l p).2 = u3 (u3 (u3 q 1 0 c (q 1 0 c - p)) 1 0 l ((u3 q 1 0 c (q 1 0 c - p)) 1 0 l + p)) 7 c l (q 7 c l - p) := rfl
theorem QI.pay (h : QI B q) (hc : vp_in c 4) (hl : vp_in l 4) (hp : 0 ≤ p.toInt) (hd : p.toInt ≤ (q 7 c l).toInt) (hf : p.toInt ≤ (q 1 0 c).toInt) : QI B (f5_payFromFuel q c l p).2 ∧ (f5_payFromFuel q c l p).2 1 0 c = q 1 0 c - p ∨ QI B (f5_payFromFuel q c l p).2 ∧ p = 0 ∧ (f5_payFromFuel q c l p).2 1 0 c = q 1 0 c := by
  rw [f5_pay_e]
  have s0 := h.s0; have fc := h.fle hc; have fl := h.fle hl; have hB := h.2.2.2.2.1; have hB' := h.2.2.2.2.2
  have e1 : (q 1 0 c - p).toInt = (q 1 0 c).toInt - p.toInt := by rw [i32subn (by omega) (by omega)]
  have e7 : (q 7 c l - p).toInt = (q 7 c l).toInt - p.toInt := by have := i32rng (q 7 c l); rw [i32subn (by omega) (by omega)]
  by_cases e : c = l
  · subst e
    have z := h.2.2.2.1 c hc
    have p0 : p = 0 := by rw [z, t32_0] at hd; rw [i32eq, t32_0]; omega
    subst p0
    right
    have f1 : QI B (u3 q 1 0 c (q 1 0 c - 0)) := h.fuel hc (by rw [e1, t32_0]; omega) (by rw [e1, t32_0]; omega) hB'
    have f2 : QI B (u3 (u3 q 1 0 c (q 1 0 c - 0)) 1 0 c ((u3 q 1 0 c (q 1 0 c - 0)) 1 0 c + 0)) := f1.fuel hc (by rw [u3_at, Int32.add_zero, e1, t32_0]; omega) (by rw [Int32.add_zero]; have := f1.2.2.2.2.1; omega) hB'
    refine ⟨f2.debt hc hc (by rw [e7, t32_0]; have := h.2.2.1 c c hc hc; omega) (fun _ => by rw [z]; decide), rfl, ?_⟩
    show (u3 (u3 q 1 0 c (q 1 0 c - 0)) 1 0 c ((u3 q 1 0 c (q 1 0 c - 0)) 1 0 c + 0)) 1 0 c = _
    rw [u3_at, u3_at, Int32.sub_zero, Int32.add_zero]
  · left
    have el : (u3 q 1 0 c (q 1 0 c - p)) 1 0 l = q 1 0 l := u3_j (fun z => e z.symm)
    have sum2 : (q 1 0 c).toInt + (q 1 0 l).toInt ≤ sF q := by
      have a0 := h.2.1 0 (vin_lit (by decide)); have a1 := h.2.1 1 (vin_lit (by decide)); have a2 := h.2.1 2 (vin_lit (by decide)); have a3 := h.2.1 3 (vin_lit (by decide))
      refine c4 (P := fun c => ¬ c = l → (q 1 0 c).toInt + (q 1 0 l).toInt ≤ sF q) ?_ ?_ ?_ ?_ hc e <;> (refine c4 (P := fun l => ¬ _ = l → _ + (q 1 0 l).toInt ≤ sF q) ?_ ?_ ?_ ?_ hl <;> (intro z; first | exact absurd rfl z | (unfold sF; omega)))
    have fl0 := (h.2.1 l hl).1
    have e2 : (q 1 0 l + p).toInt = (q 1 0 l).toInt + p.toInt := by rw [i32addn (by omega) (by omega)]
    have f1 : QI B (u3 q 1 0 c (q 1 0 c - p)) := h.fuel hc (by rw [e1]; omega) (by rw [e1]; omega) hB'
    have s1 : sF (u3 q 1 0 c (q 1 0 c - p)) = sF q - p.toInt := by rw [sF_u q _ hc, e1]; omega
    have f2 : QI B (u3 (u3 q 1 0 c (q 1 0 c - p)) 1 0 l ((u3 q 1 0 c (q 1 0 c - p)) 1 0 l + p)) := by
      refine f1.fuel hl (by rw [el, e2]; have := (h.2.1 l hl).1; omega) ?_ hB'
      rw [el, s1, e2]
      show _ + 100 * sR q ≤ B
      omega
    refine ⟨f2.debt hc hl (by rw [e7]; omega) (fun z => absurd z e), ?_⟩
    show (u3 (u3 q 1 0 c (q 1 0 c - p)) 1 0 l _) 1 0 c = _
    rw [u3_j e, u3_at]
theorem mnI_t {a b : Int32} : (mnI a b).toInt ≤ a.toInt ∧ (mnI a b).toInt ≤ b.toInt ∧ (mnI a b = a ∨ mnI a b = b) := by
  unfold mnI
  by_cases c : b < a
  · rw [if_pos c]; simp only [i32lt] at c; exact ⟨by omega, by omega, Or.inr rfl⟩
  · rw [if_neg c]; simp only [i32lt] at c; exact ⟨by omega, by omega, Or.inl rfl⟩
theorem mnI_0 {a b : Int32} (ha : 0 ≤ a.toInt) (hb : 0 ≤ b.toInt) : 0 ≤ (mnI a b).toInt := by
  rcases (mnI_t (a := a) (b := b)).2.2 with z | z <;> rw [z] <;> assumption
theorem QI.lp35 (hc : vp_in c 4) (v1 : Int32) : ∀ (k : Nat) (i d : Int32) (q : Cm), 0 ≤ i.toInt → QI B q → 0 ≤ d.toInt → d.toInt ≤ (q 1 0 c).toInt → QI B (f5_buyFuel_lp35 c v1 k (i, d, q)).2 := by
  intro k
  induction k with
  | zero => intro i d q _ h _ _; exact h
  | succ k ih =>
    intro i d q i0 h h0 h1
    rw [f5_buyFuel_lp35]
    by_cases c1 : (4 : Int32) ≤ i
    · rw [if_pos c1]; exact h
    · rw [if_neg c1]
      simp only [i32le, show (4 : Int32).toInt = 4 by decide] at c1
      have hi : vp_in i 4 := by rw [vp_in_iff]; omega
      have e1 : (i + 1).toInt = i.toInt + 1 := inc_t i0 (by omega)
      simp only [bnd_e]
      have hd := (h.2.2.1 c i hc hi).1
      have m := mnI_t (a := d) (b := f5_debtOf q c i)
      have m0 : 0 ≤ (mnI d (f5_debtOf q c i)).toInt := mnI_0 h0 hd
      have ed : (d - mnI d (f5_debtOf q c i)).toInt = d.toInt - (mnI d (f5_debtOf q c i)).toInt := by
        have := i32rng d; rw [i32subn (by omega) (by omega)]
      have hr := i32rng (q 1 0 c)
      rcases h.pay hc hi m0 m.2.1 (by have := m.1; omega) with ⟨g, e⟩ | ⟨g, z, e⟩
      · refine ih _ _ _ (by rw [e1]; omega) g (by rw [ed]; omega) ?_
        rw [e, ed, i32subn (by omega) (by omega)]; omega
      · refine ih _ _ _ (by rw [e1]; omega) g (by rw [ed]; omega) ?_
        rw [e, ed]; omega
theorem div2_t {a : Int32} (h : 0 ≤ a.toInt) : 0 ≤ (a / 2).toInt ∧ (a / 2).toInt ≤ a.toInt := by
  have : (a / 2).toInt = a.toInt.tdiv 2 := by rw [Int32.toInt_div_of_ne_right _ _ (by decide)]; rfl
  rw [this, Int.tdiv_eq_ediv_of_nonneg h]; omega
theorem QI.buyFuel (h : QI B q) (hc : vp_in c 4) (h0 : 0 ≤ p.toInt) (h1 : p.toInt ≤ (q 2 0 c).toInt) : QI B (f5_buyFuel q c p).2 := by
  unfold f5_buyFuel
  simp only [bnd_e]
  obtain ⟨t0, t1⟩ := h.1
  have s0 := h.s0; have fc := h.fle hc; have hB := h.2.2.2.2.1; have hB' := h.2.2.2.2.2; have f0 := h.2.1 c hc
  have hm : p.toInt * (q 0 0 5).toInt ≤ p.toInt * 100 := Int.mul_le_mul_of_nonneg_left t1 h0
  have hm0 : 0 ≤ p.toInt * (q 0 0 5).toInt := Int.mul_nonneg h0 t0
  have ev : (p * q 0 0 5).toInt = p.toInt * (q 0 0 5).toInt := i32muln (by omega) (by omega)
  generalize hv : p * q 0 0 5 = v at ev ⊢
  have er : (q 2 0 c - p).toInt = (q 2 0 c).toInt - p.toInt := by rw [i32subn (by omega) (by omega)]
  have ef : (q 1 0 c + v).toInt = (q 1 0 c).toInt + v.toInt := by rw [i32addn (by omega) (by omega)]
  have g1 : QI B (u3 q 2 0 c (q 2 0 c - p)) := h.rat hc (by rw [er]; omega) (by rw [er]; omega) hB'
  have s1 : sR (u3 q 2 0 c (q 2 0 c - p)) = sR q - p.toInt := by rw [sR_u q _ hc, er]; omega
  have g2 : QI B (u3 (u3 q 2 0 c (q 2 0 c - p)) 1 0 c (q 1 0 c + v)) := by
    refine g1.fuel hc (by rw [ef]; omega) ?_ hB'
    rw [s1, ef]
    show sF q + _ - (q 1 0 c).toInt + _ ≤ B
    omega
  have d2 := div2_t (a := v) (by omega)
  exact QI.lp35 hc v 5 0 (v / 2) _ (by decide) g2 d2.1 (by rw [u3_at, ef]; omega)
theorem QI.borrows (h : QI B q) (hc : vp_in c 4) : QI B (f5_borrowsOne q c).2 := by
  have key : ∀ (k : Nat) (i : Int32), 0 ≤ i.toInt → QI B (f5_borrowsOne_lp2 q c k i).2 := by
    intro k
    induction k with
    | zero => intro i _; exact h
    | succ k ih =>
      intro i i0
      rw [f5_borrowsOne_lp2]
      by_cases c1 : (4 : Int32) ≤ i
      · rw [if_pos c1]; exact h
      · rw [if_neg c1]
        simp only [i32le, show (4 : Int32).toInt = 4 by decide] at c1
        have hi : vp_in i 4 := by rw [vp_in_iff]; omega
        have e1 : (i + 1).toInt = i.toInt + 1 := inc_t i0 (by omega)
        have nx := ih (i + 1) (by rw [e1]; omega)
        simp only [bnd_e, jn_e]
        by_cases c2 : i = c
        · rw [if_pos c2]; simp only [Bool.false_eq_true, if_false]; exact nx
        · rw [if_neg c2]
          by_cases c3 : q 8 c i ≤ q 7 c i
          · rw [if_pos c3]; simp only [Bool.false_eq_true, if_false]; exact nx
          · rw [if_neg c3]
            simp only [if_true]
            by_cases c4' : q 1 0 i ≤ 0
            · rw [if_pos c4']; exact nx
            · rw [if_neg c4']
              simp only [i32le, t32_0] at c3 c4'
              have fi := h.fle hi; have hB := h.2.2.2.2.1; have hB' := h.2.2.2.2.2; have s0 := h.s0
              have hr := i32rng (q 8 c i); have hd := (h.2.2.1 c i hc hi).1
              have ef : (q 1 0 i - 1).toInt = (q 1 0 i).toInt - 1 := by rw [i32subn (by rw [t32_1]; omega) (by rw [t32_1]; omega), t32_1]
              have ed : (q 7 c i + 1).toInt = (q 7 c i).toInt + 1 := inc_t hd (by omega)
              exact (h.fuel hi (by rw [ef]; omega) (by rw [ef]; omega) hB').debt hc hi (by rw [ed]; omega) (fun z => absurd z.symm c2)
  exact key 5 0 (by decide)
theorem QI.takes (h : QI B q) (hc : vp_in c 4) : QI B (f5_takesOne q c).2 := by
  have tail : ∀ v : Cm, QI B v → QI B (if v 1 0 c ≤ 0 then bnd (f5_borrowsOne v c) (fun (r8 : Bool × Cm) => (r8.1, r8.2)) else bnd (u3 v 1 0 c (v 1 0 c - 1)) (fun (m9 : Cm) => (true, m9))).2 := by
    intro v hv
    by_cases c1 : v 1 0 c ≤ 0
    · rw [if_pos c1]; exact hv.borrows hc
    · rw [if_neg c1]
      simp only [i32le, t32_0] at c1
      have fi := hv.fle hc; have hB := hv.2.2.2.2.1; have hB' := hv.2.2.2.2.2; have s0 := hv.s0
      have ef : (v 1 0 c - 1).toInt = (v 1 0 c).toInt - 1 := by have := i32rng (v 1 0 c); rw [i32subn (by rw [t32_1]; omega) (by rw [t32_1]; omega), t32_1]
      exact hv.fuel hc (by rw [ef]; omega) (by rw [ef]; omega) hB'
  unfold f5_takesOne
  simp only [jn_e, bnd_e]
  simp only [bnd_e] at tail
  by_cases c1 : q 1 0 c = 0
  · rw [if_pos c1]
    by_cases c2 : q 3 0 c = 0
    · rw [if_pos c2]; exact tail q h
    · rw [if_neg c2]
      by_cases c3 : q 2 0 c ≤ 0
      · rw [if_pos c3]; exact tail q h
      · rw [if_neg c3]
        simp only [i32le, t32_0] at c3
        exact tail _ (h.buyFuel hc (by decide) (by rw [t32_1]; omega))
  · rw [if_neg c1]; exact tail q h
theorem QI.give (h : QI B q) (hc : vp_in c 4) (h0 : 1 ≤ p.toInt) (h1 : p.toInt ≤ 1000) (hB : B + 100000 ≤ 2000000000) : QI (B + 100000) (f5_addRations q c p).2 := by
  have fc := h.fle hc; have hB1 := h.2.2.2.2.1; have s0 := h.s0; have f0 := h.2.1 c hc
  have e : (q 2 0 c + p).toInt = (q 2 0 c).toInt + p.toInt := by rw [i32addn (by omega) (by omega)]
  exact h.rat hc (by rw [e]; omega) (by rw [e]; omega) hB
theorem QI.tariff (h : QI B q) (h0 : 0 ≤ p.toInt) (h1 : p.toInt ≤ 100) : QI B (f5_changeTariff q p).2 :=
  ⟨⟨by show 0 ≤ (u3 q 0 0 5 p 0 0 5).toInt; rw [u3_at]; exact h0, by show (u3 q 0 0 5 p 0 0 5).toInt ≤ 100; rw [u3_at]; exact h1⟩, h.2.1, h.2.2.1, h.2.2.2.1, h.2.2.2.2.1, h.2.2.2.2.2⟩
end PUR
