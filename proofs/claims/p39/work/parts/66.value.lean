/-! expressions: the simulation -/
section OPS
variable {t x8 : Cm} {E : Int32 → Int32 → Prop} {L : Int} {w : Int32} {VA : Wm → Int32 → Int32 → Int32 × Wm} {M0 M : Wm} {m0 m1 : Cm} {d s P first : Int32}
theorem RelOr.use {o m m' : Cm} {u : Int32} (h : RelOr o m w u) (hw : 0 ≤ w.toInt ∧ w.toInt < (o 0 0 1).toInt) (e0 : m' 0 0 11 = m 0 0 11) (e1 : m' 0 0 10 = m 0 0 10) (e13 : m' 13 = m 13) (e14 : m' 14 = m 14) (e15 : m' 15 = m 15) (e16 : m' 16 = m 16) (e17 : m' 17 = m 17) (e18 : m' 18 = m 18) (e19 : m' 19 = m 19) (e20 : m' 20 = m 20) (e21 : m' 21 0 = fI (m 21 0) w (m 21 0 w + 1)) : RelOr o m' w (u + 1) := by
  obtain ⟨h1, h2, h3, h4, h5⟩ := h
  refine ⟨h1.trans e0.symm, h2.trans e1.symm, h3, fun i a b => ?_, fun i a b => ?_⟩
  · unfold wyI
    rw [e13, e14, e15, e16, e17, e18, e19, e20, e21]
    obtain ⟨q1, q2, q3, q4, q5, q6, q7, q8, q9⟩ := h4 i a b
    refine ⟨q1, q2, q3, q4, q5, q6, q7, fun z => ?_, fun z => ?_⟩
    · rw [fI_ne z]; exact q8 z
    · have q := q9 z
      rw [z] at q ⊢
      rw [fI_at, ← q]
      exact (Int32.add_assoc _ _ _).symm
  · have ne : ¬ i = w := by rw [i32eq]; omega
    rw [e19, e20, e21, fI_ne ne]; exact h5 i a b
/-- a unit is used, or none is left -/
def TkF (m m' : Cm) : Prop := (∀ g : Nat, (¬ g = 0 ∧ ¬ g = 5) ∧ ¬ g = 6 ∧ ¬ g = 7 ∧ ¬ g = 21 → m' g = m g) ∧ ∀ k : Int32, ¬ k = 58 → ¬ k = 59 → m' 0 0 k = m 0 0 k
theorem NR.tk {n' : Wm} {m m' : Cm} (h : NR t E M m) (k : TkF m m') (hn : n' 2 = M 2) : NR t E n' m' := by
  have e := k.1
  obtain ⟨h1, h2⟩ := h
  unfold NR
  rw [hn]
  refine ⟨?_, RelFn.fr h2 rfl rfl rfl (k.2 50 (by decide) (by decide)) ⟨e 2 (by decide), e 3 (by decide)⟩ (e 52 (by decide)) (e 53 (by decide)) (e 54 (by decide)) (e 55 (by decide)) (e 56 (by decide))⟩
  unfold RelB2 at h1 ⊢
  rw [k.2 49 (by decide) (by decide), k.2 48 (by decide) (by decide), e 47 (by decide), e 48 (by decide)]; exact h1
theorem Kp.tk {m m' : Cm} (k : TkF m m') : Kp d m m' := fun g h1 h2 j _ => by rw [k.1 g (by omega)]
theorem HsA.tk {m m' : Cm} (h : WR t x8 E L w M m) (k : TkF m m') {n' : Wm} (h1 : n' 1 = M 1) (h4 : n' 4 = M 4) : HsA w M m n' m' := by
  have e := k.1
  refine ⟨by rw [h1]; exact HsB.refl _, by rw [h4]; exact HsO.refl _, ?_, h.2.2.2.2.1.2.2.1.1⟩
  unfold HsW
  rw [e 17 (by decide), e 18 (by decide), e 16 (by decide), e 2 (by decide), e 3 (by decide)]
  exact ⟨rfl, rfl, rfl, rfl, rfl⟩
theorem WR.tk0 {m m' q' : Cm} (h : WR t x8 E L w M m) (k : TkF m m') (hk : Ok12 m') (hQ : RelQ q' m') (e58 : m' 0 0 58 = m 0 0 58) (e21 : m' 21 0 = m 21 0) : WR t x8 E L w (uW M 5 q') m' := by
  obtain ⟨h1, h2, h3, ⟨h4, h5, h6⟩, h7, h8, h9, h10⟩ := h
  have e := k.1; have f := k.2
  refine ⟨h1, h2.fr ⟨e 2 (by decide), e 3 (by decide)⟩, hQ, ⟨?_, h5, h6⟩, ?_, ?_, hk, h10.fr (e 28 (by decide)) (e 29 (by decide)) (e 30 (by decide))⟩
  · show RelBk (M 1) m'
    unfold RelBk RelMv RelS at h4 ⊢
    rw [f 21 (by decide) (by decide), e 23 (by decide), e 24 (by decide), e 25 (by decide), e 26 (by decide), e 27 (by decide), e 4 (by decide)]; exact h4
  · show RelOr (M 4) m' w (M 7 0 0 9)
    unfold RelOr wyI at h7 ⊢
    rw [f 11 (by decide) (by decide), f 10 (by decide) (by decide), e 13 (by decide), e 14 (by decide), e 15 (by decide), e 16 (by decide), e 17 (by decide), e 18 (by decide), e 19 (by decide), e 20 (by decide), e21]; exact h7
  · show RunR (M 7) m' w
    unfold RunR at h8 ⊢
    rw [f 56 (by decide) (by decide), f 11 (by decide) (by decide), f 57 (by decide) (by decide), e 16 (by decide), e58, f 10 (by decide) (by decide)]; exact h8
theorem WR.tk1 {m m' q' : Cm} (h : WR t x8 E L w M m) (k : TkF m m') (hk : Ok12 m') (hQ : RelQ q' m') (hu : (M 7 0 0 9).toInt < (M 7 0 0 8).toInt) (e58 : m' 0 0 58 = m 0 0 58 + 1) (e21 : m' 21 0 = fI (m 21 0) w (m 21 0 w + 1)) : WR t x8 E L w (uW (uW M 5 q') 7 (u3 (M 7) 0 0 9 (M 7 0 0 9 + 1))) m' := by
  obtain ⟨h1, h2, h3, ⟨h4, h5, h6⟩, h7, h8, h9, h10⟩ := h
  have e := k.1; have f := k.2
  refine ⟨h1, h2.fr ⟨e 2 (by decide), e 3 (by decide)⟩, hQ, ⟨?_, h5, h6⟩, ?_, ?_, hk, h10.fr (e 28 (by decide)) (e 29 (by decide)) (e 30 (by decide))⟩
  · show RelBk (M 1) m'
    unfold RelBk RelMv RelS at h4 ⊢
    rw [f 21 (by decide) (by decide), e 23 (by decide), e 24 (by decide), e 25 (by decide), e 26 (by decide), e 27 (by decide), e 4 (by decide)]; exact h4
  · show RelOr (M 4) m' w (M 7 0 0 9 + 1)
    refine h7.use ⟨h8.2.1.1, by rw [h7.1]; exact h8.2.1.2⟩ (f 11 (by decide) (by decide)) (f 10 (by decide) (by decide)) (e 13 (by decide)) (e 14 (by decide)) (e 15 (by decide)) (e 16 (by decide)) (e 17 (by decide)) (e 18 (by decide)) (e 19 (by decide)) (e 20 (by decide)) e21
  · show RunR (u3 (M 7) 0 0 9 (M 7 0 0 9 + 1)) m' w
    obtain ⟨a1, a2, a3, a4, a5, ⟨a6, a7⟩, a8, a9⟩ := h8
    have e9 : (M 7 0 0 9 + 1).toInt = (M 7 0 0 9).toInt + 1 := inc_t a6 (by omega)
    unfold RunR
    rw [f 56 (by decide) (by decide), f 11 (by decide) (by decide), f 57 (by decide) (by decide), e 16 (by decide), e58, f 10 (by decide) (by decide), u3_at]
    exact ⟨a1, a2, a3, a4, by rw [a5], ⟨by omega, a7⟩, by show _ ≤ (M 7 0 0 8).toInt; omega, a9⟩
theorem takes_F (m : Cm) : TkF m (f12_takesFuel (u3 m 0 0 59 0)).2 := by
  refine ⟨fun g hg => ?_, fun k h1 h2 => ?_⟩
  · rw [takesFuel_g _ hg.1.1 hg.1.2 hg.2.1 hg.2.2.1 hg.2.2.2, u3_ne _ _ _ hg.1.1]
  · rw [takesFuel_s _ h1, u3_s h2]
theorem TkF.c59 (m : Cm) : TkF m (u3 m 0 0 59 0) := ⟨fun g hg => u3_ne _ _ _ hg.1.1, fun k _ h2 => u3_s h2⟩
/-- names -/
theorem name_c {x idx : Int32} (hM : Mi0 t x8 E L w M0 m0 d M m1 s idx) (hb : M 2 0 0 2 = M0 2 0 0 2 ∧ M 2 0 0 3 = M0 2 0 0 3) : PostA t x8 E L w M0 m0 d (f7_valueOfName M x) (f12_valueName m1 x) := by
  have hB := hM.2.1.1
  have ef := hB.find x
  have hr := hM.1.2.2.2.2.2.1
  have hcm := hM.ok.cmp
  have e7 : M 7 0 0 7 = m1 0 0 57 := hr.2.2.1
  obtain ⟨hk, hI, hP⟩ := hM.1.2.2.2.1
  have bl := bindingOf_last (m := m1) (x := x) (by rw [← hB.2.1]; exact hB.2.2.1) (by rw [← hB.2.1, ← hB.1]; exact hB.2.2.2.1) (by rw [← hB.1]; have := hB.2.2.2.2.1; omega)
  unfold f7_valueOfName f12_valueName
  simp only [bnd_e]
  rw [ef]
  by_cases c1 : f12_bindingOf m1 x = -1
  · rw [if_pos c1, if_pos c1]
    unfold f10_goodOf f12_in
    by_cases c2 : x < 1
    · rw [if_pos c2, if_pos c2, if_pos rfl]
      simp only [Bool.false_eq_true, if_false]
      exact err0_c (idx := idx) hM.1 hM.2.2.2.2.1 (by decide)
    · rw [if_neg c2, if_neg c2]
      by_cases c3 : 8 < x
      · rw [if_pos c3, if_pos c3, if_pos rfl]
        simp only [Bool.false_eq_true, if_false]
        exact err0_c (idx := idx) hM.1 hM.2.2.2.2.1 (by decide)
      · rw [if_neg c3, if_neg c3]
        simp only [i32lt, t32_1, t32_8] at c2 c3
        have ex : (x - 1).toInt = x.toInt - 1 := by rw [i32subn (by rw [t32_1]; omega) (by rw [t32_1]; omega), t32_1]
        have hg : vp_in (x - 1) 8 := by rw [vp_in_iff]; omega
        rw [if_neg (by intro z; rw [z] at ex; have : (-1 : Int32).toInt = -1 := by decide
                       omega)]
        simp only [if_true]
        have est : f1_stockOf (M 1) (M 7 0 0 7) (x - 1) = m1 4 0 (8 * m1 0 0 57 + x - 1) := by
          have h5 : vp_in (m1 0 0 57) 5 := by rw [vp_in_iff] at hcm ⊢; omega
          have := hk.2.2.2 (m1 0 0 57) (x - 1) h5 hg
          rw [ow_c hcm] at this
          rw [e7]
          rw [show 8 * m1 0 0 57 + x - 1 = 8 * m1 0 0 57 + (x - 1) by rw [Int32.sub_eq_add_neg, Int32.sub_eq_add_neg, Int32.add_assoc]]
          exact this
        rw [est]
        exact val0_c hM hb
  · rw [if_neg c1, if_neg c1]
    rcases bl with ⟨z, _⟩ | ⟨a, b, c, _⟩
    · exact absurd z c1
    · have hl : 0 ≤ (f12_bindingOf m1 x).toInt := by have := hB.2.2.1; rw [hB.2.1] at this; omega
      have hh : (f12_bindingOf m1 x).toInt < (M 2 0 0 2).toInt := by rw [hB.1]; exact b
      have hc90 := hB.2.2.2.2.1
      have ev : f2_valueAt (M 2) (f12_bindingOf m1 x) = m1 48 0 (f12_bindingOf m1 x) := by
        unfold f2_valueAt
        simp only [bnd_e]
        have es : (M 2 0 0 2 - 1).toInt = (M 2 0 0 2).toInt - 1 := by rw [i32subn (by rw [t32_1]; omega) (by rw [t32_1]; omega), t32_1]
        rw [isIn_e12, in12_t ⟨by rw [t32_0]; exact hl, by rw [es]; omega⟩, if_pos rfl]
        exact (hB.2.2.2.2.2 _ hl hh).2
      rw [ev]
      exact val0_c hM hb
end OPS
