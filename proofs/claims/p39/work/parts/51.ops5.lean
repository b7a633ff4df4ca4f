/-! set, take, put, give, at, buy, fuel, hour -/
section OPS
variable {t x8 : Cm} {E : Int32 → Int32 → Prop} {L : Int} {w : Int32} {VA : Wm → Int32 → Int32 → Int32 × Wm} {M0 M : Wm} {m0 m1 : Cm} {d s P first : Int32}
theorem isIn_e12 (a b c : Int32) : f11_isIn a b c = f12_in a b c := rfl
theorem in12_t {a b c : Int32} (h : b.toInt ≤ a.toInt ∧ a.toInt ≤ c.toInt) : f12_in a b c = true := by
  unfold f12_in
  rw [if_neg (by simp only [i32lt]; omega), if_neg (by simp only [i32lt]; omega)]
theorem letter_e (hL : LsC t E m0 s P first) {i : Int32} (hE : E s i) (hnm : f12_isName m0 s i = true) : f12_isLetter (f12_signAt m0 s i) = true ∧ f9_contentOf t (Pl s i) = f12_nameAt m0 s i ∧ f9_kindOf t (Pl s i) = 2 := by
  have hI := hL.ix hE
  have hle := hI.le hL.1.2.2.2.2 hL.1.1
  have letter : f12_isLetter (f12_signAt m0 s i) = true := by
    unfold f12_isName at hnm
    rw [if_neg hI.ne] at hnm
    simp only [bnd] at hnm
    by_cases z : f12_isLetter (f12_signAt m0 s i) = true
    · exact z
    · rw [if_neg z] at hnm; cases hnm
  have N := ((hL.1.2.2.1.2 i hE).2.2.2.2.1 letter)
  exact ⟨letter, by rw [cont_e hL.1.1 hle.1 hle.2]; exact N.2, by rw [kind_e hL.1.1 hle.1 hle.2]; exact N.1⟩
/-- goods of letters -/
theorem good_e (hL : LsC t E m0 s P first) {i : Int32} (hE : E s i) (hg : ¬ f12_goodAt m0 s i = -1) : f12_isName m0 s i = true ∧ f10_goodOf (f9_contentOf t (Pl s i)) = f12_goodAt m0 s i := by
  have hnm : f12_isName m0 s i = true := by
    by_cases z : f12_isName m0 s i = true
    · exact z
    · exfalso
      apply hg
      unfold f12_goodAt
      simp only [bnd, jn]
      rw [if_neg z]; rfl
  refine ⟨hnm, ?_⟩
  rw [(letter_e hL hE hnm).2.1]
  unfold f12_goodAt f10_goodOf
  simp only [bnd, jn]
  rw [if_pos hnm]
  unfold f12_in
  by_cases c1 : f12_nameAt m0 s i < 1
  · rw [if_pos c1, if_pos c1]; rfl
  · rw [if_neg c1, if_neg c1]
    by_cases c2 : 8 < f12_nameAt m0 s i
    · rw [if_pos c2, if_pos c2]; rfl
    · rw [if_neg c2, if_neg c2]; rfl
theorem goodAt_fr' {m : Cm} (h : m 2 = m0 2 ∧ m 3 = m0 3) (i : Int32) : f12_goodAt m s i = f12_goodAt m0 s i := goodAt_fr h s i
/-- a run of the company goes on with another book -/
theorem Mid.book {b' m' : Cm} (hM : Mid t x8 E L w M0 m0 d M m1) (hg : ∀ g : Nat, ¬ g = 0 → ¬ g = 4 → ¬ (23 ≤ g ∧ g ≤ 27) → m' g = m1 g) (hs : ∀ k : Int32, ¬ k = 21 → m' 0 0 k = m1 0 0 k) (hk : Ok12 m') (hB : RelBk b' m' ∧ BkI b' ∧ StkP L b') (hH : HsB (M 1) b') : Mid t x8 E L w M0 m0 d (uW M 1 b') m' := by
  obtain ⟨a1, a2, a3, a4, a5, a6, a7⟩ := hM
  obtain ⟨h1, h2, h3, h4, h7, h8, h9, h10⟩ := a1
  have e : ∀ g : Nat, (¬ g = 0 ∧ ¬ g = 4) ∧ ¬ (23 ≤ g ∧ g ≤ 27) → m' g = m1 g := fun g z => hg g z.1.1 z.1.2 z.2
  refine ⟨⟨h1, h2.fr ⟨e 2 (by decide), e 3 (by decide)⟩, RelQ.fr (show RelQ (M 5) m1 from h3) (e 5 (by decide)) (e 6 (by decide)) (e 7 (by decide)) (e 8 (by decide)) (e 9 (by decide)) (hs 9 (by decide)), hB, RelOr.fr (show RelOr (M 4) m1 w (M 7 0 0 9) from h7) (hs 11 (by decide)) (hs 10 (by decide)) (e 13 (by decide)) (e 14 (by decide)) (e 15 (by decide)) (e 16 (by decide)) (e 17 (by decide)) (e 18 (by decide)) (e 19 (by decide)) (e 20 (by decide)) (e 21 (by decide)), ?_, hk, h10.fr (e 28 (by decide)) (e 29 (by decide)) (e 30 (by decide))⟩, ?_, ⟨a3.1, (hs 63 (by decide)).trans a3.2⟩, ⟨(hs 59 (by decide)).trans a4.1, (hs 45 (by decide)).trans a4.2⟩, ⟨a5.1.trans hH, a5.2.1, ?_, a5.2.2.2⟩, a6.trans (fun g g1 g2 j _ => by rw [hg g (by omega) (by omega) (by omega)]), a7⟩
  · show RunR (M 7) m' w
    unfold RunR at h8 ⊢
    rw [hs 56 (by decide), hs 11 (by decide), hs 57 (by decide), e 16 (by decide), hs 58 (by decide), hs 10 (by decide)]; exact h8
  · refine ⟨?_, RelFn.fr (show RelFn t E (M 2) m1 from a2.2) rfl rfl rfl (hs 50 (by decide)) ⟨e 2 (by decide), e 3 (by decide)⟩ (e 52 (by decide)) (e 53 (by decide)) (e 54 (by decide)) (e 55 (by decide)) (e 56 (by decide))⟩
    show RelB2 (M 2) m'
    have := a2.1
    unfold RelB2 at this ⊢
    rw [hs 49 (by decide), hs 48 (by decide), e 47 (by decide), e 48 (by decide)]; exact this
  · unfold HsW; rw [e 17 (by decide), e 18 (by decide), e 16 (by decide), e 2 (by decide), e 3 (by decide)]; exact a5.2.2.1
theorem HsB.move (b : Cm) (f t' g p o : Int32) (h : (b 0 0 7).toInt < 3000) (h0 : 0 ≤ (b 0 0 7).toInt) : HsB b (mvB b f t' g p o) := by
  have e1 : (b 0 0 7 + 1).toInt = (b 0 0 7).toInt + 1 := inc_t h0 (by omega)
  refine ⟨by show _ ≤ (b 0 0 7 + 1).toInt; omega, rfl, fun j a c => ?_⟩
  have n : ¬ j = b 0 0 7 := by rw [i32eq]; omega
  exact ⟨by show fI (b 3 0) (b 0 0 7) f j = _; exact fI_ne n, by show fI (b 4 0) (b 0 0 7) t' j = _; exact fI_ne n, by show fI (b 5 0) (b 0 0 7) g j = _; exact fI_ne n, by show fI (b 6 0) (b 0 0 7) p j = _; exact fI_ne n, by show fI (b 7 0) (b 0 0 7) o j = _; exact fI_ne n⟩
theorem okT_mvM {m : Cm} (h : Ok12 m) {f t' g p : Int32} (hf : vp_in f 5) (ht : vp_in t' 5) (hg : vp_in g 8) (hc : (m 0 0 21).toInt < 3000) : Ok12 (mvM m f t' g p) := by
  have o : OkT m m := ⟨h, rfl, rfl⟩
  unfold mvM
  refine (okT_s21 (okT_putA (okT_putA (okT_g25 (okT_g24 (okT_g23 (okT_putA (okT_putA o (by decide)) (by decide)) hf) ht) hg) (by decide)) (by decide)) ?_).1
  rw [inc_t h.m0 (by omega)]; have := h.m0; omega
/-- goods are carried -/
theorem carry_c {f g lp p : Int32} {to : Int32} (hL1 : L ≤ 1000000) (hM : Mid t x8 E L w M0 m0 d M m1) (hb : M 2 0 0 2 = M0 2 0 0 2 ∧ M 2 0 0 3 = M0 2 0 0 3) (hf : vp_in f 5) (ht : vp_in to 5) (hg : vp_in g 8) (hlp : f10_goodOf (f9_contentOf t lp) = g) :
    PostA t x8 E L w M0 m0 d (f7_carry M (ow f) (ow to) lp p) (if p < 0 then u3 m1 0 0 63 6 else f12_move m1 f to g p) := by
  have hgn : ¬ g = -1 := by intro z; rw [z, vp_in_iff] at hg; exact absurd hg (by decide)
  obtain ⟨hk, hI, hP⟩ := hM.1.2.2.2.1
  have hcn := hk.1
  have hrg := hk.2.1
  have est : f1_stockOf (M 1) (ow f) g = m1 4 0 (8 * f + g) := hk.2.2.2 f g hf hg
  have hst := hP.le (ow_in hf) hg
  have en : M 7 0 0 6 = m1 0 0 56 := by have := hM.1.2.2.2.2.2.1.1; rw [this.1, this.2]
  unfold f7_carry
  rw [if_pos hM.2.2.1.1]
  simp only [bnd]
  rw [hM.m9, hlp]
  by_cases c1 : p < 0
  · rw [if_pos c1, if_pos c1]; exact err_c hM (by decide)
  · rw [if_neg c1, if_neg c1, if_neg hgn, est, f12_move_e]
    simp only [i32lt, t32_0] at c1
    have hs0 : 0 ≤ (m1 4 0 (8 * f + g)).toInt := by rw [← est]; exact hst.1
    by_cases c2 : f = to
    · rw [if_pos (by rw [c2]), if_pos c2, if_pos (by decide)]; exact fin_c hM hb
    · rw [if_neg (fun z => c2 (ow_e z hf ht)), if_neg c2]
      have hmn : mnI p (m1 4 0 (8 * f + g)) = if m1 4 0 (8 * f + g) ≤ p then m1 4 0 (8 * f + g) else p := by
        unfold mnI
        by_cases c : m1 4 0 (8 * f + g) < p
        · rw [if_pos c, if_pos (by simp only [i32lt, i32le] at c ⊢; omega)]
        · rw [if_neg c]
          by_cases c' : m1 4 0 (8 * f + g) ≤ p
          · rw [if_pos c', i32eq]; simp only [i32lt, i32le] at c c'; omega
          · rw [if_neg c']
      rw [← hmn]
      have hm0 : 0 ≤ (mnI p (m1 4 0 (8 * f + g))).toInt ∧ (mnI p (m1 4 0 (8 * f + g))).toInt ≤ (m1 4 0 (8 * f + g)).toInt := by
        rw [hmn]
        by_cases c' : m1 4 0 (8 * f + g) ≤ p
        · rw [if_pos c']; omega
        · rw [if_neg c']; simp only [i32le] at c'; omega
      by_cases c3 : mnI p (m1 4 0 (8 * f + g)) = 0
      · rw [if_pos c3, if_pos (by rw [c3]; decide), c3]; exact fin_c hM hb
      · have c3' : ¬ mnI p (m1 4 0 (8 * f + g)) ≤ 0 := by
          intro z; simp only [i32le, t32_0] at z
          exact c3 (by rw [i32eq, t32_0]; omega)
        rw [if_neg c3, if_neg c3']
        unfold f1_isFull
        by_cases c4 : M 1 0 0 7 < 3000
        · rw [if_pos c4]
          simp only [i32lt, t32_3000] at c4
          simp only [Bool.false_eq_true, if_false]
          rw [if_neg (by rw [← hcn, i32eq, t32_3000]; omega), f1_move_e (by simp only [i32le, t32_3000]; omega), en]
          have mc := move_c (p := mnI p (m1 4 0 (8 * f + g))) hk hI hL1 hP hf ht hg c2 (by simp only [i32le, t32_0] at c3'; omega) (by show _ ≤ (f1_stockOf (M 1) (ow f) g).toInt; rw [est]; exact hm0.2) c4
          have M2 := hM.book (m' := mvM m1 f to g (mnI p (m1 4 0 (8 * f + g)))) (fun q a b c => by
            unfold mvM
            rw [u3_ne _ _ _ a, u3_ne _ _ _ (by omega), u3_ne _ _ _ (by omega), u3_ne _ _ _ (by omega), u3_ne _ _ _ (by omega), u3_ne _ _ _ (by omega), u3_ne _ _ _ b, u3_ne _ _ _ b]) (fun k a => u3_s a) (okT_mvM hM.ok hf ht hg (by rw [← hcn]; exact c4)) mc (HsB.move _ _ _ _ _ _ c4 hrg.1)
          exact fin_c M2 hb
        · rw [if_neg c4]
          simp only [if_true]
          simp only [i32lt, t32_3000] at c4
          rw [if_pos (by rw [← hcn, i32eq, t32_3000]; omega)]
          exact err_c hM (by decide)
end OPS
