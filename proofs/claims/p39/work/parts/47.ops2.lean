/-! CHOICES: not, and, or, if -/
section OPS
variable {t x8 : Cm} {E : Int32 → Int32 → Prop} {L : Int} {w : Int32} {VA : Wm → Int32 → Int32 → Int32 × Wm} {M0 M : Wm} {m0 m1 : Cm} {d s P first : Int32}
theorem LsC.e2 (h : LsC t E m0 s P first) (hn : 1 ≤ CN12 m0 s first) : skp12 m0 s 1 first = f12_following m0 s first := by
  have E1 : E s first := h.e 0 (by omega)
  show (if first = -1 then -1 else f12_following m0 s first) = _
  rw [if_neg (h.ix E1).ne]
theorem LsC.e3 (h : LsC t E m0 s P first) (hn : 2 ≤ CN12 m0 s first) : skp12 m0 s 2 first = f12_following m0 s (f12_following m0 s first) := by
  have E2 := h.e 1 (by omega)
  rw [skp_s, if_neg (h.ix E2).ne, h.e2 (by omega)]
theorem advQ_choose {m : Cm} {op : Int32} (ho : 9 ≤ op.toInt ∧ op.toInt ≤ 12) (h1 : Ix12 m (m 31 0 d) (m 35 0 d)) (h2 : op = 12 → ¬ f12_following m (m 31 0 d) (m 35 0 d) = -1) (h32 : m 32 0 d = op) : AdvQ m d op :=
  ⟨fun h => absurd h (by omega), fun _ => ⟨h1, fun z => h2 (h32.symm.trans z)⟩, fun h => absurd h (by omega), fun h => absurd h.1 (by omega), fun h => absurd h.1 (by omega), fun h => absurd h.1 (by omega), fun h => absurd h (by omega), fun h => absurd h (by omega), fun h => absurd h.1 (by omega)⟩
theorem choose_adv {op : Int32} {m4 : Cm} (hL : LsC t E m0 s P first) (ho : 9 ≤ op.toInt ∧ op.toInt ≤ 12) (hn : 1 ≤ CN12 m0 s first) (hn2 : op = 12 → 2 ≤ CN12 m0 s first) (t4 : m4 2 = m0 2 ∧ m4 3 = m0 3) (hl : LvI m4 d s op first) : AdvP m4 d := by
  have E1 : E s first := hL.e 0 (by omega)
  refine AdvP.mk0 hl.1 hl.2.1 (hL.1.2.2.2.1.fr t4) (advQ_choose ho ?_ (fun z => ?_) hl.2.1)
  · rw [hl.1, hl.2.2]; exact (hL.ix E1).fr t4
  · rw [hl.1, hl.2.2, following_fr t4, ← hL.e2 hn]
    exact (hL.ix (hL.e 1 (by have := hn2 z; omega))).ne
/-- the second value of a choice is the choice' -/
theorem choose2_c {op idx k : Int32} (hV : SimV t x8 E L w VA (d + 1)) (hL : LsC t E m0 s P first) (hn : 1 ≤ CN12 m0 s first) (hn2 : op = 12 → 2 ≤ CN12 m0 s first) (hM : Mid t x8 E L w M0 m0 d M m1) (hl : LvI m1 d s op first) (l33 : m1 33 0 d = 1) (ho : 10 ≤ op.toInt ∧ op.toInt ≤ 12) (hE : E s idx) (hp : f9_partOf t P k = Pl s idx) (hc : (M 2 0 0 2).toInt ≤ 3 * d.toInt + 3) (hb : M 2 0 0 2 = M0 2 0 0 2 ∧ M 2 0 0 3 = M0 2 0 0 3) :
    PostA t x8 E L w M0 m0 d (f7_valueOfPart VA M P k d) (f12_valueNext m1 d idx) := by
  rcases next_p hV hL hM hl hE hp hc with ⟨x1, x2⟩ | ⟨x1, m4, y1, y2, y3, y4, y5, y6, y7, y8⟩
  · exact x2 _
  · have t4 := y1.tx
    refine y8 (choose_adv hL ⟨by omega, ho.2⟩ hn hn2 t4 y7) _ ?_
    have a : f12_advance m4 d = f12_finish m4 (m4 0 0 62) := by
      rw [adv_choose y7.2.1 ⟨by omega, ho.2⟩]
      unfold f12_choose
      simp only [bnd]
      rw [if_neg (by rw [y4, l33]; decide), y7.2.1, if_neg (by intro z; rw [z] at ho; exact absurd ho.1 (by decide)), if_pos (by rw [y4, l33]; decide)]
    rw [a, y2]
    exact fin_c y1 ⟨y6.1.trans hb.1, y6.2.1.trans hb.2⟩
theorem not_c (hV : SimV t x8 E L w VA (d + 1)) (hL : LsC t E m0 s P first) (hn : 1 ≤ CN12 m0 s first) (hM : Mid t x8 E L w M0 m0 d M m1) (hl : LvI m1 d s 9 first) (l33 : m1 33 0 d = 0) (hc : (M 2 0 0 2).toInt ≤ 3 * d.toInt + 3) (hb : M 2 0 0 2 = M0 2 0 0 2 ∧ M 2 0 0 3 = M0 2 0 0 3) :
    PostA t x8 E L w M0 m0 d (if (f7_valueOfPart VA M P 1 d).1 = 0 then (1, (f7_valueOfPart VA M P 1 d).2) else (0, (f7_valueOfPart VA M P 1 d).2)) (f12_advance m1 d) := by
  have E1 : E s first := hL.e 0 (by omega)
  have P1 : f9_partOf t P 1 = Pl s first := hL.p 0 (by omega) 1 (by decide)
  have a1 : f12_advance m1 d = f12_valueNext m1 d first := by
    rw [adv_choose hl.2.1 (by decide)]; unfold f12_choose; simp only [bnd]; rw [if_pos l33, hl.2.2]
  rw [a1]
  rcases next_p hV hL hM hl E1 P1 hc with ⟨x1, x2⟩ | ⟨x1, m4, y1, y2, y3, y4, y5, y6, y7, y8⟩
  · split <;> exact x2 _
  · have t4 := y1.tx
    refine y8 (choose_adv hL (by decide) hn (fun z => absurd z (by decide)) t4 y7) _ ?_
    have b4 := And.intro (y6.1.trans hb.1) (y6.2.1.trans hb.2)
    have a : f12_advance m4 d = f12_finish m4 (if (f7_valueOfPart VA M P 1 d).1 = 0 then 1 else 0) := by
      rw [adv_choose y7.2.1 (by decide)]
      unfold f12_choose
      simp only [bnd, jn]
      rw [if_neg (by rw [y4, l33]; decide), y7.2.1, if_pos rfl, y2]
      split <;> rfl
    rw [a]
    by_cases c : (f7_valueOfPart VA M P 1 d).1 = 0
    · rw [if_pos c, if_pos c]; exact fin_c y1 b4
    · rw [if_neg c, if_neg c]; exact fin_c y1 b4
theorem choice_c {op : Int32} (hV : SimV t x8 E L w VA (d + 1)) (h0 : H0 VA) (hL : LsC t E m0 s P first) (hn : 2 ≤ CN12 m0 s first) (hn3 : op = 12 → 3 ≤ CN12 m0 s first) (hM : Mid t x8 E L w M0 m0 d M m1) (hl : LvI m1 d s op first) (l33 : m1 33 0 d = 0) (ho : op = 10 ∨ op = 11 ∨ op = 12) (hc : (M 2 0 0 2).toInt ≤ 3 * d.toInt + 3) (hb : M 2 0 0 2 = M0 2 0 0 2 ∧ M 2 0 0 3 = M0 2 0 0 3) :
    PostA t x8 E L w M0 m0 d (f7_valueOfChoice VA M op P d) (f12_advance m1 d) := by
  have ho' : 10 ≤ op.toInt ∧ op.toInt ≤ 12 := by rcases ho with z | z | z <;> subst z <;> decide
  have E1 : E s first := hL.e 0 (by omega)
  have P1 : f9_partOf t P 1 = Pl s first := hL.p 0 (by omega) 1 (by decide)
  have E2 := hL.e 1 (by omega)
  have P2 := hL.p 1 (by omega) 2 (by decide)
  have a1 : f12_advance m1 d = f12_valueNext m1 d first := by
    rw [adv_choose hl.2.1 ⟨by omega, ho'.2⟩]; unfold f12_choose; simp only [bnd]; rw [if_pos l33, hl.2.2]
  rw [a1]
  have cls : f7_valueOfChoice VA M op P d = (if op = 12 then (if (f7_valueOfPart VA M P 1 d).1 = 0 then f7_valueOfPart VA (f7_valueOfPart VA M P 1 d).2 P 3 d else f7_valueOfPart VA (f7_valueOfPart VA M P 1 d).2 P 2 d) else if op = 10 then (if (f7_valueOfPart VA M P 1 d).1 = 0 then f7_valueOfPart VA M P 1 d else f7_valueOfPart VA (f7_valueOfPart VA M P 1 d).2 P 2 d) else (if (f7_valueOfPart VA M P 1 d).1 = 0 then f7_valueOfPart VA (f7_valueOfPart VA M P 1 d).2 P 2 d else f7_valueOfPart VA M P 1 d)) := by
    unfold f7_valueOfChoice
    simp only [bnd, jn]
    by_cases c1 : op = 12
    · rw [if_pos c1, if_pos c1]
    · rw [if_neg c1, if_neg c1]
      by_cases c2 : op = 10
      · rw [if_pos c2, if_pos c2]
        by_cases c : (f7_valueOfPart VA M P 1 d).1 = 0
        · rw [if_pos c, if_pos c, if_pos trivial]
        · rw [if_neg c, if_neg c, if_neg (by decide)]
      · rw [if_neg c2, if_neg c2]
        by_cases c : (f7_valueOfPart VA M P 1 d).1 = 0
        · rw [if_pos c, if_pos c, if_neg (by decide)]
        · rw [if_neg c, if_neg c, if_pos trivial]
  rw [cls]
  rcases next_p hV hL hM hl E1 P1 hc with ⟨x1, x2⟩ | ⟨x1, m4, y1, y2, y3, y4, y5, y6, y7, y8⟩
  · rw [vp_0 h0 x1, vp_0 h0 x1]
    split
    · split <;> exact x2 _
    · split
      · split <;> exact x2 _
      · split <;> exact x2 _
  · have t4 := y1.tx
    refine y8 (choose_adv hL ⟨by omega, ho'.2⟩ (by omega) (fun z => by have := hn3 z; omega) t4 y7) _ ?_
    have b4 := And.intro (y6.1.trans hb.1) (y6.2.1.trans hb.2)
    have s4 : m4 33 0 d = 1 := by rw [y4, l33]; rfl
    have c4 : ((f7_valueOfPart VA M P 1 d).2 2 0 0 2).toInt ≤ 3 * d.toInt + 3 := by rw [y6.1]; exact hc
    have F : ∀ k idx : Int32, E s idx → f9_partOf t P k = Pl s idx → PostA t x8 E L w M0 m0 d (f7_valueOfPart VA (f7_valueOfPart VA M P 1 d).2 P k d) (f12_valueNext m4 d idx) := fun k idx hE hp => choose2_c hV hL (by omega) (fun _ => hn) y1 y7 s4 ho' hE hp c4 b4
    have f2 : f12_following m4 (m4 31 0 d) (m4 35 0 d) = skp12 m0 s 1 first := by rw [y7.1, y7.2.2, following_fr t4, hL.e2 (by omega)]
    have K1 : ¬ m4 33 0 d = 0 := by rw [s4]; decide
    have K2 : ¬ m4 33 0 d = 2 := by rw [s4]; decide
    have K9 : ¬ op = 9 := by intro z; rw [z] at ho'; exact absurd ho'.1 (by decide)
    rcases ho with z | z | z
    · subst z
      rw [if_neg (by decide), if_pos rfl]
      have a : f12_advance m4 d = if (f7_valueOfPart VA M P 1 d).1 = 0 then f12_finish m4 (f7_valueOfPart VA M P 1 d).1 else f12_valueNext m4 d (skp12 m0 s 1 first) := by
        rw [adv_choose y7.2.1 (by decide)]
        unfold f12_choose
        simp only [bnd, jn]
        rw [if_neg K1, y7.2.1, if_neg K9, if_neg K2, if_pos rfl, y2, f2, if_neg (show ¬ (10 : Int32) = 11 by decide), if_neg (show ¬ (10 : Int32) = 12 by decide)]
      rw [a]
      by_cases c : (f7_valueOfPart VA M P 1 d).1 = 0
      · rw [if_pos c, if_pos c]; exact fin_c y1 b4
      · rw [if_neg c, if_neg c]; exact F 2 _ E2 P2
    · subst z
      rw [if_neg (by decide), if_neg (by decide)]
      have a : f12_advance m4 d = if (f7_valueOfPart VA M P 1 d).1 = 0 then f12_valueNext m4 d (skp12 m0 s 1 first) else f12_finish m4 (f7_valueOfPart VA M P 1 d).1 := by
        rw [adv_choose y7.2.1 (by decide)]
        unfold f12_choose
        simp only [bnd, jn]
        rw [if_neg K1, y7.2.1, if_neg K9, if_neg K2, if_neg (show ¬ (11 : Int32) = 10 by decide), if_pos rfl, y2, f2, if_neg (show ¬ (11 : Int32) = 12 by decide)]
      rw [a]
      by_cases c : (f7_valueOfPart VA M P 1 d).1 = 0
      · rw [if_pos c, if_pos c]; exact F 2 _ E2 P2
      · rw [if_neg c, if_neg c]; exact fin_c y1 b4
    · subst z
      rw [if_pos rfl]
      have E3 := hL.e 2 (by have := hn3 rfl; omega)
      have P3 := hL.p 2 (by have := hn3 rfl; omega) 3 (by decide)
      have f3 : f12_following m4 (m4 31 0 d) (skp12 m0 s 1 first) = skp12 m0 s 2 first := by rw [y7.1, following_fr t4, hL.e3 hn, hL.e2 (by omega)]
      have a : f12_advance m4 d = if (f7_valueOfPart VA M P 1 d).1 = 0 then f12_valueNext m4 d (skp12 m0 s 2 first) else f12_valueNext m4 d (skp12 m0 s 1 first) := by
        rw [adv_choose y7.2.1 (by decide)]
        unfold f12_choose
        simp only [bnd, jn]
        rw [if_neg K1, y7.2.1, if_neg K9, if_neg K2, if_neg (show ¬ (12 : Int32) = 10 by decide), if_neg (show ¬ (12 : Int32) = 11 by decide), if_pos rfl, y2, f2, f3]
      rw [a]
      by_cases c : (f7_valueOfPart VA M P 1 d).1 = 0
      · rw [if_pos c, if_pos c]; exact F 3 _ E3 P3
      · rw [if_neg c, if_neg c]; exact F 2 _ E2 P2
end OPS
