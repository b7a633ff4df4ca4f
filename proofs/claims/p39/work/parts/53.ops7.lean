/-! at; functions; called scripts -/
section OPS
variable {t x8 : Cm} {E : Int32 → Int32 → Prop} {L : Int} {w : Int32} {VA : Wm → Int32 → Int32 → Int32 × Wm} {M0 M : Wm} {m0 m1 : Cm} {d s P first : Int32}
theorem isScript_e (x : Int32) : f12_isScript x = f12_in x 0 7 := rfl
theorem Mid.hr (h : Mid t x8 E L w M0 m0 d M m1) (h10 : 0 ≤ (M0 4 0 0 2).toInt ∧ (M0 4 0 0 2).toInt ≤ 1000) : 0 ≤ (m1 0 0 10).toInt ∧ (m1 0 0 10).toInt ≤ 1000 := by
  have e := h.1.2.2.2.2.1.2.1
  have e2 := h.2.2.2.2.1.2.1.2.1
  rw [← e, e2]; exact h10
theorem HsO.add {o : Cm} {c s hrs b : Int32} (h : (o 0 0 1).toInt < 60) (h0 : 0 ≤ (o 0 0 1).toInt) (hz : o 4 (o 0 0 1) 4 = 0 ∧ o 4 (o 0 0 1) 5 = 0) (hh : (o 0 0 2).toInt < (o 0 0 2 + hrs).toInt) (hbu : 0 ≤ b.toInt ∧ b.toInt ≤ 1000) (hz6 : o 4 (o 0 0 1) 6 = 0) : HsO o (f4_add o c s hrs b).2 := by
  have hnf : f4_areFull o = false := by
    unfold f4_areFull; rw [if_pos (by simp only [i32lt, t32_60]; exact h)]
  have e1 : (o 0 0 1 + 1).toInt = (o 0 0 1).toInt + 1 := inc_t h0 (by omega)
  unfold f4_add
  simp only [bnd, hnf, Bool.false_eq_true, if_false]
  obtain ⟨r0, r1, r2, r3, r4, r5⟩ := row4 o (o 0 0 1) c s (o 0 0 2 + hrs) b
  refine ⟨by show _ ≤ (o 0 0 1 + 1).toInt; omega, rfl, fun i a c => r5 i (by rw [i32eq]; omega), fun i a c' => ?_⟩
  have c'' : i.toInt < (o 0 0 1 + 1).toInt := c'
  have hi : i = o 0 0 1 := by rw [i32eq]; omega
  subst hi
  refine ⟨?_, ?_, ?_, ?_, (r4 6 (by decide)).trans hz6⟩
  · exact (r4 4 (by decide)).trans hz.1
  · exact (r4 5 (by decide)).trans hz.2
  · show _ < ((u3 (u3 (u3 (u3 o 4 (o 0 0 1) 0 c) 4 (o 0 0 1) 1 s) 4 (o 0 0 1) 2 (o 0 0 2 + hrs)) 4 (o 0 0 1) 3 b) 4 (o 0 0 1) 2).toInt
    rw [r2]; exact hh
  · show 0 ≤ ((u3 (u3 (u3 (u3 o 4 (o 0 0 1) 0 c) 4 (o 0 0 1) 1 s) 4 (o 0 0 1) 2 (o 0 0 2 + hrs)) 4 (o 0 0 1) 3 b) 4 (o 0 0 1) 3).toInt ∧ ((u3 (u3 (u3 (u3 o 4 (o 0 0 1) 0 c) 4 (o 0 0 1) 1 s) 4 (o 0 0 1) 2 (o 0 0 2 + hrs)) 4 (o 0 0 1) 3 b) 4 (o 0 0 1) 3).toInt ≤ 1000
    rw [r3]; exact hbu
/-- an order is made in a run -/
theorem Mid.order {c s' hrs b : Int32} (hM : Mid t x8 E L w M0 m0 d M m1) (hc : ¬ m1 0 0 11 = 60) (hcm : vp_in c 4) (hs : vp_in s' 8) (hh : 1 ≤ hrs.toInt ∧ hrs.toInt ≤ 100) (hhr : 0 ≤ (m1 0 0 10).toInt ∧ (m1 0 0 10).toInt ≤ 1000) (hbu : 0 ≤ b.toInt ∧ b.toInt ≤ 1000) : (f4_add (M 4) c s' hrs b).1 = (f12_makeOrder m1 c s' (m1 0 0 10 + hrs) b).1 ∧ Mid t x8 E L w M0 m0 d (uW M 4 (f4_add (M 4) c s' hrs b).2) (f12_makeOrder m1 c s' (m1 0 0 10 + hrs) b).2 := by
  obtain ⟨a1, a2, a3, a4, a5, a6, a7⟩ := hM
  obtain ⟨h1, h2, h3, ⟨h4, h5, h6⟩, h7, h8, h9, h10⟩ := a1
  have e11 := h7.1
  have hlt : (M 4 0 0 1).toInt < 60 := by rw [i32eq, t32_60, ← e11] at hc; have := h7.2.2.1.2; omega
  have wl : w.toInt < (M 4 0 0 1).toInt := by rw [e11]; exact h8.2.1.2
  have A := h7.add (hrs := hrs) (bu := b) wl hc hcm hs
  refine ⟨A.1, ?_⟩
  have hlt' : (m1 0 0 11).toInt < 60 := by rw [← e11]; exact hlt
  have ok : Ok12 (f12_makeOrder m1 c s' (m1 0 0 10 + hrs) b).2 := (okT_f12_makeOrder (m0 := m1) ⟨h9, rfl, rfl⟩ c s' _ b hcm hs hlt').1
  have g : ∀ g : Nat, (¬ g = 0 ∧ ¬ (13 ≤ g ∧ g ≤ 17)) → (f12_makeOrder m1 c s' (m1 0 0 10 + hrs) b).2 g = m1 g := by
    intro g z
    unfold f12_makeOrder; simp only [bnd]
    rw [u3_ne _ _ _ z.1, u3_ne _ _ _ (by omega), u3_ne _ _ _ (by omega), u3_ne _ _ _ (by omega), u3_ne _ _ _ (by omega), u3_ne _ _ _ (by omega)]
  have s : ∀ k : Int32, ¬ k = 11 → (f12_makeOrder m1 c s' (m1 0 0 10 + hrs) b).2 0 0 k = m1 0 0 k := by
    intro k z
    unfold f12_makeOrder; simp only [bnd]
    rw [u3_s z]; rfl
  have s11 : (f12_makeOrder m1 c s' (m1 0 0 10 + hrs) b).2 0 0 11 = m1 0 0 11 + 1 := rfl
  have wne : ¬ w = m1 0 0 11 := by rw [i32eq, ← e11]; omega
  have r16 : (f12_makeOrder m1 c s' (m1 0 0 10 + hrs) b).2 16 0 w = m1 16 0 w := by
    show fI (m1 16 0) (m1 0 0 11) b w = _; exact fI_ne wne
  have r17 : (f12_makeOrder m1 c s' (m1 0 0 10 + hrs) b).2 17 0 w = m1 17 0 w := by
    show fI (m1 17 0) (m1 0 0 11) 0 w = _; exact fI_ne wne
  have i11 : (m1 0 0 11 + 1).toInt = (m1 0 0 11).toInt + 1 := inc_t h9.o0 (by omega)
  have F := h7.2.2.2.2 (M 4 0 0 1) (Int.le_refl _) hlt
  refine ⟨⟨h1, h2.fr ⟨g 2 (by decide), g 3 (by decide)⟩, RelQ.fr (show RelQ (M 5) m1 from h3) (g 5 (by decide)) (g 6 (by decide)) (g 7 (by decide)) (g 8 (by decide)) (g 9 (by decide)) (s 9 (by decide)), ⟨?_, h5, h6⟩, A.2, ?_, ok, h10.fr (g 28 (by decide)) (g 29 (by decide)) (g 30 (by decide))⟩, ?_, ⟨a3.1, (s 63 (by decide)).trans a3.2⟩, ⟨(s 59 (by decide)).trans a4.1, (s 45 (by decide)).trans a4.2⟩, ⟨a5.1, a5.2.1.trans ?_ a5.2.2.2, ?_, a5.2.2.2⟩, a6.trans (fun q g1 g2 j _ => by rw [g q (by omega)]), a7⟩
  · show RelBk (M 1) _
    unfold RelBk RelMv RelS at h4 ⊢
    rw [s 21 (by decide), g 23 (by decide), g 24 (by decide), g 25 (by decide), g 26 (by decide), g 27 (by decide), g 4 (by decide)]; exact h4
  · show RunR (M 7) _ w
    unfold RunR at h8 ⊢
    rw [s 56 (by decide), s11, s 57 (by decide), r16, s 58 (by decide), s 10 (by decide)]
    exact ⟨h8.1, ⟨h8.2.1.1, by have := h8.2.1.2; omega⟩, h8.2.2⟩
  · refine ⟨?_, RelFn.fr (show RelFn t E (M 2) m1 from a2.2) rfl rfl rfl (s 50 (by decide)) ⟨g 2 (by decide), g 3 (by decide)⟩ (g 52 (by decide)) (g 53 (by decide)) (g 54 (by decide)) (g 55 (by decide)) (g 56 (by decide))⟩
    show RelB2 (M 2) _
    have := a2.1
    unfold RelB2 at this ⊢
    rw [s 49 (by decide), s 48 (by decide), g 47 (by decide), g 48 (by decide)]; exact this
  · refine HsO.add hlt h7.2.2.1.1 ⟨F.1.1, F.1.2.1⟩ ?_ hbu F.1.2.2.1
    have e10 := h7.2.1
    rw [e10, i32addn (by omega) (by omega)]; omega
  · unfold HsW; rw [r17, g 18 (by decide), r16, g 2 (by decide), g 3 (by decide)]; exact a5.2.2.1
theorem at_c (h10 : 0 ≤ (M0 4 0 0 2).toInt ∧ (M0 4 0 0 2).toInt ≤ 1000) (hV : SimV t x8 E L w VA (d + 1)) (h0 : H0 VA) (hL : LsC t E m0 s P first) (hn : CN12 m0 s first = 3) (hM : Mid t x8 E L w M0 m0 d M m1) (hl : LvI m1 d s 21 first) (l33 : m1 33 0 d = 0) (hc : (M 2 0 0 2).toInt ≤ 3 * d.toInt + 3) (hb : M 2 0 0 2 = M0 2 0 0 2 ∧ M 2 0 0 3 = M0 2 0 0 3) :
    PostA t x8 E L w M0 m0 d (f7_orderAhead VA M P d) (f12_advance m1 d) := by
  have E1 : E s first := hL.e 0 (by omega)
  have P1 : f9_partOf t P 1 = Pl s first := hL.p 0 (by omega) 1 (by decide)
  have E2 := hL.e 1 (by omega)
  have P2 := hL.p 1 (by omega) 2 (by decide)
  have E3 := hL.e 2 (by omega)
  have P3 := hL.p 2 (by omega) 3 (by decide)
  have f2 := hL.e2 (by omega)
  have f3 := hL.e3 (by omega)
  rw [f2] at E2 P2
  rw [f3] at E3 P3
  have ho : (21 : Int32) = 21 ∨ (21 : Int32) = 23 ∨ (21 : Int32) = 24 ∨ (21 : Int32) = 25 := Or.inl rfl
  have a1 : f12_advance m1 d = f12_valueNext m1 d first := by
    rw [adv_manage hl.2.1 ho]; unfold f12_manage; simp only [bnd_e, jn, hl.2.1]
    rw [if_neg (by decide), if_neg (by decide), if_pos l33, hl.2.2]
  rw [a1]
  have Q : ∀ (m : Cm) (i : Int32), m 2 = m0 2 ∧ m 3 = m0 3 → LvI m d s 21 first → E s i → m 34 0 d = i → AdvP m d := fun m i tm lm hE hi => AdvP.mk0 lm.1 lm.2.1 (hL.1.2.2.2.1.fr tm) (AdvQ.manage (Or.inl rfl) (fun _ => by rw [lm.1, hi]; exact (hL.ix hE).fr tm))
  unfold f7_orderAhead
  simp only [bnd_e]
  rcases next_p hV hL hM hl E1 P1 hc with ⟨x1, x2⟩ | ⟨x1, m4, y1, y2, y3, y4, y5, y6, y7, y8⟩
  · rw [vp_0 h0 x1, vp_0 h0 x1, if_neg x1]; exact x2 _
  · have t4 := y1.tx
    have s4 : m4 33 0 d = 1 := by rw [y4, l33]; rfl
    refine y8 (Q m4 first t4 y7 E1 y5) _ ?_
    have ok5 : Ok12 (u3 m4 36 0 d (m4 0 0 62)) := ok12_putA y1.ok (by decide)
    have M5' := y1.lv (m4 0 0 62) (g := 36) rfl (by decide) (by decide) ok5
    have l5' : LvI (u3 m4 36 0 d (m4 0 0 62)) d s 21 first := ⟨by rw [u3_ne _ _ _ (by decide)]; exact y7.1, by rw [u3_ne _ _ _ (by decide)]; exact y7.2.1, by rw [u3_ne _ _ _ (by decide)]; exact y7.2.2⟩
    have ok6 : Ok12 (u3 (u3 m4 36 0 d (m4 0 0 62)) 37 0 d (m4 37 0 d)) := ok12_putA ok5 (by decide)
    have M5 := M5'.lv (m4 37 0 d) (g := 37) rfl (by decide) (by decide) ok6
    have l5 : LvI (u3 (u3 m4 36 0 d (m4 0 0 62)) 37 0 d (m4 37 0 d)) d s 21 first := ⟨by rw [u3_ne _ _ _ (by decide)]; exact l5'.1, by rw [u3_ne _ _ _ (by decide)]; exact l5'.2.1, by rw [u3_ne _ _ _ (by decide)]; exact l5'.2.2⟩
    have a2 : f12_advance m4 d = f12_valueNext (u3 (u3 m4 36 0 d (m4 0 0 62)) 37 0 d (m4 37 0 d)) d (f12_following m0 s first) := by
      rw [adv_manage y7.2.1 ho]; unfold f12_manage; simp only [bnd_e, jn, y7.2.1]
      rw [if_neg (by decide), if_neg (by decide), if_neg (by rw [s4]; decide), if_neg (by decide), s4, if_neg (by decide), if_pos rfl, if_neg (by decide), y7.1, y5, following_fr M5.tx]
    rw [a2]
    rcases next_p hV hL M5 l5 E2 P2 (by rw [y6.1]; exact hc) with ⟨z1, z2⟩ | ⟨z1, m6, w1, w2, w3, w4, w5, w6, w7, w8⟩
    · rw [vp_0 h0 z1, if_neg z1]; exact z2 _
    · have t6 := w1.tx
      have s6 : m6 33 0 d = 2 := by rw [w4, u3_ne _ _ _ (by decide), u3_ne _ _ _ (by decide), s4]; rfl
      have k36 : m6 36 0 d = (f7_valueOfPart VA M P 1 d).1 := by
        rw [w3.1 36 (by decide) (by decide) (by decide) (by decide) (by decide), u3_ne _ _ _ (by decide), u3_at, y2]
      refine w8 (Q m6 _ t6 w7 E2 w5) _ ?_
      have ok7 : Ok12 (u3 m6 36 0 d (m6 36 0 d)) := ok12_putA w1.ok (by decide)
      have M7' := w1.lv (m6 36 0 d) (g := 36) rfl (by decide) (by decide) ok7
      have l7' : LvI (u3 m6 36 0 d (m6 36 0 d)) d s 21 first := ⟨by rw [u3_ne _ _ _ (by decide)]; exact w7.1, by rw [u3_ne _ _ _ (by decide)]; exact w7.2.1, by rw [u3_ne _ _ _ (by decide)]; exact w7.2.2⟩
      have ok8 : Ok12 (u3 (u3 m6 36 0 d (m6 36 0 d)) 37 0 d (m6 0 0 62)) := ok12_putA ok7 (by decide)
      have M7 := M7'.lv (m6 0 0 62) (g := 37) rfl (by decide) (by decide) ok8
      have l7 : LvI (u3 (u3 m6 36 0 d (m6 36 0 d)) 37 0 d (m6 0 0 62)) d s 21 first := ⟨by rw [u3_ne _ _ _ (by decide)]; exact l7'.1, by rw [u3_ne _ _ _ (by decide)]; exact l7'.2.1, by rw [u3_ne _ _ _ (by decide)]; exact l7'.2.2⟩
      have a3 : f12_advance m6 d = f12_valueNext (u3 (u3 m6 36 0 d (m6 36 0 d)) 37 0 d (m6 0 0 62)) d (f12_following m0 s (f12_following m0 s first)) := by
        rw [adv_manage w7.2.1 ho]; unfold f12_manage; simp only [bnd_e, jn, w7.2.1]
        rw [if_neg (by decide), if_neg (by decide), if_neg (by rw [s6]; decide), if_neg (by decide), s6, if_neg (by decide), if_neg (by decide), if_pos rfl, w7.1, w5, following_fr M7.tx]
      rw [a3]
      rcases next_p hV hL M7 l7 E3 P3 (by rw [w6.1, y6.1]; exact hc) with ⟨u1, u2⟩ | ⟨u1, m8, v1, v2, v3, v4, v5, v6, v7, v8⟩
      · rw [if_neg u1]; exact u2 _
      · have t8 := v1.tx
        have s8 : m8 33 0 d = 3 := by rw [v4, u3_ne _ _ _ (by decide), u3_ne _ _ _ (by decide), s6]; rfl
        have q36 : m8 36 0 d = (f7_valueOfPart VA M P 1 d).1 := by
          rw [v3.1 36 (by decide) (by decide) (by decide) (by decide) (by decide), u3_ne _ _ _ (by decide), u3_at, k36]
        have q37 : m8 37 0 d = (f7_valueOfPart VA (f7_valueOfPart VA M P 1 d).2 P 2 d).1 := by
          rw [v3.1 37 (by decide) (by decide) (by decide) (by decide) (by decide), u3_at, w2]
        have b8 := And.intro (v6.1.trans (w6.1.trans (y6.1.trans hb.1))) (v6.2.1.trans (w6.2.1.trans (y6.2.1.trans hb.2)))
        refine v8 (Q m8 _ t8 v7 E3 v5) _ ?_
        rw [if_pos u1]
        generalize hA : (f7_valueOfPart VA M P 1 d).1 = A at q36 ⊢
        generalize hB : (f7_valueOfPart VA (f7_valueOfPart VA M P 1 d).2 P 2 d).1 = B at q37 ⊢
        generalize hR : f7_valueOfPart VA (f7_valueOfPart VA (f7_valueOfPart VA M P 1 d).2 P 2 d).2 P 3 d = R at u1 v1 v2 v6 b8 ⊢
        have a4 : f12_advance m8 d = if f12_in A 1 100 = true then (if f12_isScript B = true then (if f12_in R.1 1 1000 = true then (if m8 0 0 11 = 60 then f12_finish m8 (-1) else f12_finish (f12_makeOrder m8 (m8 0 0 57) B (m8 0 0 10 + A) R.1).2 (f12_makeOrder m8 (m8 0 0 57) B (m8 0 0 10 + A) R.1).1) else u3 m8 0 0 63 6) else u3 m8 0 0 63 6) else u3 m8 0 0 63 6 := by
          rw [adv_manage v7.2.1 ho]; unfold f12_manage; simp only [bnd_e, jn, v7.2.1]
          rw [if_neg (by decide), if_neg (by decide), if_neg (by rw [s8]; decide), if_neg (by decide), s8, if_pos (by decide), q36, q37, v2]
        rw [a4, isIn_e12, isIn_e12, isScript_e]
        by_cases c1 : f12_in A 1 100 = true
        · rw [if_pos c1, if_pos c1]
          by_cases c2 : f12_in B 0 7 = true
          · rw [if_pos c2, if_pos c2]
            rw [isIn_e12 R.1]
            by_cases c3 : f12_in R.1 1 1000 = true
            · rw [if_pos c3, if_pos c3, v1.m7]
              have hh := in_i c1
              have e11 := v1.1.2.2.2.2.1.1
              by_cases c4 : m8 0 0 11 = 60
              · rw [if_pos c4]
                have ef : f4_areFull (R.2 4) = true := by
                  unfold f4_areFull; rw [if_neg (by rw [e11, c4]; decide)]
                have e : f4_add (R.2 4) (m8 0 0 57) B A R.1 = (-1, R.2 4) := by
                  unfold f4_add; simp only [bnd, ef]; rfl
                rw [e, uW_same]; exact fin_c v1 b8
              · rw [if_neg c4]
                have O := v1.order (c := m8 0 0 57) (s' := B) (hrs := A) (b := R.1) c4 v1.ok.cmp (in_in (c := 7) c2 (by decide)) (by simp only [t32_1, t32_100] at hh; exact hh) (v1.hr h10) (by have hb3 := in_i c3; rw [t32_1, show (1000 : Int32).toInt = 1000 by decide] at hb3; omega)
                rw [O.1]
                exact fin_c O.2 b8
            · rw [if_neg c3, if_neg c3]; exact err_c v1 (by decide)
          · rw [if_neg c2, if_neg c2]; exact err_c v1 (by decide)
        · rw [if_neg c1, if_neg c1]; exact err_c v1 (by decide)
end OPS
