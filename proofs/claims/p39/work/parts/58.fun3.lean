/-! functions: their values -/
section OPS
variable {t x8 : Cm} {E : Int32 → Int32 → Prop} {L : Int} {w : Int32} {VA : Wm → Int32 → Int32 → Int32 × Wm} {M0 M : Wm} {m0 m1 : Cm} {d s P first : Int32}
theorem apply_n {m : Cm} (h : ¬ m 42 0 d ≤ m 33 0 d) : f12_apply m d = f12_valueNext (kpt m d) d (if m 33 0 d = 0 then m 35 0 d else f12_following (kpt m d) (m 31 0 d) (m 34 0 d)) := by
  unfold f12_apply kpt
  simp only [bnd_e]
  by_cases c1 : m 33 0 d = 1
  · simp only [jn, if_pos c1]
    by_cases c2 : m 33 0 d = 2
    · rw [c1] at c2; exact absurd c2 (by decide)
    · simp only [if_neg c2]
      by_cases c3 : m 33 0 d = 3
      · rw [c1] at c3; exact absurd c3 (by decide)
      · simp only [if_neg c3]
        by_cases c4 : m 33 0 d = 0
        · rw [c1] at c4; exact absurd c4 (by decide)
        · simp only [if_neg c4, if_neg h]
  · simp only [jn, if_neg c1]
    by_cases c2 : m 33 0 d = 2
    · simp only [if_pos c2]
      by_cases c3 : m 33 0 d = 3
      · rw [c2] at c3; exact absurd c3 (by decide)
      · simp only [if_neg c3]
        by_cases c4 : m 33 0 d = 0
        · rw [c2] at c4; exact absurd c4 (by decide)
        · simp only [if_neg c4, if_neg h]
    · simp only [if_neg c2]
      by_cases c3 : m 33 0 d = 3
      · simp only [if_pos c3]
        by_cases c4 : m 33 0 d = 0
        · rw [c3] at c4; exact absurd c4 (by decide)
        · simp only [if_neg c4, if_neg h]
      · simp only [if_neg c3]
        by_cases c4 : m 33 0 d = 0
        · simp only [if_pos c4, if_neg h]
        · simp only [if_neg c4, if_neg h]
theorem fn_err {r1 r3 p q r v x : Int32} {N : Wm} {mA : Cm} (h0 : H0 VA) (hN : ¬ N 7 0 0 10 = 0) (h : PostA t x8 E L w M0 m0 d (x, N) mA) : PostA t x8 E L w M0 m0 d (fnT VA N r1 r3 d p q r) mA := by
  obtain ⟨a, b, e⟩ := fnT_err (VA := VA) h0 hN r1 r3 d p q r
  rw [e]; exact h.err2 hN b
/-- one more value for a function -/
theorem arg_c {r1 r3 bs bi : Int32} {cN k : Nat} {m4 : Cm} (hV : SimV t x8 E L w VA (d + 1)) (hL : LsC t E m0 s P first) (hn : CN12 m0 s first = cN) (hM : Mid t x8 E L w M0 m0 d M m4) (hl : LvI m4 d s 26 first) (hF : FnK t E m0 m4 d r1 r3 cN bs bi) (hk : k < cN) (l33 : m4 33 0 d = nI k) (l34 : 0 < k → m4 34 0 d = skp12 m0 s (k - 1) first) (hc : (M 2 0 0 2).toInt ≤ 3 * d.toInt) :
    (¬ (f7_valueOfPart VA M P (nI (k + 1)) d).2 7 0 0 10 = 0 ∧ ∀ x : Int32, PostA t x8 E L w M0 m0 d (x, (f7_valueOfPart VA M P (nI (k + 1)) d).2) (f12_advance m4 d)) ∨
    ((f7_valueOfPart VA M P (nI (k + 1)) d).2 7 0 0 10 = 0 ∧ ∃ m6, Mid t x8 E L w M0 m0 d (f7_valueOfPart VA M P (nI (k + 1)) d).2 m6 ∧ m6 0 0 62 = (f7_valueOfPart VA M P (nI (k + 1)) d).1 ∧ LvI m6 d s 26 first ∧ FnK t E m0 m6 d r1 r3 cN bs bi ∧ m6 33 0 d = nI (k + 1) ∧ m6 34 0 d = skp12 m0 s k first ∧ ((f7_valueOfPart VA M P (nI (k + 1)) d).2 2 0 0 2 = M 2 0 0 2 ∧ (f7_valueOfPart VA M P (nI (k + 1)) d).2 2 0 0 3 = M 2 0 0 3) ∧ (m6 36 0 d = kpt m4 d 36 0 d ∧ m6 37 0 d = kpt m4 d 37 0 d) ∧ ∀ q, PostA t x8 E L w M0 m0 d q (f12_advance m6 d) → PostA t x8 E L w M0 m0 d q (f12_advance m4 d)) := by
  have hcN := hF.2.1
  have tk : (nI k : Int32).toInt = k := nI_toInt (by omega)
  have tc : (nI cN : Int32).toInt = cN := nI_toInt (by omega)
  have tk1 : (nI (k + 1) : Int32).toInt = k + 1 := by rw [nI_toInt (by omega)]; omega
  have hE := hL.e k (by omega)
  have hP := hL.p k (by omega) (nI (k + 1)) tk1
  have K1 := hM.kpt
  have tK := K1.tx
  have a1 : f12_advance m4 d = f12_valueNext (kpt m4 d) d (skp12 m0 s k first) := by
    rw [adv_apply hl.2.1, apply_n (by rw [l33, hF.1]; simp only [i32le]; omega)]
    by_cases c : k = 0
    · subst c
      rw [if_pos (show m4 33 0 d = 0 from l33), hl.2.2]; rfl
    · have c' : ¬ m4 33 0 d = 0 := by rw [l33, i32eq, tk, t32_0]; omega
      rw [if_neg c', hl.1, l34 (by omega), following_fr tK]
      have e : k = (k - 1) + 1 := by omega
      rw [e, skp_s, if_neg (hL.ix (hL.e (k - 1) (by omega))).ne]; rfl
  rw [a1]
  have lK : LvI (kpt m4 d) d s 26 first := hl.g (kpt_g m4 d (by decide)) (kpt_g m4 d (by decide)) (kpt_g m4 d (by decide))
  have FK : FnK t E m0 (kpt m4 d) d r1 r3 cN bs bi := hF.g (kpt_g m4 d (by decide)) (kpt_g m4 d (by decide)) (kpt_g m4 d (by decide)) (kpt_g m4 d (by decide))
  rcases next_p hV hL K1 lK hE hP (by omega) with a | ⟨x1, m6, y1, y2, y3, y4, y5, y6, y7, y8⟩
  · exact Or.inl a
  · right
    have t6 := y1.tx
    have F6 := FK.k y3
    have s6 : m6 33 0 d = nI (k + 1) := by
      rw [y4, kpt_g m4 d (by decide), l33, i32eq, inc_t (by omega) (by omega), tk, tk1]
    refine ⟨x1, m6, y1, y2, y7, F6, s6, y5, ⟨y6.1, y6.2.1⟩, ⟨y3.1 36 (by decide) (by decide) (by decide) (by decide) (by decide), y3.1 37 (by decide) (by decide) (by decide) (by decide) (by decide)⟩, fun q hq => y8 (AdvP.mk0 y7.1 y7.2.1 (hL.1.2.2.2.1.fr t6) (AdvQ.apply (fun _ _ => by rw [y7.1, y5]; exact (hL.ix hE).fr t6) ?_)) q hq⟩
    have := y1.2.1.1
    have hd := hM.2.2.2.2.2.2.1
    rw [← this.1, y6.1]; omega
def fnA (VA : Wm → Int32 → Int32 → Int32 × Wm) (M : Wm) (P d r1 r3 : Int32) : Nat → Int32 × Wm
  | 0 => fnT VA M r1 r3 d 0 0 0
  | 1 => fnT VA (f7_valueOfPart VA M P 1 d).2 r1 r3 d (f7_valueOfPart VA M P 1 d).1 0 0
  | 2 => fnT VA (f7_valueOfPart VA (f7_valueOfPart VA M P 1 d).2 P 2 d).2 r1 r3 d (f7_valueOfPart VA M P 1 d).1 (f7_valueOfPart VA (f7_valueOfPart VA M P 1 d).2 P 2 d).1 0
  | _ => fnT VA (f7_valueOfPart VA (f7_valueOfPart VA (f7_valueOfPart VA M P 1 d).2 P 2 d).2 P 3 d).2 r1 r3 d (f7_valueOfPart VA M P 1 d).1 (f7_valueOfPart VA (f7_valueOfPart VA M P 1 d).2 P 2 d).1 (f7_valueOfPart VA (f7_valueOfPart VA (f7_valueOfPart VA M P 1 d).2 P 2 d).2 P 3 d).1
theorem fn_cls {name r1 : Int32} {cN : Nat} (hd : f2_definitionOf (M 2) name = r1) (h1 : ¬ r1 = -1) (hc : cN ≤ 3) (h2 : f9_partsOf (M 9) (f9_partOf (M 9) r1 2) = nI cN) (h3 : f9_partsOf (M 9) P - 1 = nI cN) : f7_valueOfFunction VA M name P d = fnA VA M P d r1 (f9_partOf (M 9) r1 2) cN := by
  unfold f7_valueOfFunction
  simp only [bnd_e, hd]
  rw [if_neg h1, h2, if_pos h3]
  have hcs : cN = 0 ∨ cN = 1 ∨ cN = 2 ∨ cN = 3 := by omega
  rcases hcs with z | z | z | z <;> subst z
  · rfl
  · rfl
  · rfl
  · rfl
theorem apply_c {r1 r3 bs bi : Int32} {cN : Nat} (hV : SimV t x8 E L w VA (d + 1)) (h0 : H0 VA) (hL : LsC t E m0 s P first) (hn : CN12 m0 s first = cN) (hM : Mid t x8 E L w M0 m0 d M m1) (hl : LvI m1 d s 26 first) (hF : FnK t E m0 m1 d r1 r3 cN bs bi) (l33 : m1 33 0 d = 0) (hc : (M 2 0 0 2).toInt ≤ 3 * d.toInt) (hb : M 2 0 0 2 = M0 2 0 0 2 ∧ M 2 0 0 3 = M0 2 0 0 3) :
    PostA t x8 E L w M0 m0 d (fnA VA M P d r1 r3 cN) (f12_advance m1 d) := by
  have hsx := hL.1.2.2.2.1
  have hcN := hF.2.1
  by_cases z0 : cN = 0
  · subst z0
    exact body_c hV hsx hM hl hF l33 (fun z => absurd z (by decide)) (fun z => absurd z (by decide)) (fun z => absurd z (by decide)) hc hb h0
  · rcases arg_c (k := 0) hV hL hn hM hl hF (by omega) l33 (fun z => absurd z (by decide)) hc with ⟨x1, x2⟩ | ⟨x1, m4, y1, y2, y3, y4, y5, y6, y7, y8, y9⟩
    · have x1' : ¬ (f7_valueOfPart VA M P 1 d).2 7 0 0 10 = 0 := x1
      have x2' : ∀ x : Int32, PostA t x8 E L w M0 m0 d (x, (f7_valueOfPart VA M P 1 d).2) (f12_advance m1 d) := x2
      have hcs : cN = 1 ∨ cN = 2 ∨ cN = 3 := by omega
      rcases hcs with z | z | z <;> subst z
      · exact fn_err (v := 0) h0 x1' (x2' 0)
      · show PostA t x8 E L w M0 m0 d (fnT VA (f7_valueOfPart VA (f7_valueOfPart VA M P 1 d).2 P 2 d).2 r1 r3 d _ _ _) _
        rw [vp_0 h0 x1']; exact fn_err (v := 0) h0 x1' (x2' 0)
      · show PostA t x8 E L w M0 m0 d (fnT VA (f7_valueOfPart VA (f7_valueOfPart VA (f7_valueOfPart VA M P 1 d).2 P 2 d).2 P 3 d).2 r1 r3 d _ _ _) _
        rw [vp_0 h0 x1', vp_0 h0 x1']; exact fn_err (v := 0) h0 x1' (x2' 0)
    · refine y9 _ ?_
      have e1 : f7_valueOfPart VA M P (nI (0 + 1)) d = f7_valueOfPart VA M P 1 d := rfl
      rw [e1] at x1 y1 y2 y7
      have c4 : ((f7_valueOfPart VA M P 1 d).2 2 0 0 2).toInt ≤ 3 * d.toInt := by rw [y7.1]; exact hc
      have b4 := And.intro (y7.1.trans hb.1) (y7.2.trans hb.2)
      have k36 : kpt m4 d 36 0 d = (f7_valueOfPart VA M P 1 d).1 := by rw [kpt_36, y5, if_pos (by rfl), y2]
      by_cases z1 : cN = 1
      · subst z1
        exact body_c hV hsx y1 y3 y4 y5 (fun _ => k36) (fun z => absurd z (by decide)) (fun z => absurd z (by decide)) c4 b4 h0
      · rcases arg_c (k := 1) hV hL hn y1 y3 y4 (by omega) y5 (fun _ => y6) c4 with ⟨u1, u2⟩ | ⟨u1, m6, w1, w2, w3, w4, w5, w6, w7, w8, w9⟩
        · have u1' : ¬ (f7_valueOfPart VA (f7_valueOfPart VA M P 1 d).2 P 2 d).2 7 0 0 10 = 0 := u1
          have u2' : ∀ x : Int32, PostA t x8 E L w M0 m0 d (x, (f7_valueOfPart VA (f7_valueOfPart VA M P 1 d).2 P 2 d).2) (f12_advance m4 d) := u2
          have hcs : cN = 2 ∨ cN = 3 := by omega
          rcases hcs with z | z <;> subst z
          · exact fn_err (v := 0) h0 u1' (u2' 0)
          · show PostA t x8 E L w M0 m0 d (fnT VA (f7_valueOfPart VA (f7_valueOfPart VA (f7_valueOfPart VA M P 1 d).2 P 2 d).2 P 3 d).2 r1 r3 d _ _ _) _
            rw [vp_0 h0 u1']; exact fn_err (v := 0) h0 u1' (u2' 0)
        · refine w9 _ ?_
          have e2 : f7_valueOfPart VA (f7_valueOfPart VA M P 1 d).2 P (nI (1 + 1)) d = f7_valueOfPart VA (f7_valueOfPart VA M P 1 d).2 P 2 d := rfl
          rw [e2] at u1 w1 w2 w7
          have c6 : ((f7_valueOfPart VA (f7_valueOfPart VA M P 1 d).2 P 2 d).2 2 0 0 2).toInt ≤ 3 * d.toInt := by rw [w7.1]; exact c4
          have b6 := And.intro (w7.1.trans b4.1) (w7.2.trans b4.2)
          have j36 : kpt m6 d 36 0 d = (f7_valueOfPart VA M P 1 d).1 := by rw [kpt_36, w5, if_neg (by decide), w8.1, k36]
          have j37 : kpt m6 d 37 0 d = (f7_valueOfPart VA (f7_valueOfPart VA M P 1 d).2 P 2 d).1 := by rw [kpt_37, w5, if_pos (by rfl), w2]
          by_cases z2 : cN = 2
          · subst z2
            exact body_c hV hsx w1 w3 w4 w5 (fun _ => j36) (fun _ => j37) (fun z => absurd z (by decide)) c6 b6 h0
          · have z3 : cN = 3 := by omega
            subst z3
            rcases arg_c (k := 2) hV hL hn w1 w3 w4 (by omega) w5 (fun _ => w6) c6 with ⟨v1, v2⟩ | ⟨v1, m8, q1, q2, q3, q4, q5, q6, q7, q8, q9⟩
            · have v1' : ¬ (f7_valueOfPart VA (f7_valueOfPart VA (f7_valueOfPart VA M P 1 d).2 P 2 d).2 P 3 d).2 7 0 0 10 = 0 := v1
              exact fn_err (v := 0) h0 v1' (v2 0)
            · refine q9 _ ?_
              have e3 : f7_valueOfPart VA (f7_valueOfPart VA (f7_valueOfPart VA M P 1 d).2 P 2 d).2 P (nI (2 + 1)) d = f7_valueOfPart VA (f7_valueOfPart VA (f7_valueOfPart VA M P 1 d).2 P 2 d).2 P 3 d := rfl
              rw [e3] at v1 q1 q2 q7
              exact body_c hV hsx q1 q3 q4 q5 (fun _ => by rw [kpt_36, q5, if_neg (by decide), q8.1, j36]) (fun _ => by rw [kpt_37, q5, if_neg (by decide), q8.2, j37]) (fun _ => by rw [kpt_38, q5, if_pos (by rfl), q2]) (by rw [q7.1]; exact c6) ⟨q7.1.trans b6.1, q7.2.trans b6.2⟩ h0
end OPS
