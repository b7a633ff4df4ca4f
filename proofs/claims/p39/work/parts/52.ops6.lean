/-! set, take, put, give, at, buy, fuel, hour: the lists themselves -/
section OPS
variable {t x8 : Cm} {E : Int32 → Int32 → Prop} {L : Int} {w : Int32} {VA : Wm → Int32 → Int32 → Int32 × Wm} {M0 M : Wm} {m0 m1 : Cm} {d s P first : Int32}
theorem uW_22 (M : Wm) (n : Cm) : (uW M 2 n) 2 = n := uW_at M 2 n
theorem in12_f {a b c : Int32} (h : ¬ f12_in a b c = true) : ¬ (b.toInt ≤ a.toInt ∧ a.toInt ≤ c.toInt) := fun z => h (in12_t z)
theorem Mid.m7 (h : Mid t x8 E L w M0 m0 d M m1) : M 7 0 0 7 = m1 0 0 57 := h.1.2.2.2.2.2.1.2.2.1
theorem adv_tell {m : Cm} {op : Int32} (h : m 32 0 d = op) (ho : op = 16 ∨ op = 17) : f12_advance m d = f12_tell m d := by
  rw [adv_d h]; rcases ho with z | z <;> subst z <;> rfl
theorem adv_trade {m : Cm} {op : Int32} (h : m 32 0 d = op) (ho : op = 18 ∨ op = 19 ∨ op = 20) : f12_advance m d = f12_trade m d := by
  rw [adv_d h]; rcases ho with z | z | z <;> subst z <;> rfl
theorem adv_manage {m : Cm} {op : Int32} (h : m 32 0 d = op) (ho : op = 21 ∨ op = 23 ∨ op = 24 ∨ op = 25) : f12_advance m d = f12_manage m d := by
  rw [adv_d h]; rcases ho with z | z | z | z <;> subst z <;> rfl
theorem AdvQ.tell {m : Cm} (h1 : Ix12 m (m 31 0 d) (m 35 0 d)) (h32 : m 32 0 d = 16) : AdvQ m d 16 :=
  ⟨fun h => absurd h (by decide), fun h => absurd h (by decide), fun h => absurd h (by decide), fun h => absurd h (by decide), fun _ => ⟨h1, fun z => absurd (h32.symm.trans z) (by decide)⟩, fun h => absurd h (by decide), fun h => absurd h (by decide), fun h => absurd h (by decide), fun h => absurd h (by decide)⟩
theorem AdvQ.trade {m : Cm} {op : Int32} (ho : op = 18 ∨ op = 19 ∨ op = 20) (h1 : Ix12 m (m 31 0 d) (m 35 0 d)) (h2 : Ix12 m (m 31 0 d) (f12_following m (m 31 0 d) (m 35 0 d))) (h3 : op = 20 → ¬ f12_goodAt m (m 31 0 d) (f12_following m (m 31 0 d) (m 35 0 d)) = -1) (h4 : ¬ op = 20 → ¬ f12_goodAt m (m 31 0 d) (m 35 0 d) = -1) (h32 : m 32 0 d = op) : AdvQ m d op := by
  have ho' : 18 ≤ op.toInt ∧ op.toInt ≤ 20 := by rcases ho with z | z | z <;> subst z <;> decide
  exact ⟨fun h => absurd h (by omega), fun h => absurd h.2 (by omega), fun h => absurd h (by omega), fun h => absurd h.2 (by omega), fun h => absurd h.2 (by omega), fun _ => ⟨h1, h2, fun z => h3 (h32.symm.trans z), fun z => h4 (fun q => z (h32.trans q))⟩, fun h => absurd h (by omega), fun h => absurd h (by omega), fun h => absurd h.1 (by omega)⟩
theorem AdvQ.manage {m : Cm} {op : Int32} (ho : op = 21 ∨ op = 23) (h : ¬ m 33 0 d = 0 → Ix12 m (m 31 0 d) (m 34 0 d)) : AdvQ m d op := by
  have ho' : op.toInt = 21 ∨ op.toInt = 23 := by rcases ho with z | z <;> subst z <;> decide
  exact ⟨fun h => absurd h (by omega), fun h => absurd h.2 (by omega), fun h => absurd h (by omega), fun h => absurd h.2 (by omega), fun h => absurd h.2 (by omega), fun h => absurd h.2 (by omega), fun h => absurd h (by omega), fun h => absurd h (by omega), fun _ => h⟩
theorem set_c (hV : SimV t x8 E L w VA (d + 1)) (hL : LsC t E m0 s P first) (hn : 2 ≤ CN12 m0 s first) (hnm : f12_isName m0 s first = true) (hM : Mid t x8 E L w M0 m0 d M m1) (hl : LvI m1 d s 16 first) (l33 : m1 33 0 d = 0) (hc : (M 2 0 0 2).toInt ≤ 3 * d.toInt + 3) (hb : M 2 0 0 2 = M0 2 0 0 2 ∧ M 2 0 0 3 = M0 2 0 0 3) :
    PostA t x8 E L w M0 m0 d (f7_setBinding VA M P d) (f12_advance m1 d) := by
  have E1 : E s first := hL.e 0 (by omega)
  have P1 : f9_partOf t P 1 = Pl s first := hL.p 0 (by omega) 1 (by decide)
  have E2 := hL.e 1 (by omega)
  have P2 := hL.p 1 (by omega) 2 (by decide)
  have f2 := hL.e2 (by omega)
  rw [f2] at E2 P2
  have a1 : f12_advance m1 d = f12_valueNext m1 d (f12_following m0 s first) := by
    rw [adv_tell hl.2.1 (Or.inl rfl)]; unfold f12_tell; simp only [bnd]
    rw [if_neg (by rw [hl.2.1]; decide), if_pos l33, hl.1, hl.2.2, following_fr hM.tx]
  rw [a1]
  unfold f7_setBinding
  simp only [bnd]
  rcases next_p hV hL hM hl E2 P2 hc with ⟨x1, x2⟩ | ⟨x1, m4, y1, y2, y3, y4, y5, y6, y7, y8⟩
  · rw [if_neg x1]; exact x2 _
  · have t4 := y1.tx
    refine y8 (AdvP.mk0 y7.1 y7.2.1 (hL.1.2.2.2.1.fr t4) (AdvQ.tell (by rw [y7.1, y7.2.2]; exact (hL.ix E1).fr t4) y7.2.1)) _ ?_
    rw [if_pos x1, y1.m9, P1, (letter_e hL E1 hnm).2.1, y1.2.1.1.find]
    have a2 : f12_advance m4 d = if f12_bindingOf m4 (f12_nameAt m0 s first) = -1 then u3 m4 0 0 63 3 else f12_finish (u3 m4 48 0 (f12_bindingOf m4 (f12_nameAt m0 s first)) (m4 0 0 62)) (m4 0 0 62) := by
      rw [adv_tell y7.2.1 (Or.inl rfl)]; unfold f12_tell; simp only [bnd]
      rw [if_neg (by rw [y7.2.1]; decide), if_neg (by rw [y4, l33]; decide), y7.1, y7.2.2, nameAt_fr t4]
    rw [a2]
    have b4 := And.intro (y6.1.trans hb.1) (y6.2.1.trans hb.2)
    by_cases c1 : f12_bindingOf m4 (f12_nameAt m0 s first) = -1
    · rw [if_pos c1, if_pos c1]; exact err_c y1 (by decide)
    · rw [if_neg c1, if_neg c1, y2]
      have hr := y1.2.1.1
      have hlast := bindingOf_last (m := m4) (x := f12_nameAt m0 s first) (by rw [← hr.2.1]; exact hr.2.2.1) (by rw [← hr.1, ← hr.2.1]; exact hr.2.2.2.1) (by have := y1.top; omega)
      rcases hlast with ⟨z, _⟩ | ⟨q1, q2, q3, q4⟩
      · exact absurd z c1
      · generalize f12_bindingOf m4 (f12_nameAt m0 s first) = bd at c1 q1 q2 q3 q4 ⊢
        have e0 := hr.2.2.1
        rw [hr.2.1] at e0
        have dc : ((f7_valueOfPart VA M P 2 d).2 2 0 0 2 - 1).toInt = ((f7_valueOfPart VA M P 2 d).2 2 0 0 2).toInt - 1 := dec_t (by have := hr.2.2.1; have := hr.2.2.2.1; omega) (by have := hr.2.2.2.2.1; omega)
        have e1 : f2_setAt ((f7_valueOfPart VA M P 2 d).2 2) bd (f7_valueOfPart VA M P 2 d).1 = u3 ((f7_valueOfPart VA M P 2 d).2 2) 2 0 bd (f7_valueOfPart VA M P 2 d).1 := by
          unfold f2_setAt
          simp only [bnd]
          rw [isIn_e12, in12_t ⟨by rw [t32_0]; omega, by rw [dc, hr.1]; omega⟩]; rfl
        rw [e1]
        have ok : Ok12 (u3 m4 48 0 bd (f7_valueOfPart VA M P 2 d).1) := ok12_putA y1.ok (by decide)
        have M2 : Mid t x8 E L w M0 m0 d (uW (f7_valueOfPart VA M P 2 d).2 2 (u3 ((f7_valueOfPart VA M P 2 d).2 2) 2 0 bd (f7_valueOfPart VA M P 2 d).1)) (u3 m4 48 0 bd (f7_valueOfPart VA M P 2 d).1) := by
          refine y1.no (NO.g m4 0 _ _ rfl (by decide)) ok ⟨?_, ?_⟩
          · show RelB2 (u3 ((f7_valueOfPart VA M P 2 d).2 2) 2 0 bd (f7_valueOfPart VA M P 2 d).1) _
            refine ⟨hr.1, hr.2.1, hr.2.2.1, hr.2.2.2.1, hr.2.2.2.2.1, fun j a b => ⟨(hr.2.2.2.2.2 j a b).1, ?_⟩⟩
            show fI ((f7_valueOfPart VA M P 2 d).2 2 2 0) bd (f7_valueOfPart VA M P 2 d).1 j = fI (m4 48 0) bd (f7_valueOfPart VA M P 2 d).1 j
            by_cases c : j = bd
            · rw [c, fI_at, fI_at]
            · rw [fI_ne c, fI_ne c]; exact (hr.2.2.2.2.2 j a b).2
          · exact RelFn.fr (show RelFn t E ((f7_valueOfPart VA M P 2 d).2 2) m4 from y1.2.1.2) rfl rfl rfl rfl ⟨rfl, rfl⟩ rfl rfl rfl rfl rfl
        exact fin_c M2 b4
theorem isCompany_e (x : Int32) : f12_isCompany x = f11_isIn x 0 3 := rfl
theorem carry_0 {M' : Wm} (h : ¬ M' 7 0 0 10 = 0) (a b c e : Int32) : f7_carry M' a b c e = (0, M') := by unfold f7_carry; rw [if_neg h]
/-- take and put -/
theorem trade_c {op f to : Int32} (hL1 : L ≤ 1000000) (hV : SimV t x8 E L w VA (d + 1)) (hL : LsC t E m0 s P first) (hn : CN12 m0 s first = 2) (hgd : ¬ f12_goodAt m0 s first = -1) (hM : Mid t x8 E L w M0 m0 d M m1) (hl : LvI m1 d s op first) (l33 : m1 33 0 d = 0) (ho : op = 18 ∨ op = 19) (hft : (op = 18 → f = 4 ∧ to = M 7 0 0 7) ∧ (op = 19 → f = M 7 0 0 7 ∧ to = 4)) (hc : (M 2 0 0 2).toInt ≤ 3 * d.toInt + 3) (hb : M 2 0 0 2 = M0 2 0 0 2 ∧ M 2 0 0 3 = M0 2 0 0 3) :
    PostA t x8 E L w M0 m0 d (f7_carry (f7_valueOfPart VA M P 2 d).2 (ow f) (ow to) (f9_partOf t P 1) (f7_valueOfPart VA M P 2 d).1) (f12_advance m1 d) := by
  have E1 : E s first := hL.e 0 (by omega)
  have P1 : f9_partOf t P 1 = Pl s first := hL.p 0 (by omega) 1 (by decide)
  have E2 := hL.e 1 (by omega)
  have P2 := hL.p 1 (by omega) 2 (by decide)
  have f2 := hL.e2 (by omega)
  rw [f2] at E2 P2
  have ho3 : op = 18 ∨ op = 19 ∨ op = 20 := ho.elim Or.inl (fun z => Or.inr (Or.inl z))
  have n20 : ¬ op = 20 := by rcases ho with z | z <;> subst z <;> decide
  have a1 : f12_advance m1 d = f12_valueNext m1 d (f12_following m0 s first) := by
    rw [adv_trade hl.2.1 ho3]; unfold f12_trade; simp only [bnd, jn]
    rw [if_pos l33, hl.2.1, if_neg n20, hl.1, hl.2.2, following_fr hM.tx]
  rw [a1]
  rcases next_p hV hL hM hl E2 P2 hc with ⟨x1, x2⟩ | ⟨x1, m4, y1, y2, y3, y4, y5, y6, y7, y8⟩
  · rw [carry_0 x1]; exact x2 _
  · have t4 := y1.tx
    refine y8 (AdvP.mk0 y7.1 y7.2.1 (hL.1.2.2.2.1.fr t4) (AdvQ.trade ho3 (by rw [y7.1, y7.2.2]; exact (hL.ix E1).fr t4) (by rw [y7.1, y7.2.2, following_fr t4]; exact (hL.ix E2).fr t4) (fun z => absurd z n20) (fun _ => by rw [y7.1, y7.2.2, goodAt_fr t4]; exact hgd) y7.2.1)) _ ?_
    have cmp : M 7 0 0 7 = m4 0 0 57 := by rw [← y1.m7]; exact y6.2.2.2.2.symm
    have b4 := And.intro (y6.1.trans hb.1) (y6.2.1.trans hb.2)
    have ge := good_e hL E1 hgd
    have hcm : vp_in (m4 0 0 57) 5 := vp_w y1.ok.cmp (by decide)
    have hf : vp_in f 5 ∧ vp_in to 5 := by
      rcases ho with z | z
      · have := hft.1 z; rw [this.1, this.2, cmp]; exact ⟨vin_lit (by decide), hcm⟩
      · have := hft.2 z; rw [this.1, this.2, cmp]; exact ⟨hcm, vin_lit (by decide)⟩
    rw [P1]
    have K := carry_c (f := f) (to := to) (g := f12_goodAt m0 s first) (lp := Pl s first) (p := (f7_valueOfPart VA M P 2 d).1) hL1 y1 b4 hf.1 hf.2 (goodAt_in hgd) ge.2
    have a2 : f12_advance m4 d = if (f7_valueOfPart VA M P 2 d).1 < 0 then u3 m4 0 0 63 6 else f12_move m4 f to (f12_goodAt m0 s first) (f7_valueOfPart VA M P 2 d).1 := by
      rw [adv_trade y7.2.1 ho3]; unfold f12_trade; simp only [bnd, jn]
      rw [if_neg (by rw [y4, l33]; decide), y7.2.1, if_neg n20, if_neg n20, y7.1, y7.2.2, goodAt_fr t4, y2]
      rcases ho with z | z
      · have := hft.1 z
        subst z
        rw [this.1, this.2, cmp]
        rw [if_pos rfl, if_pos rfl, if_neg (show ¬ (18 : Int32) = 20 by decide)]
      · have := hft.2 z
        subst z
        rw [this.1, this.2, cmp]
        rw [if_neg (show ¬ (19 : Int32) = 18 by decide), if_neg (show ¬ (19 : Int32) = 18 by decide), if_pos rfl, if_neg (show ¬ (19 : Int32) = 20 by decide)]
    rw [a2]; exact K
theorem give_c (hL1 : L ≤ 1000000) (hV : SimV t x8 E L w VA (d + 1)) (h0 : H0 VA) (hL : LsC t E m0 s P first) (hn : CN12 m0 s first = 3) (hgd : ¬ f12_goodAt m0 s (f12_following m0 s first) = -1) (hM : Mid t x8 E L w M0 m0 d M m1) (hl : LvI m1 d s 20 first) (l33 : m1 33 0 d = 0) (hc : (M 2 0 0 2).toInt ≤ 3 * d.toInt + 3) (hb : M 2 0 0 2 = M0 2 0 0 2 ∧ M 2 0 0 3 = M0 2 0 0 3) :
    PostA t x8 E L w M0 m0 d (f7_give VA M P d) (f12_advance m1 d) := by
  have E1 : E s first := hL.e 0 (by omega)
  have P1 : f9_partOf t P 1 = Pl s first := hL.p 0 (by omega) 1 (by decide)
  have E2 := hL.e 1 (by omega)
  have P2 := hL.p 1 (by omega) 2 (by decide)
  have E3 := hL.e 2 (by omega)
  have P3 := hL.p 2 (by omega) 3 (by decide)
  have f2 := hL.e2 (by omega)
  have f3 := hL.e3 (by omega)
  rw [f2] at E2 P2
  rw [f3] at E3 P3
  have ho3 : (20 : Int32) = 18 ∨ (20 : Int32) = 19 ∨ (20 : Int32) = 20 := Or.inr (Or.inr rfl)
  have a1 : f12_advance m1 d = f12_valueNext m1 d first := by
    rw [adv_trade hl.2.1 ho3]; unfold f12_trade; simp only [bnd, jn]
    rw [if_pos l33, hl.2.1, if_pos rfl, hl.2.2]
  rw [a1]
  have Q : ∀ m : Cm, m 2 = m0 2 ∧ m 3 = m0 3 → LvI m d s 20 first → AdvP m d := fun m tm lm => AdvP.mk0 lm.1 lm.2.1 (hL.1.2.2.2.1.fr tm) (AdvQ.trade ho3 (by rw [lm.1, lm.2.2]; exact (hL.ix E1).fr tm) (by rw [lm.1, lm.2.2, following_fr tm]; exact (hL.ix E2).fr tm) (fun _ => by rw [lm.1, lm.2.2, following_fr tm, goodAt_fr tm]; exact hgd) (fun z => absurd rfl z) lm.2.1)
  have cls : f7_give VA M P d = (if ((f7_valueOfPart VA (f7_valueOfPart VA M P 1 d).2 P 3 d).2 7 0 0 10) = 0 then (if f11_isIn (f7_valueOfPart VA M P 1 d).1 0 3 = true then f7_carry (f7_valueOfPart VA (f7_valueOfPart VA M P 1 d).2 P 3 d).2 ((f7_valueOfPart VA (f7_valueOfPart VA M P 1 d).2 P 3 d).2 7 0 0 7) (f7_valueOfPart VA M P 1 d).1 (f9_partOf ((f7_valueOfPart VA (f7_valueOfPart VA M P 1 d).2 P 3 d).2 9) P 2) (f7_valueOfPart VA (f7_valueOfPart VA M P 1 d).2 P 3 d).1 else (0, uW (f7_valueOfPart VA (f7_valueOfPart VA M P 1 d).2 P 3 d).2 7 (u3 ((f7_valueOfPart VA (f7_valueOfPart VA M P 1 d).2 P 3 d).2 7) 0 0 10 6))) else f7_carry (f7_valueOfPart VA (f7_valueOfPart VA M P 1 d).2 P 3 d).2 ((f7_valueOfPart VA (f7_valueOfPart VA M P 1 d).2 P 3 d).2 7 0 0 7) (f7_valueOfPart VA M P 1 d).1 (f9_partOf ((f7_valueOfPart VA (f7_valueOfPart VA M P 1 d).2 P 3 d).2 9) P 2) (f7_valueOfPart VA (f7_valueOfPart VA M P 1 d).2 P 3 d).1) := rfl
  rw [cls]
  rcases next_p hV hL hM hl E1 P1 hc with ⟨x1, x2⟩ | ⟨x1, m4, y1, y2, y3, y4, y5, y6, y7, y8⟩
  · rw [vp_0 h0 x1, if_neg x1, carry_0 x1]; exact x2 _
  · have t4 := y1.tx
    refine y8 (Q m4 t4 y7) _ ?_
    have ok5 : Ok12 (u3 m4 36 0 d (m4 0 0 62)) := ok12_putA y1.ok (by decide)
    have t5 : (u3 m4 36 0 d (m4 0 0 62)) 2 = m0 2 ∧ (u3 m4 36 0 d (m4 0 0 62)) 3 = m0 3 := ⟨(u3_ne _ _ _ (by decide)).trans t4.1, (u3_ne _ _ _ (by decide)).trans t4.2⟩
    have a2 : f12_advance m4 d = f12_valueNext (u3 m4 36 0 d (m4 0 0 62)) d (f12_following m0 s (f12_following m0 s first)) := by
      rw [adv_trade y7.2.1 ho3]; unfold f12_trade; simp only [bnd, jn]
      rw [if_neg (by rw [y4, l33]; decide), y7.2.1, if_pos rfl, if_pos (by rw [y4, l33]; decide), y7.1, y7.2.2, following_fr t4, following_fr t5]
    rw [a2]
    have M5 := y1.lv (m4 0 0 62) (g := 36) rfl (by decide) (by decide) ok5
    have l5 : LvI (u3 m4 36 0 d (m4 0 0 62)) d s 20 first := ⟨by rw [u3_ne _ _ _ (by decide)]; exact y7.1, by rw [u3_ne _ _ _ (by decide)]; exact y7.2.1, by rw [u3_ne _ _ _ (by decide)]; exact y7.2.2⟩
    rcases next_p hV hL M5 l5 E3 P3 (by rw [y6.1]; exact hc) with ⟨z1, z2⟩ | ⟨z1, m6, w1, w2, w3, w4, w5, w6, w7, w8⟩
    · rw [if_neg z1, carry_0 z1]; exact z2 _
    · have t6 := w1.tx
      refine w8 (Q m6 t6 w7) _ ?_
      have s6 : m6 33 0 d = 2 := by rw [w4, u3_ne _ _ _ (by decide), y4, l33]; rfl
      have k6 : m6 36 0 d = (f7_valueOfPart VA M P 1 d).1 := by
        rw [w3.1 36 (by decide) (by decide) (by decide) (by decide) (by decide), u3_at, y2]
      have b6 : (f7_valueOfPart VA (f7_valueOfPart VA M P 1 d).2 P 3 d).2 2 0 0 2 = M0 2 0 0 2 ∧ (f7_valueOfPart VA (f7_valueOfPart VA M P 1 d).2 P 3 d).2 2 0 0 3 = M0 2 0 0 3 := ⟨w6.1.trans (y6.1.trans hb.1), w6.2.1.trans (y6.2.1.trans hb.2)⟩
      have a3 : f12_advance m6 d = if (f7_valueOfPart VA (f7_valueOfPart VA M P 1 d).2 P 3 d).1 < 0 then u3 m6 0 0 63 6 else if f12_isCompany (f7_valueOfPart VA M P 1 d).1 = true then f12_move m6 (m6 0 0 57) (f7_valueOfPart VA M P 1 d).1 (f12_goodAt m0 s (f12_following m0 s first)) (f7_valueOfPart VA (f7_valueOfPart VA M P 1 d).2 P 3 d).1 else u3 m6 0 0 63 6 := by
        rw [adv_trade w7.2.1 ho3]; unfold f12_trade; simp only [bnd, jn]
        rw [if_neg (by rw [s6]; decide), w7.2.1, if_pos rfl, if_neg (by rw [s6]; decide), w7.1, w7.2.2, following_fr t6, if_pos rfl, goodAt_fr t6, if_neg (show ¬ (20 : Int32) = 18 by decide), if_neg (show ¬ (20 : Int32) = 18 by decide), if_neg (show ¬ (20 : Int32) = 19 by decide), if_pos rfl, w2, k6]
      rw [a3, if_pos z1, isCompany_e]
      by_cases c1 : f11_isIn (f7_valueOfPart VA M P 1 d).1 0 3 = true
      · rw [if_pos c1, if_pos c1]
        have hin : vp_in (f7_valueOfPart VA M P 1 d).1 4 := in_in (c := 3) c1 (by decide)
        have ge := good_e hL E2 hgd
        have K := carry_c (f := m6 0 0 57) (to := (f7_valueOfPart VA M P 1 d).1) (g := f12_goodAt m0 s (f12_following m0 s first)) (lp := Pl s (f12_following m0 s first)) (p := (f7_valueOfPart VA (f7_valueOfPart VA M P 1 d).2 P 3 d).1) hL1 w1 b6 (vp_w w1.ok.cmp (by decide)) (vp_w hin (by decide)) (goodAt_in hgd) ge.2
        rw [ow_c hin, ow_c w1.ok.cmp] at K
        rw [w1.m7, w1.m9, P2]
        exact K
      · rw [if_neg c1, if_neg c1]
        split <;> exact err_c w1 (by decide)
theorem fuel_c {op : Int32} (hM : Mid t x8 E L w M0 m0 d M m1) (hl : LvI m1 d s op first) (ho : op = 24 ∨ op = 25) (hb : M 2 0 0 2 = M0 2 0 0 2 ∧ M 2 0 0 3 = M0 2 0 0 3) :
    PostA t x8 E L w M0 m0 d (if op = 24 then f5_fuelOf (M 5) (M 7 0 0 7) else M 4 0 0 2, M) (f12_advance m1 d) := by
  have a1 : f12_advance m1 d = f12_finish m1 (if op = 24 then m1 6 0 (m1 0 0 57) else m1 0 0 10) := by
    rw [adv_manage hl.2.1 (ho.elim (fun z => Or.inr (Or.inr (Or.inl z))) (fun z => Or.inr (Or.inr (Or.inr z))))]
    unfold f12_manage; simp only [bnd, jn, hl.2.1]
    rcases ho with z | z
    · rw [if_pos z, if_pos z, if_pos z]
    · have n : ¬ op = 24 := by subst z; decide
      rw [if_neg n, if_pos z, if_neg n, if_neg n]
  rw [a1]
  have e1 : f5_fuelOf (M 5) (M 7 0 0 7) = m1 6 0 (m1 0 0 57) := by
    rw [hM.m7]; exact (hM.1.2.2.1.1 _ hM.ok.cmp).1
  have e2 : M 4 0 0 2 = m1 0 0 10 := hM.1.2.2.2.2.1.2.1
  rw [e1, e2]
  exact fin_c hM hb
theorem Mid.purse {q' m' : Cm} (hM : Mid t x8 E L w M0 m0 d M m1) (hg : ∀ g : Nat, ¬ g = 5 → ¬ g = 6 → ¬ g = 7 → m' g = m1 g) (hk : Ok12 m') (hQ : RelQ q' m') : Mid t x8 E L w M0 m0 d (uW M 5 q') m' := by
  obtain ⟨a1, a2, a3, a4, a5, a6, a7⟩ := hM
  obtain ⟨h1, h2, h3, ⟨h4, h5, h6⟩, h7, h8, h9, h10⟩ := a1
  have e : ∀ g : Nat, (¬ g = 5 ∧ ¬ g = 6) ∧ ¬ g = 7 → m' g = m1 g := fun g z => hg g z.1.1 z.1.2 z.2
  have e0 := e 0 (by decide)
  refine ⟨⟨h1, h2.fr ⟨e 2 (by decide), e 3 (by decide)⟩, hQ, ⟨?_, h5, h6⟩, RelOr.fr (show RelOr (M 4) m1 w (M 7 0 0 9) from h7) (by rw [e0]) (by rw [e0]) (e 13 (by decide)) (e 14 (by decide)) (e 15 (by decide)) (e 16 (by decide)) (e 17 (by decide)) (e 18 (by decide)) (e 19 (by decide)) (e 20 (by decide)) (e 21 (by decide)), ?_, hk, h10.fr (e 28 (by decide)) (e 29 (by decide)) (e 30 (by decide))⟩, ?_, ⟨a3.1, by rw [e0]; exact a3.2⟩, ⟨by rw [e0]; exact a4.1, by rw [e0]; exact a4.2⟩, ⟨a5.1, a5.2.1, ?_, a5.2.2.2⟩, a6.trans (fun g g1 g2 j _ => by rw [hg g (by omega) (by omega) (by omega)]), a7⟩
  · show RelBk (M 1) m'
    unfold RelBk RelMv RelS at h4 ⊢
    rw [e0, e 23 (by decide), e 24 (by decide), e 25 (by decide), e 26 (by decide), e 27 (by decide), e 4 (by decide)]; exact h4
  · show RunR (M 7) m' w
    unfold RunR at h8 ⊢
    rw [e0, e 16 (by decide)]; exact h8
  · refine ⟨?_, RelFn.fr (show RelFn t E (M 2) m1 from a2.2) rfl rfl rfl (by rw [e0]) ⟨e 2 (by decide), e 3 (by decide)⟩ (e 52 (by decide)) (e 53 (by decide)) (e 54 (by decide)) (e 55 (by decide)) (e 56 (by decide))⟩
    show RelB2 (M 2) m'
    have := a2.1
    unfold RelB2 at this ⊢
    rw [e0, e 47 (by decide), e 48 (by decide)]; exact this
  · unfold HsW; rw [e 17 (by decide), e 18 (by decide), e 16 (by decide), e 2 (by decide), e 3 (by decide)]; exact a5.2.2.1
theorem okT_buyFuel' {m : Cm} (h : Ok12 m) (a b : Int32) : Ok12 (f12_buyFuel m a b).2 := (okT_f12_buyFuel (m0 := m) ⟨h, rfl, rfl⟩ a b).1
theorem buyFuel_g (m : Cm) (a b : Int32) {g : Nat} (g5 : ¬ g = 5) (g6 : ¬ g = 6) (g7 : ¬ g = 7) : (f12_buyFuel m a b).2 g = m g :=
  buyFuel_P (P := fun m' => m' g = m g) (fun m j x h => by rw [u3_ne _ _ _ g5]; exact h) (fun m j x h => by rw [u3_ne _ _ _ g6]; exact h) (fun m j x h => by rw [u3_ne _ _ _ g7]; exact h) rfl a b
theorem buy_c (hV : SimV t x8 E L w VA (d + 1)) (hL : LsC t E m0 s P first) (hn : 1 ≤ CN12 m0 s first) (hM : Mid t x8 E L w M0 m0 d M m1) (hl : LvI m1 d s 23 first) (l33 : m1 33 0 d = 0) (hc : (M 2 0 0 2).toInt ≤ 3 * d.toInt + 3) (hb : M 2 0 0 2 = M0 2 0 0 2 ∧ M 2 0 0 3 = M0 2 0 0 3) :
    PostA t x8 E L w M0 m0 d (f7_buyWith (f7_valueOfPart VA M P 1 d).2 (f7_valueOfPart VA M P 1 d).1) (f12_advance m1 d) := by
  have E1 : E s first := hL.e 0 (by omega)
  have P1 : f9_partOf t P 1 = Pl s first := hL.p 0 (by omega) 1 (by decide)
  have ho : (23 : Int32) = 21 ∨ (23 : Int32) = 23 ∨ (23 : Int32) = 24 ∨ (23 : Int32) = 25 := Or.inr (Or.inl rfl)
  have a1 : f12_advance m1 d = f12_valueNext m1 d first := by
    rw [adv_manage hl.2.1 ho]; unfold f12_manage; simp only [bnd, jn, hl.2.1]
    rw [if_neg (by decide), if_neg (by decide), if_pos l33, hl.2.2]
  rw [a1]
  rcases next_p hV hL hM hl E1 P1 hc with ⟨x1, x2⟩ | ⟨x1, m4, y1, y2, y3, y4, y5, y6, y7, y8⟩
  · unfold f7_buyWith; rw [if_neg x1]; exact x2 _
  · have t4 := y1.tx
    refine y8 (AdvP.mk0 y7.1 y7.2.1 (hL.1.2.2.2.1.fr t4) (AdvQ.manage (Or.inr rfl) (fun _ => by rw [y7.1, y5]; exact (hL.ix E1).fr t4))) _ ?_
    have b4 := And.intro (y6.1.trans hb.1) (y6.2.1.trans hb.2)
    have a2 : f12_advance m4 d = if 0 ≤ (f7_valueOfPart VA M P 1 d).1 then f12_finish (f12_buyFuel m4 (m4 0 0 57) (mnI (f7_valueOfPart VA M P 1 d).1 (m4 5 0 (m4 0 0 57)))).2 (f12_buyFuel m4 (m4 0 0 57) (mnI (f7_valueOfPart VA M P 1 d).1 (m4 5 0 (m4 0 0 57)))).1 else u3 m4 0 0 63 6 := by
      rw [adv_manage y7.2.1 ho]; unfold f12_manage; simp only [bnd_e, jn, y7.2.1]
      rw [if_neg (by decide), if_neg (by decide), if_neg (by rw [y4, l33]; decide), if_pos trivial, y2]
      by_cases c1 : 0 ≤ (f7_valueOfPart VA M P 1 d).1
      · rw [if_pos c1, if_pos c1]
        by_cases c2 : m4 5 0 (m4 0 0 57) ≤ (f7_valueOfPart VA M P 1 d).1
        · have e : mnI (f7_valueOfPart VA M P 1 d).1 (m4 5 0 (m4 0 0 57)) = m4 5 0 (m4 0 0 57) := by
            unfold mnI
            by_cases c3 : m4 5 0 (m4 0 0 57) < (f7_valueOfPart VA M P 1 d).1
            · rw [if_pos c3]
            · rw [if_neg c3, i32eq]; simp only [i32lt, i32le] at c2 c3; omega
          rw [if_pos c2, e]
        · have e : mnI (f7_valueOfPart VA M P 1 d).1 (m4 5 0 (m4 0 0 57)) = (f7_valueOfPart VA M P 1 d).1 := by
            unfold mnI; rw [if_neg (by simp only [i32lt, i32le] at c2 ⊢; omega)]
          rw [if_neg c2, e]
      · rw [if_neg c1, if_neg c1]
    rw [a2]
    unfold f7_buyWith
    rw [if_pos x1]
    by_cases c1 : 0 ≤ (f7_valueOfPart VA M P 1 d).1
    · rw [if_pos c1, if_pos c1]
      simp only [bnd_e]
      have er : f5_rationsOf ((f7_valueOfPart VA M P 1 d).2 5) ((f7_valueOfPart VA M P 1 d).2 7 0 0 7) = m4 5 0 (m4 0 0 57) := by
        rw [y1.m7]; exact (y1.1.2.2.1.1 _ y1.ok.cmp).2.1
      rw [er, y1.m7]
      have bc := buyFuel_c (many := mnI (f7_valueOfPart VA M P 1 d).1 (m4 5 0 (m4 0 0 57))) y1.1.2.2.1 y1.ok.cmp
      rw [bc.1]
      exact fin_c (y1.purse (fun g a b c => buyFuel_g m4 _ _ a b c) (okT_buyFuel' y1.ok _ _) bc.2) b4
    · rw [if_neg c1, if_neg c1]; exact err_c y1 (by decide)
end OPS
