/-! while -/
section OPS
variable {t x8 : Cm} {E : Int32 → Int32 → Prop} {L : Int} {w : Int32} {VA : Wm → Int32 → Int32 → Int32 × Wm} {M0 M : Wm} {m0 m1 : Cm} {d s P first : Int32}
theorem adv_rep {m : Cm} (h : m 32 0 d = 13) : f12_advance m d = f12_repeat m d := by rw [adv_d h]; rfl
theorem rep_e {m : Cm} (hs : 0 < (m 33 0 d).toInt) (hn : ¬ m 34 0 d = -1) : f12_repeat m d = if m 34 0 d = m 35 0 d ∧ m 0 0 62 = 0 then f12_finish m (m 37 0 d) else if f12_following m (m 31 0 d) (m 34 0 d) = -1 then f12_valueNext (u3 m 37 0 d (m 37 0 d + 1)) d (m 35 0 d) else f12_valueNext m d (f12_following m (m 31 0 d) (m 34 0 d)) := by
  unfold f12_repeat
  simp only [jn, bnd]
  rw [if_neg hn, if_neg (by simp only [i32le, t32_0]; omega)]
  by_cases c1 : m 34 0 d = m 35 0 d
  · rw [if_pos c1]
    by_cases c2 : m 0 0 62 = 0
    · rw [if_pos c2, if_pos ⟨c1, c2⟩]
    · have cn : ¬ (m 34 0 d = m 35 0 d ∧ m 0 0 62 = 0) := fun z => c2 z.2
      rw [if_neg c2, if_neg cn]
  · have cn : ¬ (m 34 0 d = m 35 0 d ∧ m 0 0 62 = 0) := fun z => c1 z.1
    rw [if_neg c1, if_neg cn]
theorem AdvQ.rep {m : Cm} (h1 : Ix12 m (m 31 0 d) (m 35 0 d)) (h2 : Nx12 m (m 31 0 d) (m 34 0 d)) : AdvQ m d 13 :=
  ⟨fun h => absurd h (by decide), fun h => absurd h (by decide), fun _ => ⟨h1, h2⟩, fun h => absurd h (by decide), fun h => absurd h (by decide), fun h => absurd h (by decide), fun h => absurd h (by decide), fun h => absurd h (by decide), fun h => absurd h (by decide)⟩
/-- the budget that is left -/
def blft (M : Wm) : Int := (M 7 0 0 8).toInt - (M 7 0 0 9).toInt
theorem us_bl {a b : Wm} (h : Us a b) : blft b < blft a := by unfold blft; have := h.1; rw [h.2.1]; omega
theorem mid_bl (h : Mid t x8 E L w M0 m0 d M m1) : 0 ≤ blft M ∧ blft M ≤ 1000 := by
  have := h.1.2.2.2.2.2.1
  have a := this.2.2.2.2.2.1.1; have b := this.2.2.2.2.2.2.1; have c := this.2.2.2.2.2.2.2
  unfold blft; omega
theorem lt_follow {i : Int32} (hL : LsC t E m0 s P first) (hE : E s i) (hn : ¬ f12_following m0 s i = -1) : i.toInt < (f12_following m0 s i).toInt := by
  have hI := hL.ix hE
  have hle := hI.le hL.1.2.2.2.2 hL.1.1
  have h := (following_o hL.1.2.2.2.2 hL.1.1 hL.1.2.2.2.1 hI).resolve_left hn
  have e1 : (i + 1).toInt = i.toInt + 1 := inc_t hle.1 (by omega)
  have := h.1; omega
theorem row_end {N : Wm} (hN : ¬ N 7 0 0 10 = 0) (k : Nat) (y : Int32 × Int32 × Int32 × Wm) (hy : y.2.2.2 = N) : ∃ v, f7_valueOfRow_lp17 VA P d k y = (v, N) := by
  cases k with
  | zero => exact ⟨0, by show (0, y.2.2.2) = _; rw [hy]⟩
  | succ k =>
    rw [f7_valueOfRow_lp17_s]
    simp only [bnd]
    rw [hy]
    by_cases c1 : f9_partsOf (N 9) P ≤ y.1
    · rw [if_pos c1]; exact ⟨_, rfl⟩
    · rw [if_neg c1, if_neg hN]; exact ⟨_, rfl⟩
theorem wrow_c {r c bs : Int32} {S : Int} {G : Int32 × Wm → Int32 × Wm} (hV : SimV t x8 E L w VA (d + 1)) (hL : LsC t E m0 s P first) (hn1 : 1 ≤ CN12 m0 s first) (hS : S ≤ 3000)
    (herr : ∀ (x v : Int32) (M' : Wm) (mA : Cm), PostA t x8 E L w M0 m0 d (x, M') mA → ¬ M' 7 0 0 10 = 0 → PostA t x8 E L w M0 m0 d (G (v, M')) mA) (hc : c.toInt ≤ 3 * d.toInt + 3) :
    ∀ (n k : Nat) (M : Wm) (m1 : Cm) (i idx last : Int32), (hend : ∀ (M' : Wm) (m4 : Cm) (v : Int32), Mid t x8 E L w M0 m0 d M' m4 → LvI m4 d s 13 first → m4 37 0 d = r → 0 ≤ (m4 33 0 d).toInt → (m4 33 0 d).toInt + blft M' ≤ S → blft M' < blft M → M' 2 0 0 2 = c → M' 2 0 0 3 = bs → PostA t x8 E L w M0 m0 d (G (v, M')) (f12_valueNext (u3 m4 37 0 d (r + 1)) d first)) → CN12 m0 s idx = n → 1 ≤ n → E s idx → first.toInt < idx.toInt → 0 ≤ i.toInt → i.toInt + n = (f9_partsOf t P).toInt → n < k → Mid t x8 E L w M0 m0 d M m1 → LvI m1 d s 13 first → 0 ≤ (m1 33 0 d).toInt → (m1 33 0 d).toInt + blft M ≤ S → m1 37 0 d = r → M 2 0 0 2 = c → M 2 0 0 3 = bs → PostA t x8 E L w M0 m0 d (G (f7_valueOfRow_lp17 VA P d k (i, Pl s idx, last, M))) (f12_valueNext m1 d idx) := by
  intro n
  induction n with
  | zero => intro k M m1 i idx last _ _ h; omega
  | succ n ih =>
    intro k M m1 i idx last hend hcn _ hE hfi hi hp hk hM hl hs0 hs1 hT hM2 hM3
    cases k with
    | zero => omega
    | succ k =>
      have t1 := hM.tx
      have hI : Ix12 m0 s idx := hL.ix hE
      have E1 : E s first := hL.e 0 (by omega)
      have hS' := CN12_s hL.1.2.2.2.2 hL.1.1 hL.1.2.2.2.1 hI
      have hEn := (hL.1.2.2.1.2 idx hE)
      have hbl := mid_bl hM
      rw [f7_valueOfRow_lp17_s]
      simp only [bnd]
      have e9 : f9_partsOf (M 9) P = f9_partsOf t P := by rw [hM.m9]
      rw [if_neg (show ¬ f9_partsOf (M 9) P ≤ i by rw [e9]; simp only [i32le]; omega), if_pos hM.2.2.1.1]
      rcases next_c hV hM hl.1 hE hL.1.1 (by rw [faultOf_fr t1]; exact hL.1.2.1) (by rw [hM2]; exact hc) with ⟨x1, x2⟩ | ⟨x1, m4, y1, y2, y3, y4, y5, y6, y7, y8⟩
      · obtain ⟨v, hv⟩ := row_end (VA := VA) (P := P) (d := d) x1 k (i + 1, f9_nextOf ((VA M (Pl s idx) (d + 1)).2 9) (Pl s idx), (VA M (Pl s idx) (d + 1)).1, (VA M (Pl s idx) (d + 1)).2) rfl
        rw [hv]
        exact herr 0 _ _ _ (x2 0) x1
      · have t4 := y1.tx
        have l4 := hl.k y3
        have hus := us_bl y6.2.2
        have s4 : (m4 33 0 d).toInt = (m1 33 0 d).toInt + 1 := by rw [y4]; exact inc_t hs0 (by omega)
        have T4 : m4 37 0 d = r := (y3.1 37 (by decide) (by decide) (by decide) (by decide) (by decide)).trans hT
        have f4 : f12_following m4 (m4 31 0 d) (m4 34 0 d) = f12_following m0 s idx := by rw [l4.1, y5, following_fr t4]
        refine y8 (AdvP.mk0 l4.1 l4.2.1 (hL.1.2.2.2.1.fr t4) (AdvQ.rep (by rw [l4.1, l4.2.2]; exact (hL.ix E1).fr t4) (by rw [l4.1, y5]; exact Or.inr (hI.fr t4)))) _ ?_
        have nf : ¬ (m4 34 0 d = m4 35 0 d ∧ m4 0 0 62 = 0) := fun z => by
          have := z.1
          rw [y5, l4.2.2] at this
          rw [this] at hfi; omega
        rw [adv_rep l4.2.1, rep_e (by omega) (by rw [y5]; exact hI.ne), if_neg nf, f4, T4, l4.2.2]
        have en : f9_nextOf ((VA M (Pl s idx) (d + 1)).2 9) (Pl s idx) = Px s (f12_following m0 s idx) := by
          rw [y1.m9, next_e hL.1.1 (hI.le hL.1.2.2.2.2 hL.1.1).1 (hI.le hL.1.2.2.2.2 hL.1.1).2]; exact hEn.2.2.1
        rw [en]
        have hi1 : (i + 1).toInt = i.toInt + 1 := inc_t hi (by have := (i32rng (f9_partsOf t P)).2; omega)
        have c4 : (VA M (Pl s idx) (d + 1)).2 2 0 0 2 = c := y6.1.trans hM2
        have b4 : (VA M (Pl s idx) (d + 1)).2 2 0 0 3 = bs := y6.2.1.trans hM3
        by_cases cf : f12_following m0 s idx = -1
        · rw [if_pos cf, cf, Px_m]
          have hn0 : n = 0 := by rw [cf, CN12_none] at hS'; omega
          cases k with
          | zero => omega
          | succ k =>
            rw [f7_valueOfRow_lp17_s]
            simp only [bnd]
            rw [if_pos (show f9_partsOf ((VA M (Pl s idx) (d + 1)).2 9) P ≤ i + 1 by rw [y1.m9]; simp only [i32le]; omega)]
            exact hend _ _ _ y1 l4 T4 (by omega) (by omega) hus c4 b4
        · rw [if_neg cf, Px_e cf]
          have hE2 := hEn.2.1.resolve_left cf
          have hpos : 1 ≤ n := by
            have := CN12_s hL.1.2.2.2.2 hL.1.1 hL.1.2.2.2.1 (hL.ix hE2); omega
          have hlt := lt_follow hL hE cf
          exact ih k _ m4 (i + 1) _ _ (fun M' m5 v h5 k5 kr ks ks1 kb kc kbs => hend M' m5 v h5 k5 kr ks ks1 (by omega) kc kbs) (by omega) hpos hE2 (by omega) (by omega) (by omega) (by omega) y1 l4 (by omega) (by omega) T4 c4 b4
theorem while_lp {c bs : Int32} {S : Int} (hV : SimV t x8 E L w VA (d + 1)) (h0 : H0 VA) (hL : LsC t E m0 s P first) (hn : 2 ≤ CN12 m0 s first) (hS : S ≤ 3000) (hc : c.toInt ≤ 3 * d.toInt + 3) (hcb : c = M0 2 0 0 2 ∧ bs = M0 2 0 0 3) :
    ∀ (B k : Nat) (M : Wm) (m1 : Cm) (r : Int32), blft M ≤ B → B + 1 < k → 0 ≤ r.toInt → r.toInt + B ≤ 2000 → Mid t x8 E L w M0 m0 d M m1 → LvI m1 d s 13 first → 0 ≤ (m1 33 0 d).toInt → (m1 33 0 d).toInt + blft M ≤ S → m1 37 0 d = r → M 2 0 0 2 = c → M 2 0 0 3 = bs → PostA t x8 E L w M0 m0 d (f7_valueOfWhile_lp2 VA P d k (r, M)) (f12_valueNext m1 d first) := by
  have E1 : E s first := hL.e 0 (by omega)
  have P1 : f9_partOf t P 1 = Pl s first := hL.p 0 (by omega) 1 (by decide)
  have E2 := hL.e 1 (by omega)
  have P2 := hL.p 1 (by omega) 2 (by decide)
  have f2 := hL.e2 (by omega)
  have cn1 := CN12_s hL.1.2.2.2.2 hL.1.1 hL.1.2.2.2.1 (hL.ix E1)
  have hlt := CN12_lt hL.1.2.2.2.2 hL.1.1 hL.1.2.2.2.1 (hL.2.2.2.nx hL.1.2.2.1)
  rw [f2] at E2 P2
  have n2 : ¬ f12_following m0 s first = -1 := (hL.ix E2).ne
  intro B
  induction B with
  | zero =>
    intro k M m1 r hB hk hr hr2 hM hl hs0 hs1 h37 hM2 hM3
    -- no fuel is left: the first value ends the run
    have hbl := mid_bl hM
    cases k with
    | zero => omega
    | succ k =>
      rw [f7_valueOfWhile_lp2_s]
      rw [if_neg (show ¬ 1000000 ≤ r by simp only [i32le]; rw [show (1000000 : Int32).toInt = 1000000 by decide]; omega)]
      simp only [bnd]
      rcases next_p hV hL hM hl E1 P1 (by rw [hM2]; exact hc) with ⟨x1, x2⟩ | ⟨x1, m4, y1, y2, y3, y4, y5, y6, y7, y8⟩
      · have lp0 : ∃ v, f7_valueOfWhile_lp2 VA P d k (r + 1, (f7_valueOfRow VA (f7_valueOfPart VA M P 1 d).2 P 2 d).2) = (v, (f7_valueOfPart VA M P 1 d).2) := by
          obtain ⟨v, hv⟩ := row_end (VA := VA) (P := P) (d := d) x1 (2147483648 + 0 * (P).toInt.toNat) (2, f9_partOf ((f7_valueOfPart VA M P 1 d).2 9) P 2, 0, (f7_valueOfPart VA M P 1 d).2) rfl
          have hv' : f7_valueOfRow VA (f7_valueOfPart VA M P 1 d).2 P 2 d = (v, (f7_valueOfPart VA M P 1 d).2) := hv
          rw [hv']
          cases k with
          | zero => exact ⟨0, rfl⟩
          | succ k =>
            rw [f7_valueOfWhile_lp2_s]
            by_cases c1 : 1000000 ≤ (r + 1, (f7_valueOfPart VA M P 1 d).2).1
            · rw [if_pos c1]; exact ⟨_, rfl⟩
            · rw [if_neg c1]
              simp only [bnd]
              rw [vp_0 h0 x1, if_pos rfl]; exact ⟨_, rfl⟩
        by_cases c0 : (f7_valueOfPart VA M P 1 d).1 = 0
        · rw [if_pos c0]; exact x2 _
        · rw [if_neg c0]
          obtain ⟨v, hv⟩ := lp0
          rw [hv]; exact x2 v
      · have hus := us_bl y6.2.2
        have hb4 := mid_bl y1
        omega
  | succ B ih =>
    intro k M m1 r hB hk hr hr2 hM hl hs0 hs1 h37 hM2 hM3
    have hbl := mid_bl hM
    cases k with
    | zero => omega
    | succ k =>
      rw [f7_valueOfWhile_lp2_s]
      rw [if_neg (show ¬ 1000000 ≤ r by simp only [i32le]; rw [show (1000000 : Int32).toInt = 1000000 by decide]; omega)]
      simp only [bnd]
      have lp0 : ∀ (N : Wm) (q : Int32), ¬ N 7 0 0 10 = 0 → ∃ v, f7_valueOfWhile_lp2 VA P d k (q, N) = (v, N) := by
        intro N q hN
        cases k with
        | zero => exact ⟨0, rfl⟩
        | succ k =>
          rw [f7_valueOfWhile_lp2_s]
          by_cases c1 : 1000000 ≤ (q, N).1
          · rw [if_pos c1]; exact ⟨_, rfl⟩
          · rw [if_neg c1]
            simp only [bnd]
            rw [vp_0 h0 hN, if_pos rfl]; exact ⟨_, rfl⟩
      rcases next_p hV hL hM hl E1 P1 (by rw [hM2]; exact hc) with ⟨x1, x2⟩ | ⟨x1, m4, y1, y2, y3, y4, y5, y6, y7, y8⟩
      · by_cases c0 : (f7_valueOfPart VA M P 1 d).1 = 0
        · rw [if_pos c0]; exact x2 _
        · rw [if_neg c0]
          obtain ⟨v, hv⟩ := row_end (VA := VA) (P := P) (d := d) x1 (2147483648 + 0 * (P).toInt.toNat) (2, f9_partOf ((f7_valueOfPart VA M P 1 d).2 9) P 2, 0, (f7_valueOfPart VA M P 1 d).2) rfl
          have hv' : f7_valueOfRow VA (f7_valueOfPart VA M P 1 d).2 P 2 d = (v, (f7_valueOfPart VA M P 1 d).2) := hv
          rw [hv']
          obtain ⟨v2, hv2⟩ := lp0 (f7_valueOfPart VA M P 1 d).2 (r + 1) x1
          rw [hv2]; exact x2 v2
      · have hus := us_bl y6.2.2
        have hb4 := mid_bl y1
        have t4 := y1.tx
        have s4 : (m4 33 0 d).toInt = (m1 33 0 d).toInt + 1 := by rw [y4]; exact inc_t hs0 (by omega)
        have T4 : m4 37 0 d = r := (y3.1 37 (by decide) (by decide) (by decide) (by decide) (by decide)).trans h37
        have f4 : f12_following m4 (m4 31 0 d) (m4 34 0 d) = f12_following m0 s first := by rw [y7.1, y5, following_fr t4]
        refine y8 (AdvP.mk0 y7.1 y7.2.1 (hL.1.2.2.2.1.fr t4) (AdvQ.rep (by rw [y7.1, y7.2.2]; exact (hL.ix E1).fr t4) (by rw [y7.1, y5]; exact Or.inr ((hL.ix E1).fr t4)))) _ ?_
        rw [adv_rep y7.2.1, rep_e (by omega) (by rw [y5]; exact (hL.ix E1).ne), f4, T4, y7.2.2, y5, y2]
        have c4 := y6.1.trans hM2
        have b4 := y6.2.1.trans hM3
        by_cases c0 : (f7_valueOfPart VA M P 1 d).1 = 0
        · rw [if_pos c0, if_pos ⟨rfl, c0⟩]
          exact fin_c y1 ⟨c4.trans hcb.1, b4.trans hcb.2⟩
        · have cn : ¬ (first = first ∧ (f7_valueOfPart VA M P 1 d).1 = 0) := fun z => c0 z.2
          rw [if_neg c0, if_neg cn, if_neg n2]
          have hr1 : (r + 1).toInt = r.toInt + 1 := inc_t hr (by omega)
          have hrow : f7_valueOfRow VA (f7_valueOfPart VA M P 1 d).2 P 2 d = f7_valueOfRow_lp17 VA P d (2147483648 + 0 * (P).toInt.toNat) (2, Pl s (f12_following m0 s first), 0, (f7_valueOfPart VA M P 1 d).2) := by
            unfold f7_valueOfRow
            simp only [bnd]
            rw [y1.m9, P2]
          rw [hrow]
          refine wrow_c (G := fun r7 => f7_valueOfWhile_lp2 VA P d k (r + 1, r7.2)) (r := r) (c := c) (bs := bs) (S := S) hV hL (by omega) hS (fun x v M' mA h ht => ?_) hc (CN12 m0 s (f12_following m0 s first)) _ _ m4 2 _ 0 (fun M' m5 v h5 k5 kr ks ks1 kb kc kbs => ?_) rfl (by omega) E2 (lt_follow hL E1 n2) (by decide) ?_ ?_ y1 y7 (by omega) (by omega) T4 c4 b4
          · obtain ⟨v2, hv2⟩ := lp0 M' (r + 1) ht
            show PostA t x8 E L w M0 m0 d (f7_valueOfWhile_lp2 VA P d k (r + 1, M')) mA
            rw [hv2]; exact h.err0 ht
          · have ok5 : Ok12 (u3 m5 37 0 d (r + 1)) := ok12_putA h5.ok (by decide)
            have M5 := h5.lv (r + 1) (g := 37) rfl (by decide) (by decide) ok5
            refine ih k M' _ (r + 1) (by omega) (by omega) (by omega) (by omega) M5 ⟨by rw [u3_ne _ _ _ (by decide)]; exact k5.1, by rw [u3_ne _ _ _ (by decide)]; exact k5.2.1, by rw [u3_ne _ _ _ (by decide)]; exact k5.2.2⟩ (by rw [u3_ne _ _ _ (by decide)]; exact ks) (by rw [u3_ne _ _ _ (by decide)]; exact ks1) (u3_at _ _ _ _ _) kc kbs
          · rw [hL.2.2.1, show (2 : Int32).toInt = 2 by decide]; omega
          · show _ < 2147483648 + 0 * _
            omega
theorem while_c (hV : SimV t x8 E L w VA (d + 1)) (h0 : H0 VA) (hL : LsC t E m0 s P first) (hn : 2 ≤ CN12 m0 s first) (hM : Mid t x8 E L w M0 m0 d M m1) (hl : LvI m1 d s 13 first) (l33 : m1 33 0 d = 0) (l34 : m1 34 0 d = -1) (l37 : m1 37 0 d = 0) (hc : (M 2 0 0 2).toInt ≤ 3 * d.toInt + 3) (hb : M 2 0 0 2 = M0 2 0 0 2 ∧ M 2 0 0 3 = M0 2 0 0 3) :
    PostA t x8 E L w M0 m0 d (f7_valueOfWhile VA M P d) (f12_advance m1 d) := by
  have E1 : E s first := hL.e 0 (by omega)
  have a1 : f12_advance m1 d = f12_valueNext m1 d first := by
    rw [adv_rep hl.2.1]
    unfold f12_repeat
    simp only [jn, bnd]
    rw [if_pos l34, if_pos (by rw [l33]; decide), hl.2.2, if_neg (hL.ix E1).ne]
  rw [a1]
  have hbl := mid_bl hM
  unfold f7_valueOfWhile
  exact while_lp (c := M 2 0 0 2) (bs := M 2 0 0 3) (S := 3000) hV h0 hL hn (by decide) hc hb (blft M).toNat _ M m1 0 (by omega) (by show _ < 1000001 + 0 * _; omega) (by decide) (by rw [t32_0]; omega) hM hl (by rw [l33]; decide) (by rw [l33, t32_0]; omega) l37 rfl rfl
end OPS
