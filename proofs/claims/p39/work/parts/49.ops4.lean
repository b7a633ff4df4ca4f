/-! do, let, while -/
/-- changes of names alone -/
def ng (g : Nat) : Bool := g == 0 || g == 47 || g == 48 || (decide (52 ≤ g) && decide (g ≤ 56))
def nsl (k : Int32) : Bool := k == 48 || k == 49 || k == 50
def NO (m m' : Cm) : Prop := (∀ g : Nat, ng g = false → m' g = m g) ∧ ∀ k : Int32, nsl k = false → m' 0 0 k = m 0 0 k
theorem NO.refl (m : Cm) : NO m m := ⟨fun _ _ => rfl, fun _ _ => rfl⟩
theorem NO.trans {a b c : Cm} (h : NO a b) (k : NO b c) : NO a c := ⟨fun g e => (k.1 g e).trans (h.1 g e), fun j e => (k.2 j e).trans (h.2 j e)⟩
theorem NO.g (m : Cm) {g : Nat} (i j x : Int32) (hg : ng g = true) (h0 : ¬ g = 0) : NO m (u3 m g i j x) :=
  ⟨fun q e => u3_ne _ _ _ (fun z => by rw [z, hg] at e; cases e), fun k _ => by rw [u3_ne _ _ _ (fun z => h0 z.symm)]⟩
theorem NO.s (m : Cm) {k : Int32} (x : Int32) (hk : nsl k = true) : NO m (u3 m 0 0 k x) :=
  ⟨fun q e => u3_ne _ _ _ (fun z => by rw [z] at e; cases e), fun j e => u3_s (fun z => by rw [z, hk] at e; cases e)⟩
theorem NO.bind (m : Cm) (x v : Int32) : NO m (f12_bind m x v) := by
  unfold f12_bind
  simp only [bnd]
  exact ((NO.g m 0 _ _ rfl (by decide)).trans (NO.g _ 0 _ _ rfl (by decide))).trans (NO.s _ _ rfl)
section OPS
variable {t x8 : Cm} {E : Int32 → Int32 → Prop} {L : Int} {w : Int32} {VA : Wm → Int32 → Int32 → Int32 × Wm} {M0 M : Wm} {m0 m1 : Cm} {d s P first : Int32}
theorem WR.no {M : Wm} {m m' : Cm} (h : WR t x8 E L w M m) (k : NO m m') (hk : Ok12 m') (n' : Cm) : WR t x8 E L w (uW M 2 n') m' := by
  obtain ⟨h1, h2, h3, ⟨h4, h5, h6⟩, h7, h8, h9, h10⟩ := h
  have e := k.1; have f := k.2
  refine ⟨h1, h2.fr ⟨e 2 rfl, e 3 rfl⟩, RelQ.fr (show RelQ (M 5) m from h3) (e 5 rfl) (e 6 rfl) (e 7 rfl) (e 8 rfl) (e 9 rfl) (f 9 rfl), ⟨?_, h5, h6⟩, RelOr.fr (show RelOr (M 4) m w (M 7 0 0 9) from h7) (f 11 rfl) (f 10 rfl) (e 13 rfl) (e 14 rfl) (e 15 rfl) (e 16 rfl) (e 17 rfl) (e 18 rfl) (e 19 rfl) (e 20 rfl) (e 21 rfl), ?_, hk, h10.fr (e 28 rfl) (e 29 rfl) (e 30 rfl)⟩
  · show RelBk (M 1) m'
    unfold RelBk RelMv RelS at h4 ⊢
    rw [f 21 rfl, e 23 rfl, e 24 rfl, e 25 rfl, e 26 rfl, e 27 rfl, e 4 rfl]; exact h4
  · show RunR (M 7) m' w
    unfold RunR at h8 ⊢
    rw [f 56 rfl, f 11 rfl, f 57 rfl, e 16 rfl, f 58 rfl, f 10 rfl]; exact h8
theorem Mid.no {m' n' : Cm} (hM : Mid t x8 E L w M0 m0 d M m1) (k : NO m1 m') (hk : Ok12 m') (hN : NR t E (uW M 2 n') m') : Mid t x8 E L w M0 m0 d (uW M 2 n') m' := by
  obtain ⟨a1, a2, a3, a4, a5, a6, a7⟩ := hM
  refine ⟨a1.no k hk n', hN, ⟨a3.1, (k.2 63 rfl).trans a3.2⟩, ⟨(k.2 59 rfl).trans a4.1, (k.2 45 rfl).trans a4.2⟩, ⟨a5.1, a5.2.1, ?_, a5.2.2.2⟩, a6.trans (fun g h1 h2 j _ => ?_), a7⟩
  · unfold HsW; rw [k.1 17 rfl, k.1 18 rfl, k.1 16 rfl, k.1 2 rfl, k.1 3 rfl]; exact a5.2.2.1
  · rw [k.1 g (by
      unfold ng
      have q0 : (g == 0) = false := by simp; omega
      have q1 : (g == 47) = false := by simp; omega
      have q2 : (g == 48) = false := by simp; omega
      have q3 : decide (52 ≤ g) = false := by simp; omega
      rw [q0, q1, q2, q3]; rfl)]
theorem RelFn.fr {n n' m m' : Cm} (h : RelFn t E n m) (a : n' 0 0 6 = n 0 0 6) (b : n' 5 = n 5) (c : n' 6 = n 6) (e0 : m' 0 0 50 = m 0 0 50) (e2 : m' 2 = m 2 ∧ m' 3 = m 3) (e52 : m' 52 = m 52) (e53 : m' 53 = m 53) (e54 : m' 54 = m 54) (e55 : m' 55 = m 55) (e56 : m' 56 = m 56) : RelFn t E n' m' := by
  unfold RelFn FnD at h ⊢
  simp only [faultOf_fr e2]
  rw [a, b, c, e0, e52, e53, e54, e55, e56]; exact h
theorem f2_bind_e {n : Cm} {x v : Int32} (h : (n 0 0 2).toInt < 90) : f2_bind n x v = u3 (u3 (u3 n 1 0 (n 0 0 2) x) 2 0 (n 0 0 2) v) 0 0 2 (n 0 0 2 + 1) := by
  unfold f2_bind
  rw [if_neg (by simp only [i32le]; rw [show (90 : Int32).toInt = 90 by decide]; omega)]; rfl
/-- a name is bound in both -/
theorem Mid.bind {x v : Int32} (hM : Mid t x8 E L w M0 m0 d M m1) (hc : (M 2 0 0 2).toInt < 90) : Mid t x8 E L w M0 m0 d (uW M 2 (f2_bind (M 2) x v)) (f12_bind m1 x v) := by
  have hN := hM.2.1
  have ok : Ok12 (f12_bind m1 x v) := (okT_f12_bind (m0 := m1) ⟨hM.ok, rfl, rfl⟩ x v hM.top).1
  refine hM.no (NO.bind m1 x v) ok ⟨?_, ?_⟩
  · show RelB2 (f2_bind (M 2) x v) _
    exact hN.1.bind hc
  · show RelFn t E (f2_bind (M 2) x v) _
    rw [f2_bind_e hc]
    exact hN.2.fr rfl rfl rfl rfl ⟨rfl, rfl⟩ rfl rfl rfl rfl rfl
/-- the pile's top as it was -/
theorem Mid.setTop {n' : Cm} {T : Int32} (hM : Mid t x8 E L w M0 m0 d M m1) (hn2 : n' 0 0 2 = T) (hn3 : n' 0 0 3 = M 2 0 0 3) (h0 : (M 2 0 0 3).toInt ≤ T.toInt) (hT : T.toInt ≤ (M 2 0 0 2).toInt) (e1 : n' 1 = M 2 1) (e2 : n' 2 = M 2 2) (e6 : n' 0 0 6 = M 2 0 0 6) (e5 : n' 5 = M 2 5) (e6' : n' 6 = M 2 6) : Mid t x8 E L w M0 m0 d (uW M 2 n') (u3 m1 0 0 49 T) := by
  have hN := hM.2.1
  obtain ⟨a, b, c, e, f, g⟩ := hN.1
  have ok : Ok12 (u3 m1 0 0 49 T) := (okT_s49 (m0 := m1) ⟨hM.ok, rfl, rfl⟩ ⟨by omega, by omega⟩).1
  refine hM.no (NO.s m1 T rfl) ok ⟨?_, ?_⟩
  · show RelB2 n' _
    refine ⟨hn2, by rw [hn3]; exact b, by rw [hn3]; exact c, by rw [hn3, hn2]; exact h0, by rw [hn2]; omega, fun j h1 h2 => ?_⟩
    rw [e1, e2]
    exact g j h1 (by rw [hn2] at h2; omega)
  · show RelFn t E n' _
    exact hN.2.fr e6 e5 e6' rfl ⟨rfl, rfl⟩ rfl rfl rfl rfl rfl
theorem uW_same (M : Wm) (k : Nat) : uW M k (M k) = M := (uW_self M k).symm
theorem do_c (hV : SimV t x8 E L w VA (d + 1)) (h0 : H0 VA) (hL : LsC t E m0 s P first) (hn : 1 ≤ CN12 m0 s first) (hM : Mid t x8 E L w M0 m0 d M m1) (hl : LvI m1 d s 14 first) (l33 : m1 33 0 d = 0) (hc : (M 2 0 0 2).toInt ≤ 3 * d.toInt + 3) (hb : M 2 0 0 2 = M0 2 0 0 2 ∧ M 2 0 0 3 = M0 2 0 0 3) :
    PostA t x8 E L w M0 m0 d (f7_valueOfRow VA M P 1 d) (f12_advance m1 d) := by
  have E1 : E s first := hL.e 0 (by omega)
  have P1 : f9_partOf t P 1 = Pl s first := hL.p 0 (by omega) 1 (by decide)
  have hlt := CN12_lt hL.1.2.2.2.2 hL.1.1 hL.1.2.2.2.1 (hL.2.2.2.nx hL.1.2.2.1)
  have ok2 : Ok12 (u3 m1 40 0 d (m1 0 0 49)) := (okT_g40 (m0 := m1) ⟨hM.ok, rfl, rfl⟩ ⟨hM.ok.t0, hM.ok.t1⟩).1
  have a1 : f12_advance m1 d = f12_valueNext (u3 m1 40 0 d (m1 0 0 49)) d first := by
    rw [adv_go hl.2.1 (Or.inl rfl)]
    unfold f12_goThrough
    simp only [jn, bnd, hl.2.1]
    rw [if_neg (by decide), if_pos l33]
    simp only [Bool.false_eq_true, if_false]
    rw [hl.2.2]
  rw [a1]
  unfold f7_valueOfRow
  simp only [bnd]
  rw [hM.m9, P1]
  have M2 := hM.lv (m1 0 0 49) (g := 40) rfl (by decide) (by decide) ok2
  have l2 : LvI (u3 m1 40 0 d (m1 0 0 49)) d s 14 first := ⟨by rw [u3_ne _ _ _ (by decide)]; exact hl.1, by rw [u3_ne _ _ _ (by decide)]; exact hl.2.1, by rw [u3_ne _ _ _ (by decide)]; exact hl.2.2⟩
  have e33 : (u3 m1 40 0 d (m1 0 0 49)) 33 0 d = 0 := by rw [u3_ne _ _ _ (by decide)]; exact l33
  have top : m1 0 0 49 = M 2 0 0 2 := hM.2.1.1.1.symm
  refine row_c (G := id) (T := m1 0 0 49) (c := M 2 0 0 2) (bs := M 2 0 0 3) hV h0 hL (Or.inl rfl) (fun z => absurd z (by decide)) (fun x M' mA h _ => h) (fun M' m4 h4 k4 kT kc kb => ?_) hc _ _ M _ 1 first 0 rfl hn E1 (by decide) ?_ ?_ M2 l2 (by rw [e33]; decide) (by rw [e33, t32_0]; omega) (fun z => absurd z (by decide)) (u3_at _ _ _ _ _) rfl rfl
  · have h5 := h4.setTop (n' := M' 2) (T := m1 0 0 49) (by rw [kc, top]) rfl (by rw [top, ← kc]; exact h4.2.1.1.2.2.2.1) (by rw [top, kc]; exact Int.le_refl _) rfl rfl rfl rfl rfl
    rw [uW_same] at h5
    exact fin_c h5 ⟨kc.trans hb.1, kb.trans hb.2⟩
  · rw [hL.2.2.1, t32_1]; omega
  · show _ < 2147483648 + 0 * _; omega
theorem let_c (hV : SimV t x8 E L w VA (d + 1)) (h0 : H0 VA) (hL : LsC t E m0 s P first) (hn : 3 ≤ CN12 m0 s first) (hnm : f12_isName m0 s first = true) (hM : Mid t x8 E L w M0 m0 d M m1) (hl : LvI m1 d s 15 first) (l33 : m1 33 0 d = 0) (hc : (M 2 0 0 2).toInt ≤ 3 * d.toInt) (hb : M 2 0 0 2 = M0 2 0 0 2 ∧ M 2 0 0 3 = M0 2 0 0 3) :
    PostA t x8 E L w M0 m0 d (f7_valueOfLet VA M P d) (f12_advance m1 d) := by
  have E1 : E s first := hL.e 0 (by omega)
  have P1 : f9_partOf t P 1 = Pl s first := hL.p 0 (by omega) 1 (by decide)
  have E2 := hL.e 1 (by omega)
  have P2 := hL.p 1 (by omega) 2 (by decide)
  have E3 := hL.e 2 (by omega)
  have P3 := hL.p 2 (by omega) 3 (by decide)
  have hd := hM.2.2.2.2.2.2.1
  have hlt := CN12_lt hL.1.2.2.2.2 hL.1.1 hL.1.2.2.2.1 (hL.2.2.2.nx hL.1.2.2.1)
  have hle := (hL.ix E1).le hL.1.2.2.2.2 hL.1.1
  have cn1 := CN12_s hL.1.2.2.2.2 hL.1.1 hL.1.2.2.2.1 (hL.ix E1)
  have cn2 := CN12_s hL.1.2.2.2.2 hL.1.1 hL.1.2.2.2.1 (hL.ix E2)
  have f2 := hL.e2 (by omega)
  have f3 := hL.e3 (by omega)
  rw [f2] at cn2 E2 P2
  have letter : f12_isLetter (f12_signAt m0 s first) = true := by
    unfold f12_isName at hnm
    rw [if_neg (hL.ix E1).ne] at hnm
    simp only [bnd] at hnm
    by_cases z : f12_isLetter (f12_signAt m0 s first) = true
    · exact z
    · rw [if_neg z] at hnm; cases hnm
  have nm : f9_contentOf t (Pl s first) = f12_nameAt m0 s first := by
    rw [cont_e hL.1.1 hle.1 hle.2]
    exact ((hL.1.2.2.1.2 first E1).2.2.2.2.1 letter).2
  have ok2 : Ok12 (u3 m1 40 0 d (m1 0 0 49)) := (okT_g40 (m0 := m1) ⟨hM.ok, rfl, rfl⟩ ⟨hM.ok.t0, hM.ok.t1⟩).1
  have t2 : (u3 m1 40 0 d (m1 0 0 49)) 2 = m0 2 ∧ (u3 m1 40 0 d (m1 0 0 49)) 3 = m0 3 := ⟨(u3_ne _ _ _ (by decide)).trans hM.tx.1, (u3_ne _ _ _ (by decide)).trans hM.tx.2⟩
  have a1 : f12_advance m1 d = f12_valueNext (u3 m1 40 0 d (m1 0 0 49)) d (f12_following m0 s first) := by
    rw [adv_go hl.2.1 (Or.inr rfl)]
    unfold f12_goThrough
    simp only [jn, bnd, hl.2.1]
    rw [if_pos trivial, if_pos l33]
    simp only [if_true]
    rw [hl.1, hl.2.2, following_fr t2]
  rw [a1]
  have M2 := hM.lv (m1 0 0 49) (g := 40) rfl (by decide) (by decide) ok2
  have l2 : LvI (u3 m1 40 0 d (m1 0 0 49)) d s 15 first := ⟨by rw [u3_ne _ _ _ (by decide)]; exact hl.1, by rw [u3_ne _ _ _ (by decide)]; exact hl.2.1, by rw [u3_ne _ _ _ (by decide)]; exact hl.2.2⟩
  have e33 : (u3 m1 40 0 d (m1 0 0 49)) 33 0 d = 0 := by rw [u3_ne _ _ _ (by decide)]; exact l33
  have cls : f7_valueOfLet VA M P d = ((f7_valueOfRow VA (uW (f7_valueOfPart VA M P 2 d).2 2 (f2_bind ((f7_valueOfPart VA M P 2 d).2 2) (f9_contentOf ((f7_valueOfPart VA M P 2 d).2 9) (f9_partOf ((f7_valueOfPart VA M P 2 d).2 9) P 1)) (f7_valueOfPart VA M P 2 d).1)) P 3 d).1, uW (f7_valueOfRow VA (uW (f7_valueOfPart VA M P 2 d).2 2 (f2_bind ((f7_valueOfPart VA M P 2 d).2 2) (f9_contentOf ((f7_valueOfPart VA M P 2 d).2 9) (f9_partOf ((f7_valueOfPart VA M P 2 d).2 9) P 1)) (f7_valueOfPart VA M P 2 d).1)) P 3 d).2 2 (f2_unbindLatest ((f7_valueOfRow VA (uW (f7_valueOfPart VA M P 2 d).2 2 (f2_bind ((f7_valueOfPart VA M P 2 d).2 2) (f9_contentOf ((f7_valueOfPart VA M P 2 d).2 9) (f9_partOf ((f7_valueOfPart VA M P 2 d).2 9) P 1)) (f7_valueOfPart VA M P 2 d).1)) P 3 d).2 2))) := rfl
  rw [cls]
  rcases next_p hV hL M2 l2 E2 P2 (by omega) with ⟨x1, x2⟩ | ⟨x1, m4, y1, y2, y3, y4, y5, y6, y7, y8⟩
  · have row0 : ∀ N : Wm, ¬ N 7 0 0 10 = 0 → ∃ v, f7_valueOfRow VA N P 3 d = (v, N) := by
      intro N hN
      unfold f7_valueOfRow
      simp only [bnd]
      have : ∀ (k : Nat) (y : Int32 × Int32 × Int32 × Wm), y.2.2.2 = N → ∃ v, f7_valueOfRow_lp17 VA P d k y = (v, N) := by
        intro k y hy
        cases k with
        | zero => exact ⟨0, by show (0, y.2.2.2) = _; rw [hy]⟩
        | succ k =>
          rw [f7_valueOfRow_lp17_s]
          simp only [bnd]
          rw [hy]
          by_cases c1 : f9_partsOf (N 9) P ≤ y.1
          · rw [if_pos c1]; exact ⟨_, rfl⟩
          · rw [if_neg c1, if_neg hN]; exact ⟨_, rfl⟩
      exact this _ _ rfl
    obtain ⟨v, hv⟩ := row0 (uW (f7_valueOfPart VA M P 2 d).2 2 (f2_bind ((f7_valueOfPart VA M P 2 d).2 2) (f9_contentOf ((f7_valueOfPart VA M P 2 d).2 9) (f9_partOf ((f7_valueOfPart VA M P 2 d).2 9) P 1)) (f7_valueOfPart VA M P 2 d).1)) x1
    rw [hv]
    have := (x2 v).err2 (y := v) x1 (f2_unbindLatest ((uW (f7_valueOfPart VA M P 2 d).2 2 (f2_bind ((f7_valueOfPart VA M P 2 d).2 2) (f9_contentOf ((f7_valueOfPart VA M P 2 d).2 9) (f9_partOf ((f7_valueOfPart VA M P 2 d).2 9) P 1)) (f7_valueOfPart VA M P 2 d).1)) 2))
    rw [uW_uW]
    exact this
  · have t4 := y1.tx
    have s4 : m4 33 0 d = 1 := by rw [y4, e33]; rfl
    refine y8 (AdvP.mk0 y7.1 y7.2.1 (hL.1.2.2.2.1.fr t4) (AdvQ.go (Or.inr rfl) (fun _ => by rw [y7.1, y7.2.2]; exact (hL.ix E1).fr t4) (fun _ => by rw [y7.1, y5]; exact (hL.ix E2).fr t4) y1.top y7.2.1)) _ ?_
    rw [y1.m9, P1, nm]
    have c4 : ((f7_valueOfPart VA M P 2 d).2 2 0 0 2).toInt < 90 := by rw [y6.1]; omega
    have B := y1.bind (x := f12_nameAt m0 s first) (v := (f7_valueOfPart VA M P 2 d).1) c4
    have bt : (f12_bind m4 (f12_nameAt m0 s first) (f7_valueOfPart VA M P 2 d).1) 2 = m0 2 ∧ (f12_bind m4 (f12_nameAt m0 s first) (f7_valueOfPart VA M P 2 d).1) 3 = m0 3 := B.tx
    have bg : ∀ g : Nat, ng g = false → f12_bind m4 (f12_nameAt m0 s first) (f7_valueOfPart VA M P 2 d).1 g = m4 g := (NO.bind _ _ _).1
    have lB : LvI (f12_bind m4 (f12_nameAt m0 s first) (f7_valueOfPart VA M P 2 d).1) d s 15 first := ⟨by rw [bg 31 rfl]; exact y7.1, by rw [bg 32 rfl]; exact y7.2.1, by rw [bg 35 rfl]; exact y7.2.2⟩
    have n3 : ¬ f12_following m0 s (f12_following m0 s first) = -1 := by rw [← f3]; exact (hL.ix E3).ne
    have a2 : f12_advance m4 d = f12_valueNext (f12_bind m4 (f12_nameAt m0 s first) (f7_valueOfPart VA M P 2 d).1) d (f12_following m0 s (f12_following m0 s first)) := by
      rw [adv_go y7.2.1 (Or.inr rfl)]
      unfold f12_goThrough
      simp only [jn, bnd, y7.2.1]
      rw [if_pos trivial, if_neg (by rw [s4]; decide)]
      simp only [if_true]
      rw [if_pos s4, y7.1, y7.2.2, y2, nameAt_fr t4]
      simp only [bg 31 rfl, bg 34 rfl, y7.1, y5, following_fr bt]
      rw [if_neg n3]
    rw [a2]
    rw [f3] at E3 P3
    have top : m1 0 0 49 = M 2 0 0 2 := hM.2.1.1.1.symm
    have T4 : m4 40 0 d = m1 0 0 49 := (y3.1 40 (by decide) (by decide) (by decide) (by decide) (by decide)).trans (u3_at _ _ _ _ _)
    have cb : (f2_bind ((f7_valueOfPart VA M P 2 d).2 2) (f12_nameAt m0 s first) (f7_valueOfPart VA M P 2 d).1) 0 0 2 = M 2 0 0 2 + 1 := by
      rw [f2_bind_e c4]
      show (f7_valueOfPart VA M P 2 d).2 2 0 0 2 + 1 = _
      rw [y6.1]
    have cb3 : (f2_bind ((f7_valueOfPart VA M P 2 d).2 2) (f12_nameAt m0 s first) (f7_valueOfPart VA M P 2 d).1) 0 0 3 = M 2 0 0 3 := by
      rw [f2_bind_e c4]
      show (f7_valueOfPart VA M P 2 d).2 2 0 0 3 = _
      exact y6.2.1
    have hbs := hM.2.1.1
    have inc : (M 2 0 0 2 + 1).toInt = (M 2 0 0 2).toInt + 1 := inc_t (by have := hbs.2.2.1; have := hbs.2.2.2.1; omega) (by omega)
    generalize hK : f2_bind ((f7_valueOfPart VA M P 2 d).2 2) (f12_nameAt m0 s first) (f7_valueOfPart VA M P 2 d).1 = nb at B cb cb3 ⊢
    have hr : f7_valueOfRow VA (uW (f7_valueOfPart VA M P 2 d).2 2 nb) P 3 d = f7_valueOfRow_lp17 VA P d (2147483648 + 0 * (P).toInt.toNat) (3, Pl s (f12_following m0 s (f12_following m0 s first)), 0, uW (f7_valueOfPart VA M P 2 d).2 2 nb) := by
      unfold f7_valueOfRow
      simp only [bnd]
      rw [show (uW (f7_valueOfPart VA M P 2 d).2 2 nb) 9 = t from y1.m9, P3]
    rw [hr]
    refine row_c (G := fun r => (r.1, uW r.2 2 (f2_unbindLatest (r.2 2)))) (T := m1 0 0 49) (c := M 2 0 0 2 + 1) (bs := M 2 0 0 3) hV h0 hL (Or.inr rfl) (fun _ => hL.ix E1) (fun x M' mA h ht => h.err2 ht _) (fun M' m5 h5 k5 kT kc kb => ?_) (by omega) (CN12 m0 s (f12_following m0 s (f12_following m0 s first))) _ _ _ 3 _ 0 rfl (by omega) E3 (by decide) ?_ ?_ B lB (by rw [bg 33 rfl, s4]; decide) (by rw [bg 33 rfl, s4, t32_1]; omega) (fun _ => by rw [bg 33 rfl, s4]; decide) (by rw [bg 40 rfl]; exact T4) cb cb3
    · have hu : f2_unbindLatest (M' 2) = u3 (M' 2) 0 0 2 (M' 2 0 0 2 - 1) := by
        unfold f2_unbindLatest
        rw [if_neg (by rw [kc, kb]; simp only [i32le]; have := hbs.2.2.2.1; omega)]; rfl
      have h6 := h5.setTop (n' := f2_unbindLatest (M' 2)) (T := m1 0 0 49) (by rw [hu, top]; show M' 2 0 0 2 - 1 = _; rw [kc, Int32.add_sub_cancel]) (by rw [hu]; rfl) (by rw [top, kb]; exact hbs.2.2.2.1) (by rw [top, kc]; omega) (by rw [hu]; rfl) (by rw [hu]; rfl) (by rw [hu]; rfl) (by rw [hu]; rfl) (by rw [hu]; rfl)
      refine fin_c h6 ⟨?_, ?_⟩
      · show f2_unbindLatest (M' 2) 0 0 2 = _
        rw [hu]; show M' 2 0 0 2 - 1 = _; rw [kc, Int32.add_sub_cancel]; exact hb.1
      · show f2_unbindLatest (M' 2) 0 0 3 = _
        rw [hu]; show M' 2 0 0 3 = _; rw [kb]; exact hb.2
    · rw [hL.2.2.1, show (3 : Int32).toInt = 3 by decide]; omega
    · show _ < 2147483648 + 0 * _
      omega
end OPS
