/-! ROWS: do, let, while -/
section OPS
variable {t x8 : Cm} {E : Int32 → Int32 → Prop} {L : Int} {w : Int32} {VA : Wm → Int32 → Int32 → Int32 × Wm} {M0 M : Wm} {m0 m1 : Cm} {d s P first : Int32}
/-- an error leaves the names to be whatever they are -/
theorem PostA.err2 {x y : Int32} {M' : Wm} {mA : Cm} (h : PostA t x8 E L w M0 m0 d (x, M') mA) (ht : ¬ M' 7 0 0 10 = 0) (n : Cm) : PostA t x8 E L w M0 m0 d (y, uW M' 2 n) mA := by
  obtain ⟨m', h1, h2, h3, h4, h5⟩ := h
  exact ⟨m', h1, h2, h3, fun z => absurd z ht, h5⟩
theorem PostA.err0 {x y : Int32} {M' : Wm} {mA : Cm} (h : PostA t x8 E L w M0 m0 d (x, M') mA) (ht : ¬ M' 7 0 0 10 = 0) : PostA t x8 E L w M0 m0 d (y, M') mA := by
  obtain ⟨m', h1, h2, h3, h4, h5⟩ := h
  exact ⟨m', h1, h2, h3, fun z => absurd z ht, h5⟩
theorem adv_go {m : Cm} {op : Int32} (h : m 32 0 d = op) (ho : op = 14 ∨ op = 15) : f12_advance m d = f12_goThrough m d := by
  rw [adv_d h]
  rcases ho with z | z <;> subst z <;> rfl
theorem go_e {m : Cm} {op : Int32} (h : m 32 0 d = op) (h0 : ¬ m 33 0 d = 0) (h1 : op = 15 → ¬ m 33 0 d = 1) : f12_goThrough m d = if f12_following m (m 31 0 d) (m 34 0 d) = -1 then f12_finish (u3 m 0 0 49 (m 40 0 d)) (m 0 0 62) else f12_valueNext m d (f12_following m (m 31 0 d) (m 34 0 d)) := by
  unfold f12_goThrough
  simp only [jn, bnd, h]
  by_cases c : op = 15
  · rw [if_pos c, if_neg h0]
    simp only [if_true]
    rw [if_neg (h1 c)]
  · rw [if_neg c, if_neg h0]
    simp only [Bool.false_eq_true, if_false]
theorem AdvQ.go {m : Cm} {op : Int32} (ho : op = 14 ∨ op = 15) (h1 : op = 15 → Ix12 m (m 31 0 d) (m 35 0 d)) (h2 : ¬ m 33 0 d = 0 → Ix12 m (m 31 0 d) (m 34 0 d)) (h3 : (m 0 0 49).toInt < 100) (h32 : m 32 0 d = op) : AdvQ m d op := by
  have ho' : 14 ≤ op.toInt ∧ op.toInt ≤ 15 := by rcases ho with z | z <;> subst z <;> decide
  exact ⟨fun h => absurd h (by omega), fun h => absurd h.2 (by omega), fun h => absurd h (by omega), fun _ => ⟨fun z => h1 (h32.symm.trans z), h2, h3⟩, fun h => absurd h.1 (by omega), fun h => absurd h.1 (by omega), fun h => absurd h (by omega), fun h => absurd h (by omega), fun h => absurd h.1 (by omega)⟩
theorem Mid.top (h : Mid t x8 E L w M0 m0 d M m1) : (m1 0 0 49).toInt < 100 := by
  have := h.2.1.1
  rw [← this.1]; have := this.2.2.2.2.1; omega
theorem stp_inc {x : Int32} (h0 : 0 ≤ x.toInt) (h1 : x.toInt ≤ 300) : (x + 1).toInt = x.toInt + 1 ∧ ¬ x + 1 = 0 := by
  have e : (x + 1).toInt = x.toInt + 1 := inc_t h0 (by omega)
  exact ⟨e, fun z => by rw [z] at e; rw [t32_0] at e; omega⟩
/-- the values of a row, from one on -/
theorem row_c {op T c bs : Int32} {G : Int32 × Wm → Int32 × Wm} (hV : SimV t x8 E L w VA (d + 1)) (h0 : H0 VA) (hL : LsC t E m0 s P first) (ho : op = 14 ∨ op = 15) (hfx : op = 15 → Ix12 m0 s first)
    (herr : ∀ (x : Int32) (M' : Wm) (mA : Cm), PostA t x8 E L w M0 m0 d (x, M') mA → ¬ M' 7 0 0 10 = 0 → PostA t x8 E L w M0 m0 d (G (x, M')) mA)
    (hend : ∀ (M' : Wm) (m4 : Cm), Mid t x8 E L w M0 m0 d M' m4 → LvI m4 d s op first → m4 40 0 d = T → M' 2 0 0 2 = c → M' 2 0 0 3 = bs → PostA t x8 E L w M0 m0 d (G (m4 0 0 62, M')) (f12_finish (u3 m4 0 0 49 T) (m4 0 0 62))) (hc : c.toInt ≤ 3 * d.toInt + 3) :
    ∀ (n k : Nat) (M : Wm) (m1 : Cm) (i idx last : Int32), CN12 m0 s idx = n → 1 ≤ n → E s idx → 0 ≤ i.toInt → i.toInt + n = (f9_partsOf t P).toInt → n < k → Mid t x8 E L w M0 m0 d M m1 → LvI m1 d s op first → 0 ≤ (m1 33 0 d).toInt → (m1 33 0 d).toInt + n ≤ 300 → (op = 15 → 1 ≤ (m1 33 0 d).toInt) → m1 40 0 d = T → M 2 0 0 2 = c → M 2 0 0 3 = bs → PostA t x8 E L w M0 m0 d (G (f7_valueOfRow_lp17 VA P d k (i, Pl s idx, last, M))) (f12_valueNext m1 d idx) := by
  intro n
  induction n with
  | zero => intro k M m1 i idx last _ h; omega
  | succ n ih =>
    intro k M m1 i idx last hcn _ hE hi hp hk hM hl hs0 hs1 hs2 hT hM2 hM3
    cases k with
    | zero => omega
    | succ k =>
      have t1 := hM.tx
      have hI : Ix12 m0 s idx := hL.ix hE
      have hS := CN12_s hL.1.2.2.2.2 hL.1.1 hL.1.2.2.2.1 hI
      have hEn := (hL.1.2.2.1.2 idx hE)
      rw [f7_valueOfRow_lp17_s]
      simp only [bnd]
      have e9 : f9_partsOf (M 9) P = f9_partsOf t P := by rw [hM.m9]
      rw [if_neg (show ¬ f9_partsOf (M 9) P ≤ i by rw [e9]; simp only [i32le]; omega), if_pos hM.2.2.1.1]
      have hV' := hV
      rcases next_c hV hM hl.1 hE hL.1.1 (by rw [faultOf_fr t1]; exact hL.1.2.1) (by rw [hM2]; exact hc) with ⟨x1, x2⟩ | ⟨x1, m4, y1, y2, y3, y4, y5, y6, y7, y8⟩
      · have fall : ∀ (k : Nat) (y : Int32 × Int32 × Int32 × Wm), y.2.2.2 = (VA M (Pl s idx) (d + 1)).2 → 1 ≤ k → ∃ v, f7_valueOfRow_lp17 VA P d k y = (v, (VA M (Pl s idx) (d + 1)).2) := by
          intro k y hy hk
          cases k with
          | zero => omega
          | succ k =>
            rw [f7_valueOfRow_lp17_s]
            simp only [bnd]
            rw [hy]
            by_cases c1 : f9_partsOf ((VA M (Pl s idx) (d + 1)).2 9) P ≤ y.1
            · rw [if_pos c1]; exact ⟨_, rfl⟩
            · rw [if_neg c1, if_neg x1]; exact ⟨_, rfl⟩
        obtain ⟨v, hv⟩ := fall k (i + 1, f9_nextOf ((VA M (Pl s idx) (d + 1)).2 9) (Pl s idx), (VA M (Pl s idx) (d + 1)).1, (VA M (Pl s idx) (d + 1)).2) rfl (by omega)
        rw [hv]
        exact herr _ _ _ (x2 v) x1
      · have t4 := y1.tx
        have l4 := hl.k y3
        obtain ⟨q1, q2⟩ := stp_inc hs0 (by omega)
        have s4 : (m4 33 0 d).toInt = (m1 33 0 d).toInt + 1 := by rw [y4]; exact q1
        have n4 : ¬ m4 33 0 d = 0 := by rw [y4]; exact q2
        have n4' : op = 15 → ¬ m4 33 0 d = 1 := fun z z' => by
          have := hs2 z
          rw [z', t32_1] at s4; omega
        have T4 : m4 40 0 d = T := (y3.1 40 (by decide) (by decide) (by decide) (by decide) (by decide)).trans hT
        have f4 : f12_following m4 (m4 31 0 d) (m4 34 0 d) = f12_following m0 s idx := by rw [l4.1, y5, following_fr t4]
        refine y8 (AdvP.mk0 l4.1 l4.2.1 (hL.1.2.2.2.1.fr t4) (AdvQ.go ho (fun z => by rw [l4.1, l4.2.2]; exact (hfx z).fr t4) (fun _ => by rw [l4.1, y5]; exact hI.fr t4) y1.top l4.2.1)) _ ?_
        rw [adv_go l4.2.1 ho, go_e l4.2.1 n4 n4', f4, T4]
        have en : f9_nextOf ((VA M (Pl s idx) (d + 1)).2 9) (Pl s idx) = Px s (f12_following m0 s idx) := by
          rw [y1.m9, next_e hL.1.1 (hI.le hL.1.2.2.2.2 hL.1.1).1 (hI.le hL.1.2.2.2.2 hL.1.1).2]; exact hEn.2.2.1
        rw [en]
        have hi1 : (i + 1).toInt = i.toInt + 1 := inc_t hi (by have := (i32rng (f9_partsOf t P)).2; omega)
        have c4 : (VA M (Pl s idx) (d + 1)).2 2 0 0 2 = c := y6.1.trans hM2
        have b4 : (VA M (Pl s idx) (d + 1)).2 2 0 0 3 = bs := y6.2.1.trans hM3
        by_cases cf : f12_following m0 s idx = -1
        · rw [if_pos cf, cf, Px_m]
          have hn0 : n = 0 := by rw [cf, CN12_none] at hS; omega
          cases k with
          | zero => omega
          | succ k =>
            rw [f7_valueOfRow_lp17_s]
            simp only [bnd]
            rw [if_pos (show f9_partsOf ((VA M (Pl s idx) (d + 1)).2 9) P ≤ i + 1 by rw [y1.m9]; simp only [i32le]; omega), ← y2]
            exact hend _ _ y1 l4 T4 c4 b4
        · rw [if_neg cf, Px_e cf]
          have hE2 := hEn.2.1.resolve_left cf
          have hpos : 1 ≤ n := by
            have := CN12_s hL.1.2.2.2.2 hL.1.1 hL.1.2.2.2.1 (hL.ix hE2); omega
          exact ih k _ m4 (i + 1) _ _ (by omega) hpos hE2 (by omega) (by omega) (by omega) y1 l4 (by omega) (by omega) (fun z => by have := hs2 z; omega) T4 c4 b4
end OPS
