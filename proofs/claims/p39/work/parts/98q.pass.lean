/-! HOURS pass: in both alike -/
section REL
variable {L : Int} {M M1 : Wm} {m m1 : Cm} {p1 p2 p3 p4 w : Int32}
/-- rows that came in this hour are not due in it -/
def NewR (v : Int32) (m : Cm) : Prop := ∀ i : Int32, v.toInt ≤ i.toInt → i.toInt < (m 0 0 11).toInt → ¬ m 15 0 i = m 0 0 10
theorem RWm.hour (h : RWm L M m) (hh : (m 0 0 10).toInt < 1000) : RWm L (uW M 4 (u3 (M 4) 0 0 2 (M 4 0 0 2 + 1))) (u3 m 0 0 10 (m 0 0 10 + 1)) := by
  have hk := h.2.1.2.2.2.2.1
  obtain ⟨h1, h2, h3, h4⟩ := h
  refine ⟨h1.fr hk ⟨u3_ne _ _ _ (by decide), u3_ne _ _ _ (by decide)⟩, h2.hour hh, h3.fr (u3_s (by decide)) (u3_ne _ _ _ (by decide)) (u3_ne _ _ _ (by decide)) (u3_ne _ _ _ (by decide)), ok4_w h4 ?_⟩
  unfold ok4
  rw [u3_s (show ¬ (1 : Int32) = 2 by decide)]
  exact h4.o
theorem due_w (h : RWm L M m) (hL : L ≤ 1000000) (hw : 0 ≤ w.toInt ∧ w.toInt < (M 4 0 0 1).toInt) (h17 : m 17 0 w = 0) : (RunOk m w ∧ RWm L (f7_execute M w (M 4 4 w 3)) (f12_run m w)) ∧ (OkT m (f12_run m w) ∧ RwK w m (f12_run m w)) ∧ f12_run m w 0 0 0 = m 0 0 0 ∧ f7_execute M w (M 4 4 w 3) 12 = M 12 := by
  have r := h.row hw.1 hw.2
  have e := r.2.2.2.2 h17
  exact run_w h hL hw e (by rw [e]; exact (h.2.2.1 w hw.1 r.1.2).2 h17)
theorem lp66_tail {K : Int32 × Cm → Int32 × Cm} {v c : Int32} (hn : NewR v m) (h60 : (m 0 0 11).toInt ≤ 60) : ∀ (k : Nat) (i : Int32), v.toInt ≤ i.toInt → 0 ≤ i.toInt → i.toInt ≤ 61 → 61 - i.toInt < k → f12_pass_lp66 K k (i, c, m) = K (c, m) := by
  intro k
  induction k with
  | zero => intro i _ _ _ h; omega
  | succ k ih =>
    intro i h1 h0 h2 h3
    rw [f12_pass_lp66_s]
    simp only [bnd_e, jn_e]
    by_cases a : m 0 0 11 ≤ i
    · rw [if_pos a]
    · rw [if_neg a]
      simp only [i32le] at a
      have e1 : (i + 1).toInt = i.toInt + 1 := inc_t h0 (by omega)
      have I := ih (i + 1) (by omega) (by omega) (by omega) (by omega)
      have nd := hn i h1 (by omega)
      by_cases b : m 17 0 i = 0
      · rw [if_pos b, if_neg nd]; exact I
      · rw [if_neg b]; exact I
theorem NewR.run {v : Int32} (hn : NewR v m) (hv : v.toInt ≤ (m 0 0 11).toInt) {m' : Cm} (h : RwK w m m') (hw : (0 : Int) ≤ v.toInt) : NewR v m' := by
  obtain ⟨h1, h2, h3, h4⟩ := h
  intro i i0 i1
  rw [h2]
  by_cases c : i.toInt < (m 0 0 11).toInt
  · rw [(h3 i (by omega) c).1]; exact hn i i0 c
  · have q := (h4 i (by omega) i1).1
    intro z
    rw [z] at q
    first | exact absurd q (by omega) | exact q rfl | omega
/-- the orders of one hour, in both -/
theorem lp67_c {K1 : Int32 × Wm → (Nat × Int32) × Wm} {K2 : Int32 × Cm → Int32 × Cm} (hL : L ≤ 1000000) {v : Int32} (hv0 : 0 ≤ v.toInt) (hv1 : v.toInt ≤ 60) : ∀ (k k' : Nat) (i c : Int32) (M : Wm) (m : Cm), RWm L M m → NewR v m → v.toInt ≤ (m 0 0 11).toInt → 0 ≤ i.toInt → i.toInt ≤ v.toInt → v.toInt - i.toInt < k → 61 - i.toInt < k' → ∃ (c' : Int32) (M' : Wm) (m' : Cm), f11_pass_lp67 v K1 k (i, c, M) = K1 (c', M') ∧ f12_pass_lp66 K2 k' (i, c, m) = K2 (c', m') ∧ RWm L M' m' ∧ m' 0 0 0 = m 0 0 0 ∧ M' 12 = M 12 ∧ m' 0 0 10 = m 0 0 10 := by
  intro k
  induction k with
  | zero => intro k' i c M m _ _ _ _ _ h; omega
  | succ k ih =>
    intro k' i c M m h hn hv i0 i1 hk hk'
    have h60 : (m 0 0 11).toInt ≤ 60 := by rw [← h.2.1.2.2.1.1]; exact h.2.1.2.2.1.2.2.1.2
    rw [f11_pass_lp67_s]
    simp only [bnd_e, jn_e]
    by_cases a : v ≤ i
    · rw [if_pos a]
      simp only [i32le] at a
      refine ⟨c, M, m, rfl, lp66_tail hn h60 k' i a i0 (by omega) hk', h, rfl, rfl, rfl⟩
    · rw [if_neg a]
      simp only [i32le] at a
      obtain ⟨k', rfl⟩ : ∃ q, k' = q + 1 := ⟨k' - 1, by omega⟩
      rw [f12_pass_lp66_s]
      simp only [bnd_e, jn_e]
      have e1 : (i + 1).toInt = i.toInt + 1 := inc_t i0 (by omega)
      have eo := h.2.1.2.2.1
      have hw : 0 ≤ i.toInt ∧ i.toInt < (M 4 0 0 1).toInt := ⟨i0, by rw [eo.1]; omega⟩
      obtain ⟨r1, r2, r3, r4, r5⟩ := h.row hw.1 hw.2
      rw [if_neg (show ¬ m 0 0 11 ≤ i by simp only [i32le]; omega), r4, r3.2.2, eo.2.1]
      by_cases b : m 17 0 i = 0
      · rw [if_pos b, if_pos b]
        by_cases d : m 15 0 i = m 0 0 10
        · rw [if_pos d, if_pos d]
          obtain ⟨⟨q1, q2⟩, ⟨q3, q4⟩, q5, q6⟩ := due_w h hL hw b
          have mono := q4.1
          obtain ⟨c', M', m', x1, x2, x3, x4, x5, x6⟩ := ih k' (i + 1) (c + 1) _ _ q2 (hn.run hv q4 hv0) (by omega) (by omega) (by omega) (by omega) (by omega)
          exact ⟨c', M', m', x1, x2, x3, x4.trans q5, x5.trans q6, x6.trans q4.2.1⟩
        · rw [if_neg d, if_neg d]
          exact ih k' (i + 1) c M m h hn hv (by omega) (by omega) (by omega) (by omega)
      · rw [if_neg b, if_neg b]
        exact ih k' (i + 1) c M m h hn hv (by omega) (by omega) (by omega) (by omega)
/-- the hours, in both -/
theorem lp37_c (hL : L ≤ 1000000) {h0 : Int} (hz : 0 ≤ h0) (hB : h0 + p1.toInt ≤ 1000) (hh : p1.toInt ≤ 100) : ∀ (k k' : Nat) (i c : Int32) (M : Wm) (m : Cm), RWm L M m → (m 0 0 10).toInt = h0 + i.toInt → 0 ≤ i.toInt → i.toInt ≤ p1.toInt → p1.toInt - i.toInt < k → p1.toInt - i.toInt < k' → ∃ (c' : Int32) (M' : Wm) (m' : Cm), f11_pass_lp37 p1 k (i, c, M) = ((0, c'), M') ∧ f12_pass_lp47 p1 k' (i, c, m) = (c', m') ∧ RWm L M' m' ∧ m' 0 0 0 = m 0 0 0 ∧ M' 12 = M 12 := by
  intro k
  induction k with
  | zero => intro k' i c M m _ _ _ _ h; omega
  | succ k ih =>
    intro k' i c M m h h10 i0 i1 hk hk'
    obtain ⟨k', rfl⟩ : ∃ q, k' = q + 1 := ⟨k' - 1, by omega⟩
    rw [f11_pass_lp37_s, f12_pass_lp47_s]
    simp only [bnd_e, jn_e]
    by_cases a : p1 ≤ i
    · rw [if_pos a, if_pos a]
      exact ⟨c, M, m, rfl, rfl, h, rfl, rfl⟩
    · rw [if_neg a, if_neg a]
      simp only [i32le] at a
      have e1 : (i + 1).toInt = i.toInt + 1 := inc_t i0 (by omega)
      have h' := h.hour (by omega)
      have eo := h.2.1.2.2.1
      have ev : (M 4 0 0 1) = u3 m 0 0 10 (m 0 0 10 + 1) 0 0 11 := by rw [u3_s (by decide)]; exact eo.1
      have e10 : u3 m 0 0 10 (m 0 0 10 + 1) 0 0 10 = m 0 0 10 + 1 := u3_at _ _ _ _ _
      have e101 : (m 0 0 10 + 1).toInt = (m 0 0 10).toInt + 1 := inc_t (by omega) (by omega)
      have nr : NewR (M 4 0 0 1) (u3 m 0 0 10 (m 0 0 10 + 1)) := by
        intro j j0 j1
        rw [← ev] at j1; omega
      obtain ⟨c', M', m', x1, x2, x3, x4, x5, x6⟩ := lp67_c (K1 := fun y25 : Int32 × Wm => f11_pass_lp37 p1 k (i + 1, y25.1, y25.2)) (K2 := fun y26 : Int32 × Cm => f12_pass_lp47 p1 k' (i + 1, y26.1, y26.2)) hL eo.2.2.1.1 eo.2.2.1.2 62 62 0 c _ _ h' nr (by rw [← ev]; exact Int.le_refl _) (by decide) (by rw [t32_0]; exact eo.2.2.1.1) (by rw [t32_0]; have := eo.2.2.1.2; omega) (by decide)
      obtain ⟨c2, M2, m2, y1, y2, y3, y4, y5⟩ := ih k' (i + 1) c' M' m' x3 (by rw [x6, e10, e101]; omega) (by omega) (by omega) (by omega) (by omega)
      refine ⟨c2, M2, m2, x1.trans y1, x2.trans y2, y3, ?_, ?_⟩
      · rw [y4, x4, u3_s (by decide)]
      · rw [y5, x5, uW_ne _ _ (by decide)]
theorem pass12_e : f12_pass m p1 = (if f12_in p1 1 100 = true then if m 0 0 10 + p1 ≤ 1000 then f12_pass_lp47 p1 102 (0, 0, u3 m 0 0 0 0) else (0, u3 m 0 0 0 2) else (0, u3 m 0 0 0 1)) := by
  unfold f12_pass
  generalize f12_pass_lp47 = F
  simp only [bnd_e, jn_e]
  cases f12_in p1 1 100 with
  | false => rfl
  | true =>
    simp only [if_true]
    by_cases c : m 0 0 10 + p1 ≤ 1000
    · rw [if_pos c, if_pos c]; rfl
    · rw [if_neg c, if_neg c]; rfl
theorem pass11_e : f11_pass M p1 = (if f12_in p1 1 100 = true then if M 4 0 0 2 + p1 ≤ 1000 then f11_pass_lp37 p1 102 (0, 0, M) else ((2, 0), M) else ((1, 0), M)) := by
  unfold f11_pass
  rw [show f11_isIn p1 1 100 = f12_in p1 1 100 from rfl]
  generalize f11_pass_lp37 = F
  simp only [bnd_e, jn_e]
  cases f12_in p1 1 100 with
  | false => rfl
  | true =>
    simp only [if_true, f11_demand]
    by_cases c : 1000 < M 4 0 0 2 + p1
    · rw [if_pos c, if_neg (show ¬ M 4 0 0 2 + p1 ≤ 1000 by simp only [i32lt, i32le] at c ⊢; omega)]; rfl
    · rw [if_neg c, if_pos (show M 4 0 0 2 + p1 ≤ 1000 by simp only [i32lt, i32le] at c ⊢; omega)]; rfl
theorem R_pass (h : RW L M) (hL : L ≤ 1000000) : OpR L M (kfI 1 2) (f11_pass M p1) (fun m => f12_pass m p1) := by
  have hm : RWm L M (M 12) := h
  have e11 := pass11_e (M := M) (p1 := p1)
  have e12 := pass12_e (m := M 12) (p1 := p1)
  rw [h.o.2.1] at e11
  have h8 := hm.2.1.2.2.2.1
  by_cases c : f12_in p1 1 100 = true
  · rw [if_pos c] at e11 e12
    by_cases d : M 12 0 0 10 + p1 ≤ 1000
    · rw [if_pos d] at e11 e12
      have r2 := isIn11_t (show f11_isIn p1 1 100 = true from c)
      rw [show (1 : Int32).toInt = 1 from rfl, show (100 : Int32).toInt = 100 from rfl] at r2
      have t1000 : (1000 : Int32).toInt = 1000 := by decide
      simp only [i32le, t1000] at d
      rw [i32addn (by omega) (by omega)] at d
      have h0 : RWm L M (u3 (M 12) 0 0 0 0) := ⟨hm.1.s0 h.k 0, hm.2.1.s0 0, hm.2.2.1.s0 0, hm.2.2.2⟩
      obtain ⟨c', M', m', x1, x2, x3, x4, x5⟩ := lp37_c hL h8.1 d r2.2 102 102 0 0 M (u3 (M 12) 0 0 0 0) h0 (by rw [u3_s (by decide), t32_0]; omega) (by decide) (by rw [t32_0]; omega) (by rw [t32_0]; omega) (by rw [t32_0]; omega)
      rw [x1] at e11
      rw [x2] at e12
      refine OpR.ok e11 x5 e12 (by rw [x4, u3_at]) x3.1 (x3.2.1.mono (by omega)) x3.2.2.1 x3.2.2.2
    · rw [if_neg d] at e11 e12
      exact OpR.no (k := 2) (x := 0) h (by decide) (by decide) e11 (by rw [e12]; rfl)
  · rw [if_neg c] at e11 e12
    exact OpR.no (k := 1) (x := 0) h (by decide) (by decide) e11 (by rw [e12]; rfl)
/-- what the class' hours need -/
def PaJ (L : Int) (h0 : Int) (hs : Int32) (i : Int32) (M : Wm) : Prop := ∃ m, RWm L M m ∧ (m 0 0 10).toInt = h0 + i.toInt ∧ h0 + hs.toInt ≤ 1000 ∧ hs.toInt ≤ 100 ∧ 0 ≤ h0
theorem psJ_of (h : RW L M) (hL : L ≤ 1000000) : PsJ (PaJ L (M 12 0 0 10).toInt p1) p1 M := by
  have hm : RWm L M (M 12) := h
  have h8 := hm.2.1.2.2.2.1
  have t1000 : (1000 : Int32).toInt = 1000 := by decide
  refine ⟨fun a b => ⟨M 12, hm, by rw [t32_0]; omega, ?_, a.2, h8.1⟩, fun i N i0 i1 ⟨n, n1, n2, n3, n4, n5⟩ => ?_, fun i N ⟨n, n1, _⟩ => n1.2.1.2.2.1.2.2.1, fun i N w ⟨n, n1, n2, n3⟩ w0 w1 b c => ?_⟩
  · rw [h.o.2.1] at b
    simp only [i32le, t1000] at b
    rwa [i32addn (by omega) (by omega)] at b
  · refine ⟨_, n1.hour (by omega), ?_, n3, n4, n5⟩
    rw [u3_at, inc_t (by omega) (by omega), inc_t i0 (by omega)]; omega
  · have r := n1.row w0 w1
    rw [r.2.2.2.1] at b
    obtain ⟨⟨q1, q2⟩, ⟨q3, q4⟩, q5, q6⟩ := due_w n1 hL ⟨w0, w1⟩ b
    refine ⟨n1.exp w0 w1, ⟨_, q2, by rw [q4.2.1]; exact n2, n3⟩, ?_⟩
    rw [n1.2.1.2.2.1.1, q2.2.1.2.2.1.1]; exact q4.1
/-- what the reference's hours need -/
theorem psO_ok (h : RW L M) (hL : L ≤ 1000000) (a : 1 ≤ p1.toInt ∧ p1.toInt ≤ 100) (b : M 12 0 0 10 + p1 ≤ 1000) : PsO' p1 (u3 (M 12) 0 0 0 0) 0 := by
  have hm : RWm L M (M 12) := h
  have h8 := hm.2.1.2.2.2.1
  have t1000 : (1000 : Int32).toInt = 1000 := by decide
  simp only [i32le, t1000] at b
  rw [i32addn (by omega) (by omega)] at b
  have h0 : RWm L M (u3 (M 12) 0 0 0 0) := ⟨hm.1.s0 h.k 0, hm.2.1.s0 0, hm.2.2.1.s0 0, hm.2.2.2⟩
  refine ⟨100, PsO_of (P := fun m => ∃ M, RWm L M m) (h0 := (M 12 0 0 10).toInt) b a.2 (fun m ⟨N, n⟩ => ?_) (fun m w ⟨N, n⟩ w0 w1 c d => ?_) (fun m ⟨N, n⟩ _ c => ⟨_, n.hour c⟩) h8.1 100 _ 0 ⟨M, h0⟩ ?_ (by decide) (by rw [t32_0]; omega)⟩
  · rw [← n.2.1.2.2.1.1]; exact n.2.1.2.2.1.2.2.1.2
  · obtain ⟨⟨q1, q2⟩, ⟨q3, q4⟩, q5, q6⟩ := due_w n hL ⟨w0, by rw [n.2.1.2.2.1.1]; exact w1⟩ c
    exact ⟨q1, q3, ⟨_, q2⟩, q4.2.1⟩
  · rw [u3_s (by decide), t32_0]; omega
end REL
