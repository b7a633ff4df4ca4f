/-! TEXTS typed and erased, expressions counted: in both alike -/
section TXT
variable {t x x' m m' : Cm} {s s2 p p2 : Int32}
theorem u3_if (m : Cm) (g : Nat) (i j v k : Int32) : u3 m g i j v g i k = if k = j then v else m g i k := by
  by_cases c : k = j
  · rw [c, u3_at, if_pos rfl]
  · rw [u3_j c, if_neg c]
theorem ix_t (hs : vp_in s 8) (h0 : 0 ≤ p.toInt) (h1 : p.toInt < 120) : (s * 120 + p).toInt = 120 * s.toInt + p.toInt ∧ (120 * s + p).toInt = 120 * s.toInt + p.toInt := by
  rw [vp_in_iff] at hs
  have t120 : (120 : Int32).toInt = 120 := by decide
  have e1 : (s * 120).toInt = 120 * s.toInt := by rw [i32muln (by rw [t120]; omega) (by rw [t120]; omega), t120]; omega
  have e2 : (120 * s).toInt = 120 * s.toInt := by rw [i32muln (by rw [t120]; omega) (by rw [t120]; omega), t120]
  exact ⟨by rw [i32addn (by rw [e1]; omega) (by rw [e1]; omega), e1], by rw [i32addn (by rw [e2]; omega) (by rw [e2]; omega), e2]⟩
theorem ix_eq (hs : vp_in s 8) (hs2 : vp_in s2 8) (h0 : 0 ≤ p.toInt) (h1 : p.toInt < 120) (k0 : 0 ≤ p2.toInt) (k1 : p2.toInt < 120) : (s * 120 + p = s2 * 120 + p2 ↔ s = s2 ∧ p = p2) ∧ (120 * s + p = 120 * s2 + p2 ↔ s = s2 ∧ p = p2) := by
  obtain ⟨a, b⟩ := ix_t hs h0 h1
  obtain ⟨c, d⟩ := ix_t hs2 k0 k1
  rw [vp_in_iff] at hs hs2
  refine ⟨⟨fun z => ?_, fun z => by rw [z.1, z.2]⟩, ⟨fun z => ?_, fun z => by rw [z.1, z.2]⟩⟩
  · rw [i32eq, a, c] at z
    rw [i32eq, i32eq]; omega
  · rw [i32eq, b, d] at z
    rw [i32eq, i32eq]; omega
theorem RTx.upd (h : RTx t x m) (hk : Ok12 m) (hT : RelT x' m') (hS : SgS m' s) (h4 : x' 4 0 s = 0) (ho : ∀ s2 : Int32, vp_in s2 8 → ¬ s2 = s → TxE m m' s2 ∧ x' 4 0 s2 = x 4 0 s2 ∧ x' 3 0 s2 = x 3 0 s2) : RTx t x' m' := by
  refine ⟨hT, fun s2 hs2 => ?_, fun s2 hs2 hz => ?_⟩
  · by_cases c : s2 = s
    · rw [c]; exact hS
    · exact SgS_tx (ho s2 hs2 c).1 (h.2.1 s2 hs2)
  · by_cases c : s2 = s
    · rw [c] at hz; exact absurd h4 hz
    · obtain ⟨a, b, d⟩ := ho s2 hs2 c
      rw [b] at hz
      obtain ⟨e, f⟩ := h.2.2 s2 hs2 hz
      have ef := faultOf_tx a (hk.len s2 hs2).2
      rw [d, ef]
      exact ⟨e, fun z => TreeOk_tx hk hs2 z a (f z)⟩
theorem TxE.of (h3 : m' 3 0 s = m 3 0 s) (h2 : ∀ i : Int32, 0 ≤ i.toInt → i.toInt < (m 3 0 s).toInt → m' 2 0 (120 * s + i) = m 2 0 (120 * s + i)) : TxE m m' s := by
  refine ⟨h3, fun i h0 => ?_⟩
  unfold f12_signAt
  rw [h3]
  by_cases c : m 3 0 s ≤ i
  · rw [if_pos c, if_pos c]
  · rw [if_neg c, if_neg c]
    exact h2 i h0 (by simp only [i32le] at c; omega)
theorem ok12_g3 (h : Ok12 m) {j v : Int32} (h0 : 0 ≤ v.toInt) (h1 : v.toInt ≤ 120) : Ok12 (u3 m 3 0 j v) := by
  obtain ⟨a, b⟩ := h
  unfold Ok12 oP oM oO oF at *
  rw [u3_ne _ _ _ (show ¬ 0 = 3 by decide), u3_ne _ _ _ (show ¬ 31 = 3 by decide), u3_ne _ _ _ (show ¬ 32 = 3 by decide), u3_ne _ _ _ (show ¬ 42 = 3 by decide), u3_ne _ _ _ (show ¬ 44 = 3 by decide), u3_ne _ _ _ (show ¬ 41 = 3 by decide), u3_ne _ _ _ (show ¬ 39 = 3 by decide), u3_ne _ _ _ (show ¬ 40 = 3 by decide), u3_ne _ _ _ (show ¬ 23 = 3 by decide), u3_ne _ _ _ (show ¬ 24 = 3 by decide), u3_ne _ _ _ (show ¬ 25 = 3 by decide), u3_ne _ _ _ (show ¬ 13 = 3 by decide), u3_ne _ _ _ (show ¬ 14 = 3 by decide), u3_ne _ _ _ (show ¬ 53 = 3 by decide), u3_ne _ _ _ (show ¬ 55 = 3 by decide)]
  refine ⟨fun k hk => ?_, b⟩
  rw [u3_if]
  by_cases c : k = j
  · rw [if_pos c]; exact ⟨h0, h1⟩
  · rw [if_neg c]; exact a k hk
theorem ok12_g2 (h : Ok12 m) {j v : Int32} : Ok12 (u3 m 2 0 j v) := by
  obtain ⟨a, b⟩ := h
  unfold Ok12 oP oM oO oF at *
  rw [u3_ne _ _ _ (show ¬ 3 = 2 by decide), u3_ne _ _ _ (show ¬ 0 = 2 by decide), u3_ne _ _ _ (show ¬ 31 = 2 by decide), u3_ne _ _ _ (show ¬ 32 = 2 by decide), u3_ne _ _ _ (show ¬ 42 = 2 by decide), u3_ne _ _ _ (show ¬ 44 = 2 by decide), u3_ne _ _ _ (show ¬ 41 = 2 by decide), u3_ne _ _ _ (show ¬ 39 = 2 by decide), u3_ne _ _ _ (show ¬ 40 = 2 by decide), u3_ne _ _ _ (show ¬ 23 = 2 by decide), u3_ne _ _ _ (show ¬ 24 = 2 by decide), u3_ne _ _ _ (show ¬ 25 = 2 by decide), u3_ne _ _ _ (show ¬ 13 = 2 by decide), u3_ne _ _ _ (show ¬ 14 = 2 by decide), u3_ne _ _ _ (show ¬ 53 = 2 by decide), u3_ne _ _ _ (show ¬ 55 = 2 by decide)]
  exact ⟨a, b⟩
/-- a sign typed -/
def typB (x : Cm) (s n p2 : Int32) : Cm := u3 (u3 (u3 x 1 0 (s * 120 + n) p2) 2 0 s (n + 1)) 4 0 s 0
def typM (m : Cm) (s n p2 : Int32) : Cm := u3 (u3 m 2 0 (120 * s + n) p2) 3 0 s (n + 1)
theorem typB_c : typB x s p p2 1 0 = fI (x 1 0) (s * 120 + p) p2 ∧ (∀ k : Int32, typB x s p p2 2 0 k = if k = s then p + 1 else x 2 0 k) ∧ typB x s p p2 3 = x 3 ∧ ∀ k : Int32, typB x s p p2 4 0 k = if k = s then 0 else x 4 0 k := by
  unfold typB
  refine ⟨?_, fun k => ?_, ?_, fun k => ?_⟩
  · rw [u3_ne _ _ _ (show ¬ 1 = 4 by decide), u3_ne _ _ _ (show ¬ 1 = 2 by decide)]; funext k; rw [u3_if]; rfl
  · rw [u3_ne _ _ _ (show ¬ 2 = 4 by decide), u3_if, u3_ne _ _ _ (show ¬ 2 = 1 by decide)]
  · rw [u3_ne _ _ _ (show ¬ 3 = 4 by decide), u3_ne _ _ _ (show ¬ 3 = 2 by decide), u3_ne _ _ _ (show ¬ 3 = 1 by decide)]
  · rw [u3_if, u3_ne _ _ _ (show ¬ 4 = 2 by decide), u3_ne _ _ _ (show ¬ 4 = 1 by decide)]
theorem typM_c : (∀ k : Int32, typM m s p p2 2 0 k = if k = 120 * s + p then p2 else m 2 0 k) ∧ (∀ k : Int32, typM m s p p2 3 0 k = if k = s then p + 1 else m 3 0 k) ∧ ∀ g : Nat, ¬ g = 2 → ¬ g = 3 → typM m s p p2 g = m g := by
  unfold typM
  refine ⟨fun k => ?_, fun k => ?_, fun g a b => ?_⟩
  · rw [u3_ne _ _ _ (show ¬ 2 = 3 by decide), u3_if]
  · rw [u3_if, u3_ne _ _ _ (show ¬ 3 = 2 by decide)]
  · rw [u3_ne _ _ _ b, u3_ne _ _ _ a]
theorem RTx.typ (h : RTx t x m) (hk : Ok12 m) (hs : vp_in s 8) (hn : (m 3 0 s).toInt < 120) (hg : sgOk p2) : RTx t (typB x s (m 3 0 s) p2) (typM m s (m 3 0 s) p2) ∧ Ok12 (typM m s (m 3 0 s) p2) := by
  have hl := hk.len s hs
  generalize hnn : m 3 0 s = n at hn hl
  have e1 : (n + 1).toInt = n.toInt + 1 := inc_t hl.1 (by omega)
  obtain ⟨b1, b2, b3, b4⟩ := typB_c (x := x) (s := s) (p := n) (p2 := p2)
  obtain ⟨m2, m3, m4⟩ := typM_c (m := m) (s := s) (p := n) (p2 := p2)
  refine ⟨h.upd hk (s := s) (fun s2 hs2 => ?_) (fun q q0 q1 => ?_) (by rw [b4, if_pos rfl]) (fun s2 hs2 c => ⟨TxE.of (by rw [m3, if_neg c]) (fun i i0 i1 => ?_), by rw [b4, if_neg c], by rw [b3]⟩), ?_⟩
  · obtain ⟨r1, r2⟩ := h.1 s2 hs2
    have hl2 := hk.len s2 hs2
    rw [b2, m3, b1]
    refine ⟨by rw [r1], fun q q0 q1 => ?_⟩
    rw [m2]
    show (if s2 * 120 + q = s * 120 + n then p2 else x 1 0 (s2 * 120 + q)) = _
    by_cases c : s2 = s
    · rw [if_pos c, e1] at q1
      obtain ⟨i1, i2⟩ := ix_eq hs2 hs q0 (by omega) hl.1 hn
      by_cases d : q = n
      · rw [if_pos (i1.mpr ⟨c, d⟩), if_pos (i2.mpr ⟨c, d⟩)]
      · rw [if_neg (fun z => d (i1.mp z).2), if_neg (fun z => d (i2.mp z).2)]
        refine r2 q q0 ?_
        rw [c, hnn]; rw [i32eq] at d; omega
    · rw [if_neg c] at q1
      obtain ⟨i1, i2⟩ := ix_eq hs2 hs q0 (by omega) hl.1 hn
      rw [if_neg (fun z => c (i1.mp z).1), if_neg (fun z => c (i2.mp z).1)]
      exact r2 q q0 q1
  · rw [m3, if_pos rfl, e1] at q1
    unfold f12_signAt
    rw [m3, if_pos rfl, if_neg (by simp only [i32le]; omega), m2]
    obtain ⟨i1, i2⟩ := ix_eq hs hs q0 (show q.toInt < 120 by omega) hl.1 hn
    by_cases d : q = n
    · rw [if_pos (i2.mpr ⟨rfl, d⟩)]; exact hg
    · rw [if_neg (fun z => d (i2.mp z).2)]
      have k := h.2.1 s hs q q0 (by rw [hnn]; rw [i32eq] at d; omega)
      unfold f12_signAt at k
      rw [hnn, if_neg (by rw [i32eq] at d; simp only [i32le]; omega)] at k
      exact k
  · have hl2 := hk.len s2 hs2
    rw [m2, if_neg]
    exact fun z => c ((ix_eq hs2 hs i0 (by omega) hl.1 hn).2.mp z).1
  · exact ok12_g3 (ok12_g2 hk) (by omega) (by omega)
/-- signs erased -/
def cutB (x : Cm) (s n : Int32) : Cm := u3 (u3 x 2 0 s n) 4 0 s 0
theorem RTx.cut (h : RTx t x m) (hk : Ok12 m) (hs : vp_in s 8) (h0 : 0 ≤ p.toInt) (h1 : p.toInt ≤ (m 3 0 s).toInt) : RTx t (cutB x s p) (u3 m 3 0 s p) ∧ Ok12 (u3 m 3 0 s p) := by
  have hl := hk.len s hs
  have b1 : cutB x s p 1 = x 1 := by unfold cutB; rw [u3_ne _ _ _ (show ¬ 1 = 4 by decide), u3_ne _ _ _ (show ¬ 1 = 2 by decide)]
  have b2 : ∀ k : Int32, cutB x s p 2 0 k = if k = s then p else x 2 0 k := fun k => by unfold cutB; rw [u3_ne _ _ _ (show ¬ 2 = 4 by decide), u3_if]
  have b3 : cutB x s p 3 = x 3 := by unfold cutB; rw [u3_ne _ _ _ (show ¬ 3 = 4 by decide), u3_ne _ _ _ (show ¬ 3 = 2 by decide)]
  have b4 : ∀ k : Int32, cutB x s p 4 0 k = if k = s then 0 else x 4 0 k := fun k => by unfold cutB; rw [u3_if, u3_ne _ _ _ (show ¬ 4 = 2 by decide)]
  have m2 : u3 m 3 0 s p 2 = m 2 := u3_ne _ _ _ (by decide)
  refine ⟨h.upd hk (s := s) (fun s2 hs2 => ?_) (fun q q0 q1 => ?_) (by rw [b4, if_pos rfl]) (fun s2 hs2 c => ⟨TxE.of (by rw [u3_if, if_neg c]) (fun i i0 i1 => by rw [m2]), by rw [b4, if_neg c], by rw [b3]⟩), ok12_g3 hk h0 (by omega)⟩
  · obtain ⟨r1, r2⟩ := h.1 s2 hs2
    rw [b2, u3_if, b1, m2]
    refine ⟨by rw [r1], fun q q0 q1 => r2 q q0 ?_⟩
    by_cases c : s2 = s
    · rw [if_pos c] at q1; rw [c]; omega
    · rw [if_neg c] at q1; exact q1
  · rw [u3_if, if_pos rfl] at q1
    have k := h.2.1 s hs q q0 (by omega)
    unfold f12_signAt at k ⊢
    rw [u3_if, if_pos rfl, m2, if_neg (by simp only [i32le]; omega)]
    rw [if_neg (by simp only [i32le]; omega)] at k
    exact k
end TXT
section REL
variable {L : Int} {M M1 : Wm} {m m1 : Cm} {p1 p2 p3 p4 : Int32}
theorem OpR.txt {kf : Nat → Int32} {z : (Nat × Int32) × Wm} {f : Cm → Int32 × Cm} {v : Int32} {x' m' : Cm} (h : RW L M) (ez : z = ((0, v), uW M 8 x')) (ef : f (M 12) = (v, m')) (hg : ∀ g : Nat, ¬ g = 0 ∧ ¬ g = 2 ∧ ¬ g = 3 → m' g = M 12 g) (h0 : m' 0 = u3 (M 12) 0 0 0 0 0) (hT : RTx (M 9) x' m') (hk : Ok12 m') : OpR L M kf z f := by
  obtain ⟨h1, ⟨q1, ⟨q2, q3, q4⟩, q5, q6, q7, q8⟩, h3, h4⟩ := h
  have S : ∀ k : Int32, ¬ k = 0 → m' 0 0 k = M 12 0 0 k := fun k a => by rw [h0, u3_s a]
  refine OpR.ok ez (uW_ne _ _ (by decide)) ef (by rw [h0, u3_at]) ?_ ⟨?_, ⟨?_, ?_, ?_⟩, ?_, ?_, hk, ?_⟩ (h3.fr (S 11 (by decide)) (hg 16 (by decide)) (hg 17 (by decide)) (hg 19 (by decide))) h4
  · rw [uW_ne _ _ (show 9 ≠ 8 by decide), uW_at]; exact hT
  · rw [uW_ne _ _ (show 5 ≠ 8 by decide)]
    exact q1.fr (hg 5 (by decide)) (hg 6 (by decide)) (hg 7 (by decide)) (hg 8 (by decide)) (hg 9 (by decide)) (S 9 (by decide))
  · rw [uW_ne _ _ (show 1 ≠ 8 by decide)]
    unfold RelBk RelMv RelS at q2 ⊢
    rw [S 21 (by decide), hg 23 (by decide), hg 24 (by decide), hg 25 (by decide), hg 26 (by decide), hg 27 (by decide), hg 4 (by decide)]; exact q2
  · rw [uW_ne _ _ (show 1 ≠ 8 by decide)]; exact q3
  · rw [uW_ne _ _ (show 1 ≠ 8 by decide)]; exact q4.mono (by omega)
  · rw [uW_ne _ _ (show 4 ≠ 8 by decide)]
    exact q5.fr (S 11 (by decide)) (S 10 (by decide)) (hg 13 (by decide)) (hg 14 (by decide)) (hg 15 (by decide)) (hg 16 (by decide)) (hg 17 (by decide)) (hg 18 (by decide)) (hg 19 (by decide)) (hg 20 (by decide)) (hg 21 (by decide))
  · rw [S 10 (by decide)]; exact q6
  · exact q8.fr (hg 28 (by decide)) (hg 29 (by decide)) (hg 30 (by decide))
theorem isSign_g (h : f6_isSign p2 = true) : sgOk p2 := by
  unfold f6_isSign at h
  simp only [bnd_e] at h
  by_cases c1 : p2 = 32
  · exact Or.inl (Or.inl c1)
  rw [if_neg c1] at h
  by_cases c2 : p2 = 40
  · exact Or.inl (Or.inr c2)
  rw [if_neg c2] at h
  by_cases c3 : p2 = 41
  · exact Or.inr (Or.inl (Or.inl c3))
  rw [if_neg c3] at h
  by_cases c4 : p2 = 45
  · exact Or.inr (Or.inl (Or.inr c4))
  rw [if_neg c4] at h
  by_cases c5 : f6_isDigit p2 = true
  · exact Or.inr (Or.inr (Or.inl c5))
  rw [if_neg c5] at h
  by_cases c6 : f6_isLetter p2 = true
  · exact Or.inr (Or.inr (Or.inr c6))
  rw [if_neg c6] at h; exact absurd h (by decide)
/-- which signs may be typed, in both -/
theorem type12_e : f12_type m p1 p2 = (if f12_isScript p1 = true then if f6_isSign p2 = true then if m 3 0 p1 = 120 then (0, u3 m 0 0 0 2) else (m 3 0 p1 + 1, typM (u3 m 0 0 0 0) p1 (m 3 0 p1) p2) else (0, u3 m 0 0 0 1) else (0, u3 m 0 0 0 1)) := by
  have key : ∀ v1 : Bool, bnd (f12_isScript p1) (fun (r11 : Bool) => jn (fun (v12 : Int32) => bnd (f12_goesWell m v12) (fun (r17 : Bool × Cm) => if r17.1 = true then bnd (u3 r17.2 2 0 ((120 * p1) + (r17.2 3 0 p1)) p2) (fun (m19 : Cm) => bnd (u3 m19 3 0 p1 ((r17.2 3 0 p1) + 1)) (fun (m20 : Cm) => ((m20 3 0 p1), m20))) else (0, r17.2))) (fun K13 => if r11 = true then if v1 = true then if (m 3 0 p1) = 120 then K13 2 else K13 0 else K13 1 else K13 1)) = (if f12_isScript p1 = true then if v1 = true then if m 3 0 p1 = 120 then ((0 : Int32), u3 m 0 0 0 2) else (m 3 0 p1 + 1, typM (u3 m 0 0 0 0) p1 (m 3 0 p1) p2) else (0, u3 m 0 0 0 1) else (0, u3 m 0 0 0 1)) := by
    intro v1
    have e3 : u3 m 0 0 0 0 3 0 p1 = m 3 0 p1 := by rw [u3_ne _ _ _ (by decide)]
    have ev : (u3 (u3 (u3 m 0 0 0 0) 2 0 (120 * p1 + m 3 0 p1) p2) 3 0 p1 (m 3 0 p1 + 1)) 3 0 p1 = m 3 0 p1 + 1 := u3_at _ _ _ _ _
    simp only [bnd_e, jn_e]
    cases f12_isScript p1 with
    | false => rfl
    | true =>
      cases v1 with
      | false => rfl
      | true =>
        simp only [if_true]
        by_cases c : m 3 0 p1 = 120
        · rw [if_pos c, if_pos c]; rfl
        · rw [if_neg c, if_neg c, gw_0]
          simp only [if_true]
          rw [e3, ev]; rfl
  have ed : f12_isDigit p2 = f6_isDigit p2 := rfl
  have el : f12_isLetter p2 = f6_isLetter p2 := rfl
  unfold f12_type f6_isSign
  rw [funext key, jn_e, ed, el]
  simp only [bnd_e]
  by_cases c1 : p2 = 32
  · simp only [if_pos c1, if_true]
  simp only [if_neg c1]
  by_cases c2 : p2 = 40
  · simp only [if_pos c2, if_true]
  simp only [if_neg c2]
  by_cases c3 : p2 = 41
  · simp only [if_pos c3, if_true]
  simp only [if_neg c3]
  by_cases c4 : p2 = 45
  · simp only [if_pos c4, if_true]
  simp only [if_neg c4]
  cases f6_isDigit p2 with
  | true => rfl
  | false => cases f6_isLetter p2 <;> rfl
theorem type11_e : f11_type M p1 p2 = (if f12_isScript p1 = true then if f6_isSign p2 = true then if 120 ≤ M 8 2 0 p1 then ((2, 0), M) else ((0, M 8 2 0 p1 + 1), uW M 8 (typB (M 8) p1 (M 8 2 0 p1) p2)) else ((1, 0), M) else ((1, 0), M)) := by
  unfold f11_type
  rw [dS_e]
  simp only [bnd_e, jn_e]
  cases f12_isScript p1 with
  | false => rfl
  | true =>
    cases f6_isSign p2 with
    | false => rfl
    | true =>
      simp only [if_true, f11_demand]
      by_cases c : 120 ≤ M 8 2 0 p1
      · rw [if_pos c, if_pos (show 120 ≤ f8_lengthOf (M 8) p1 from c)]; rfl
      · rw [if_neg c, if_neg (show ¬ 120 ≤ f8_lengthOf (M 8) p1 from c)]
        have e : f8_append (M 8) p1 p2 = (M 8 2 0 p1 + 1, typB (M 8) p1 (M 8 2 0 p1) p2) := by
          unfold f8_append
          simp only [bnd_e]
          rw [u3_at]; rfl
        rw [e]; rfl
theorem R_type (h : RW L M) : OpR L M (kfI 1 2) (f11_type M p1 p2) (fun m => f12_type m p1 p2) := by
  have e11 := type11_e (M := M) (p1 := p1) (p2 := p2)
  have e12 := type12_e (m := M 12) (p1 := p1) (p2 := p2)
  generalize hz : f11_type M p1 p2 = z at e11
  by_cases c : f12_isScript p1 = true
  · rw [if_pos c] at e11 e12
    by_cases d : f6_isSign p2 = true
    · rw [if_pos d] at e11 e12
      have hs := isS_in c
      have el := (h.1.1 p1 hs).1
      have hl := h.k.len p1 hs
      have t120 : (120 : Int32).toInt = 120 := by decide
      by_cases n : M 12 3 0 p1 = 120
      · rw [if_pos n] at e12
        rw [el, if_pos (by rw [n]; decide)] at e11
        exact OpR.no (k := 2) (x := 0) h (by decide) (by decide) e11 (by rw [e12]; rfl)
      · rw [if_neg n] at e12
        rw [i32eq, t120] at n
        rw [el, if_neg (by simp only [i32le, t120]; omega)] at e11
        have e3 : u3 (M 12) 0 0 0 0 3 0 p1 = M 12 3 0 p1 := by rw [u3_ne _ _ _ (by decide)]
        obtain ⟨r1, r2⟩ := (h.1.s0 h.k 0).typ h.k0 hs (by rw [e3]; omega) (isSign_g d)
        rw [e3] at r1 r2
        have g := (typM_c (m := u3 (M 12) 0 0 0 0) (s := p1) (p := M 12 3 0 p1) (p2 := p2)).2.2
        refine OpR.txt h e11 e12 (fun k a => ?_) (g 0 (by decide) (by decide)) r1 r2
        rw [g k a.2.1 a.2.2, u3_ne _ _ _ a.1]
    · rw [if_neg d] at e11 e12
      exact OpR.no (k := 1) (x := 0) h (by decide) (by decide) e11 (by rw [e12]; rfl)
  · rw [if_neg c] at e11 e12
    exact OpR.no (k := 1) (x := 0) h (by decide) (by decide) e11 (by rw [e12]; rfl)
theorem erase12_e : f12_erase m p1 p2 = (if f12_isScript p1 = true then if p2 < 1 then (0, u3 m 0 0 0 1) else ((if m 3 0 p1 ≤ p2 then 0 else m 3 0 p1 - p2), u3 (u3 m 0 0 0 0) 3 0 p1 (if m 3 0 p1 ≤ p2 then 0 else m 3 0 p1 - p2)) else (0, u3 m 0 0 0 1)) := by
  have e3 : u3 m 0 0 0 0 3 0 p1 = m 3 0 p1 := by rw [u3_ne _ _ _ (by decide)]
  unfold f12_erase
  simp only [bnd_e, jn_e]
  cases f12_isScript p1 with
  | false => rfl
  | true =>
    simp only [if_true]
    by_cases c : p2 < 1
    · rw [if_pos c, if_pos c]; rfl
    · rw [if_neg c, if_neg c, gw_f]
      simp only [if_true]
      rw [e3]
      by_cases d : m 3 0 p1 ≤ p2
      · rw [if_pos d, if_pos d, u3_at]
      · rw [if_neg d, if_neg d, u3_at]
theorem erase11_e : f11_erase M p1 p2 = (if f12_isScript p1 = true then if p2 < 1 then ((1, 0), M) else ((0, M 8 2 0 p1 - mnI p2 (M 8 2 0 p1)), uW M 8 (cutB (M 8) p1 (M 8 2 0 p1 - mnI p2 (M 8 2 0 p1)))) else ((1, 0), M)) := by
  unfold f11_erase
  rw [dS_e]
  simp only [bnd_e, jn_e]
  cases f12_isScript p1 with
  | false => rfl
  | true =>
    simp only [if_true]
    by_cases c : p2 < 1
    · rw [if_pos c, if_pos c]; rfl
    · rw [if_neg c, if_neg c]
      have e : f8_cut (M 8) p1 p2 = (M 8 2 0 p1 - mnI p2 (M 8 2 0 p1), cutB (M 8) p1 (M 8 2 0 p1 - mnI p2 (M 8 2 0 p1))) := by
        unfold f8_cut
        simp only [bnd_e]
        rw [u3_at]; rfl
      rw [e]; rfl
theorem R_erase (h : RW L M) : OpR L M (kfI 1 1) (f11_erase M p1 p2) (fun m => f12_erase m p1 p2) := by
  have e11 := erase11_e (M := M) (p1 := p1) (p2 := p2)
  have e12 := erase12_e (m := M 12) (p1 := p1) (p2 := p2)
  generalize hz : f11_erase M p1 p2 = z at e11
  by_cases c : f12_isScript p1 = true
  · rw [if_pos c] at e11 e12
    by_cases d : p2 < 1
    · rw [if_pos d] at e11 e12
      exact OpR.no (k := 1) (x := 0) h (by decide) (by decide) e11 (by rw [e12]; rfl)
    · rw [if_neg d] at e11 e12
      have hs := isS_in c
      have el := (h.1.1 p1 hs).1
      have hl := h.k.len p1 hs
      have r2 := i32rng p2
      rw [el] at e11
      simp only [i32lt, t32_1] at d
      have ev : M 12 3 0 p1 - mnI p2 (M 12 3 0 p1) = if M 12 3 0 p1 ≤ p2 then 0 else M 12 3 0 p1 - p2 := by
        unfold mnI
        by_cases a : M 12 3 0 p1 ≤ p2
        · rw [if_pos a]
          by_cases b : M 12 3 0 p1 < p2
          · rw [if_pos b, Int32.sub_self]
          · rw [if_neg b]
            have : M 12 3 0 p1 = p2 := by simp only [i32le] at a; simp only [i32lt] at b; rw [i32eq]; omega
            rw [this, Int32.sub_self]
        · rw [if_neg a, if_neg (by simp only [i32le] at a; simp only [i32lt]; omega)]
      rw [ev] at e11
      have e3 : u3 (M 12) 0 0 0 0 3 0 p1 = M 12 3 0 p1 := by rw [u3_ne _ _ _ (by decide)]
      have hv : 0 ≤ (if M 12 3 0 p1 ≤ p2 then 0 else M 12 3 0 p1 - p2).toInt ∧ (if M 12 3 0 p1 ≤ p2 then 0 else M 12 3 0 p1 - p2).toInt ≤ (M 12 3 0 p1).toInt := by
        by_cases a : M 12 3 0 p1 ≤ p2
        · rw [if_pos a, t32_0]; omega
        · rw [if_neg a]
          simp only [i32le] at a
          rw [i32subn (by omega) (by omega)]; omega
      generalize (if M 12 3 0 p1 ≤ p2 then 0 else M 12 3 0 p1 - p2) = v at e11 e12 hv
      obtain ⟨r1, r2⟩ := (h.1.s0 h.k 0).cut h.k0 hs hv.1 (by rw [e3]; exact hv.2)
      refine OpR.txt h e11 e12 (fun k a => ?_) (u3_ne _ _ _ (by decide)) r1 r2
      rw [u3_ne _ _ _ a.2.2, u3_ne _ _ _ a.1]
  · rw [if_neg c] at e11 e12
    exact OpR.no (k := 1) (x := 0) h (by decide) (by decide) e11 (by rw [e12]; rfl)
theorem R_expressions (h : RW L M) : OpR L M (kfI 1 2) (f11_expressions M p1) (fun m => f12_expressions m p1) := by
  obtain ⟨⟨r1, r2⟩, r3, r4⟩ := h.read (N := f8_readChanged M) rfl
  cases c : f12_isScript p1 with
  | false =>
    refine OpR.no (k := 1) (x := 0) h (by decide) (by decide) ?_ ?_
    · unfold f11_expressions; rw [dS_e, c]; rfl
    · unfold f12_expressions; rw [c]; rfl
  | true =>
    have hs := isS_in c
    have e := (r3 p1 hs).1.1
    have hT := (r3 p1 hs).2
    have ef : f8_faultOf (f8_readChanged M 8) p1 = f12_faultOf (M 12) p1 := e
    by_cases d : f12_faultOf (M 12) p1 = -1
    · have T := hT d
      have hX := faultOf_T h.k hs d
      obtain ⟨t1, t2, _⟩ := T.root h.k hs hX
      have hN := ExE.nx T T.1.1
      have ec := countFrom_eq h.k hs hX hN
      have ev : f9_partsOf (f8_readChanged M 9) (Pl p1 120) = f12_countFrom (M 12) p1 (f12_nextAt (M 12) p1 0) := by
        rw [i32eq, t1, t2, ec]
      have fr : u3 (M 12) 0 0 0 0 2 = M 12 2 ∧ u3 (M 12) 0 0 0 0 3 = M 12 3 := ⟨u3_ne _ _ _ (by decide), u3_ne _ _ _ (by decide)⟩
      refine OpR.qryN (v := f12_countFrom (M 12) p1 (f12_nextAt (M 12) p1 0)) r1 ?_ r2 ?_
      · unfold f11_expressions
        rw [dS_e, c]
        simp only [bnd_e, jn_e, if_true]
        rw [ef, if_pos d, show f9_rowOf p1 = Pl p1 120 from rfl, ev]; rfl
      · unfold f12_expressions
        rw [c]
        simp only [bnd_e, jn_e, if_true]
        rw [if_pos d, gw_0]
        simp only [if_true]
        rw [nextAt_fr fr, countFrom_fr fr]
    · refine OpR.thr (k := 2) (x := 0) (M1 := f8_readChanged M) (by decide) (by decide) ?_ r2 ?_ r1
      · unfold f11_expressions
        rw [dS_e, c]
        simp only [bnd_e, jn_e, if_true]
        rw [ef, if_neg d]; rfl
      · unfold f12_expressions
        rw [c]
        simp only [bnd_e, jn_e, if_true]
        rw [if_neg d, gw_2]; rfl
end REL
