/-! THE TREE WHILE A TEXT IS READ: each sign keeps what is known of the tree -/
section HANG
variable {t m : Cm} {s p c : Int32} {os : List Int32} {n : Nat} {w : Bool} {M N : Wm}
theorem u3_self (m : Cm) (g : Nat) (i j : Int32) : u3 m g i j (m g i j) = m := by
  funext a b
  unfold u3
  by_cases h : a = g ∧ b = i
  · rw [if_pos h, h.1, h.2]
    funext k
    unfold fI
    by_cases z : k = j
    · rw [if_pos z, z]
    · rw [if_neg z]
  · rw [if_neg h]
theorem set_e {i : Int32} (v : Int32) (hs : vp_in s 8) (h0 : 0 ≤ i.toInt) (h1 : i.toInt ≤ 120) : f9_setContent t (Pl s i) v = u3 t 2 0 (Pl s i) v := by
  obtain ⟨a, b, _⟩ := Pl_in hs h0 h1
  unfold f9_setContent
  rw [if_neg a, if_neg b]; rfl
theorem Rd.z {r : Cm} {st : Int32} (h : Rd r st) : r 0 0 3 = 0 ↔ st = 0 := by
  have t10 : (10 : Int32).toInt = 10 := by decide
  rcases h with ⟨k, z⟩ | ⟨k, z, l0⟩ | ⟨k, z, l1, l2⟩ | ⟨k, z, l1, l2⟩
  · exact ⟨fun _ => z, fun _ => k⟩
  · rw [k, z]
  · rw [k]
    refine ⟨fun y => absurd y (by decide), fun y => ?_⟩
    rw [z, i32eq, i32addn (by rw [t32_2]; omega) (by rw [t32_2]; omega), t32_2, t32_0] at y; omega
  · rw [k]
    refine ⟨fun y => absurd y (by decide), fun y => ?_⟩
    rw [z, i32eq, i32addn (by rw [t10]; omega) (by rw [t10]; omega), t10, t32_0] at y; omega
theorem takes_dig {P g : Int32} (h : f12_isDigit g = true) : f6_takesSign M P g = f6_takesDigit M P (g - 48) := by
  unfold f6_takesSign
  simp only [bnd_e]
  exact (if_pos h).trans rfl
theorem takes_let {P g : Int32} (h0 : ¬ f12_isDigit g = true) (h : f12_isLetter g = true) : f6_takesSign M P g = f6_takesLetter M P (f10_digitOf g) := by
  unfold f6_takesSign
  simp only [bnd_e]
  exact (if_neg h0).trans ((if_pos h).trans rfl)
theorem takes_min {P : Int32} : f6_takesSign M P 45 = f6_takesMinus M P := by
  unfold f6_takesSign
  simp only [bnd_e]
  exact (if_neg (show ¬ f6_isDigit 45 = true by decide)).trans ((if_neg (show ¬ f6_isLetter 45 = true by decide)).trans ((if_pos trivial).trans rfl))
def opW (M : Wm) (P : Int32) : Wm := uW (uW (uW (uW M 6 (u3 (M 6) 0 0 3 0)) 9 (begT (M 9) (M 6 2 0 (M 6 0 0 2)) P 3)) 6 (u3 (u3 (M 6) 0 0 3 0) 0 0 2 (M 6 0 0 2 + 1))) 6 (u3 (u3 (u3 (M 6) 0 0 3 0) 0 0 2 (M 6 0 0 2 + 1)) 2 0 (M 6 0 0 2 + 1) P)
theorem opW_9 (M : Wm) (P : Int32) : opW M P 9 = begT (M 9) (M 6 2 0 (M 6 0 0 2)) P 3 := by
  unfold opW; rw [uW_ne _ _ (by decide), uW_ne _ _ (by decide), uW_at]
theorem opW_6 (M : Wm) (P : Int32) : opW M P 6 = u3 (u3 (u3 (M 6) 0 0 3 0) 0 0 2 (M 6 0 0 2 + 1)) 2 0 (M 6 0 0 2 + 1) P := by
  unfold opW; rw [uW_at]
theorem takes_open {P : Int32} (h1 : ¬ M 6 0 0 3 = 1) (h2 : M 6 0 0 2 < 20) : f6_takesSign M P 40 = (true, opW M P) := by
  have eo : f6_opensList (uW M 6 (u3 (M 6) 0 0 3 0)) P = (true, opW M P) := by
    unfold f6_opensList opW
    simp only [bnd_e, uW_uW]
    exact (if_pos h2).trans rfl
  unfold f6_takesSign
  simp only [bnd_e]
  rw [if_neg (show ¬ f6_isDigit 40 = true by decide), if_neg (show ¬ f6_isLetter 40 = true by decide), if_neg (show ¬ (40 : Int32) = 45 by decide), if_neg h1, if_pos trivial, eo]
theorem takes_blank {P : Int32} (h1 : ¬ M 6 0 0 3 = 1) : f6_takesSign M P 32 = (true, uW M 6 (u3 (M 6) 0 0 3 0)) := by
  unfold f6_takesSign
  simp only [bnd_e]
  rw [if_neg (show ¬ f6_isDigit 32 = true by decide), if_neg (show ¬ f6_isLetter 32 = true by decide), if_neg (show ¬ (32 : Int32) = 45 by decide), if_neg h1, if_neg (show ¬ (32 : Int32) = 40 by decide), if_pos trivial]
def clW (M : Wm) : Wm := uW (uW M 6 (u3 (M 6) 0 0 3 0)) 6 (u3 (u3 (M 6) 0 0 3 0) 0 0 2 (M 6 0 0 2 - 1))
theorem clW_9 (M : Wm) : clW M 9 = M 9 := by
  unfold clW; rw [uW_ne _ _ (by decide), uW_ne _ _ (by decide)]
theorem clW_6 (M : Wm) : clW M 6 = u3 (u3 (M 6) 0 0 3 0) 0 0 2 (M 6 0 0 2 - 1) := by
  unfold clW; rw [uW_at]
theorem takes_close {P : Int32} (h1 : ¬ M 6 0 0 3 = 1) (h2 : 0 < M 6 0 0 2) : f6_takesSign M P 41 = (true, clW M) := by
  have ec : f6_closesList (u3 (M 6) 0 0 3 0) = (true, u3 (u3 (M 6) 0 0 3 0) 0 0 2 (M 6 0 0 2 - 1)) := (if_pos h2).trans rfl
  unfold f6_takesSign
  simp only [bnd_e]
  rw [if_neg (show ¬ f6_isDigit 41 = true by decide), if_neg (show ¬ f6_isLetter 41 = true by decide), if_neg (show ¬ (41 : Int32) = 45 by decide), if_neg h1, if_neg (show ¬ (41 : Int32) = 40 by decide), if_neg (show ¬ (41 : Int32) = 32 by decide)]
  rw [show (uW M 6 (u3 (M 6) 0 0 3 0)) 6 = u3 (M 6) 0 0 3 0 from rfl, ec]
  exact if_pos rfl
theorem takes_m1 {P g : Int32} (h : (f6_takesSign M P g).1 = true) (hd : ¬ f12_isDigit g = true) (hl : ¬ f12_isLetter g = true) (hm : ¬ g = 45) : ¬ M 6 0 0 3 = 1 := by
  intro z
  unfold f6_takesSign at h
  simp only [bnd_e] at h
  rw [if_neg (show ¬ f6_isDigit g = true from hd), if_neg (show ¬ f6_isLetter g = true from hl), if_neg hm, if_pos z] at h
  cases h
/-- a digit -/
theorem RdI.dig (hk : Ok12 m) (hs : vp_in s 8) (h : RdI N m s p os n c w) (hI : Ix12 m s p) (hg : f12_isDigit (f12_signAt m s p) = true) (ht : (f6_takesSign N (Pl s p) (f12_signAt m s p)).1 = true) (hR : Rd ((f6_takesSign N (Pl s p) (f12_signAt m s p)).2 6) (ah m s (p + 1))) : ∃ n' c' w', RdI (f6_takesSign N (Pl s p) (f12_signAt m s p)).2 m s (p + 1) os n' c' w' := by
  have hL := hk.len s hs
  have p0 := hI.1
  have p1 := hI.2
  have e1 : (p + 1).toInt = p.toInt + 1 := inc_t p0 (by omega)
  have n40 := wd_ne (Or.inl hg) (show (40 : Int32).toInt < 48 by decide)
  have n45 := wd_ne (Or.inl hg) (show (45 : Int32).toInt < 48 by decide)
  have nl : ¬ f12_isLetter (f12_signAt m s p) = true := by
    intro z
    have a := in12_rg (a := f12_signAt m s p) (b := 48) (c := 57) hg
    have b := in12_rg (a := f12_signAt m s p) (b := 97) (c := 122) z
    have t57 : (57 : Int32).toInt = 57 := by decide
    rw [t57] at a; rw [t32_97] at b; omega
  rw [takes_dig hg] at ht hR ⊢
  obtain ⟨⟨hT, hS⟩, ⟨k1, k2⟩, hw0, hw1, hRd⟩ := h
  have h3 : ¬ N 6 0 0 3 = 3 := by
    intro z; unfold f6_takesDigit at ht; rw [if_pos z] at ht; cases ht
  cases w with
  | false =>
    have z3 := hw0 rfl
    have a0 : ah m s p = 0 := hRd.z.mp z3
    have hB : Bx m s p := ⟨hI, Or.inr ⟨a0, Or.inl (Or.inl hg)⟩⟩
    obtain ⟨r9, r2, r02, r03, r04, r06⟩ := dig_0 (M := N) (Pl s p) (f12_signAt m s p - 48) z3
    have bg := TrI.beg hk hs hT hS hB 1
    rw [k1.top k2, cont_e hs p0 (by omega), bg.2.2.2.2.2.2.2.1, set_e _ hs p0 (by omega)] at r9
    refine ⟨n + 1, p, true, ⟨?_, ScI.word p0 (by omega) hS hB n40⟩, ⟨k1.fr r2, by rw [r02]; exact k2⟩, fun z => (by cases z), fun _ => ⟨r04, fun z => absurd z nl, fun _ => ⟨Or.inr r03, ?_, ?_, ?_⟩⟩, hR⟩
    · rw [r9]; exact TrI.word hk hs hT hS hB n40 (by rw [if_neg nl]) _
    · rw [r06]; exact ⟨fun _ => n45, fun _ => rfl⟩
    · unfold ngS; rw [if_neg n45]; omega
    · rw [r9, u3_at]
      have A := NuI.one (m := m) (s := s) p
      have en : ngS (f12_signAt m s p) p = p := by unfold ngS; rw [if_neg n45]
      rw [en] at A
      have B := A.step p0 (by omega) (by rw [en]; omega) (by omega) hg
      unfold ngI at B
      rw [if_neg n45] at B
      exact B
  | true =>
    have W := hw1 rfl
    have n0 := W.n0
    have nlc : ¬ f12_isLetter (f12_signAt m s c) = true := fun z => h3 (W.2.1 z).1
    obtain ⟨y1, y2, y3, y4⟩ := W.2.2 nlc
    obtain ⟨x1, x2, x3⟩ := hS.2.2.2.2.2 rfl
    obtain ⟨b1, b2, b3⟩ := hS.2.2.1 x1
    have c0 := b1.1.1
    obtain ⟨r9, r2, r02, r03, r04, r06⟩ := dig_1 (M := N) (Pl s p) (f12_signAt m s p - 48) h3 n0 ht
    rw [W.1, cont_e hs c0 (by omega), set_e _ hs c0 (by omega)] at r9
    have ei : (if N 6 0 0 6 = 0 then f12_signAt m s p - 48 else -(f12_signAt m s p - 48)) = ngI (f12_signAt m s c) (f12_signAt m s p - 48) := by
      unfold ngI
      by_cases z : N 6 0 0 6 = 0
      · rw [if_pos z, if_neg (y2.mp z)]
      · rw [if_neg z, if_pos (Decidable.byContradiction (fun q => z (y2.mpr q)))]
    rw [ei] at r9
    have nB : ¬ Bx m s p := by
      intro z
      rcases z.2 with q | q
      · exact n40 q
      · exact n0 (hRd.z.mpr q.1)
    refine ⟨n, c, true, ⟨?_, ScI.cont p0 (by omega) hS (Or.inl hg)⟩, ⟨k1.fr r2, by rw [r02]; exact k2⟩, fun z => (by cases z), fun _ => ⟨by rw [r04]; exact W.1, fun z => absurd z nlc, fun _ => ⟨Or.inr r03, by rw [r06]; exact y2, by omega, ?_⟩⟩, hR⟩
    · rw [r9]; exact (hT.grow _).skip p0 (by omega) nB
    · rw [r9, u3_at]; exact y4.step c0 (by omega) y3 (by omega) hg
/-- a letter -/
theorem RdI.let (hk : Ok12 m) (hs : vp_in s 8) (h : RdI N m s p os n c w) (hI : Ix12 m s p) (hd : ¬ f12_isDigit (f12_signAt m s p) = true) (hg : f12_isLetter (f12_signAt m s p) = true) (ht : (f6_takesSign N (Pl s p) (f12_signAt m s p)).1 = true) (hR : Rd ((f6_takesSign N (Pl s p) (f12_signAt m s p)).2 6) (ah m s (p + 1))) : ∃ n' c' w', RdI (f6_takesSign N (Pl s p) (f12_signAt m s p)).2 m s (p + 1) os n' c' w' := by
  have hL := hk.len s hs
  have p0 := hI.1
  have p1 := hI.2
  have e1 : (p + 1).toInt = p.toInt + 1 := inc_t p0 (by omega)
  have n40 := wd_ne (Or.inr hg) (show (40 : Int32).toInt < 48 by decide)
  have n45 := wd_ne (Or.inr hg) (show (45 : Int32).toInt < 48 by decide)
  rw [takes_let hd hg] at ht hR ⊢
  obtain ⟨⟨hT, hS⟩, ⟨k1, k2⟩, hw0, hw1, hRd⟩ := h
  cases w with
  | false =>
    have z3 := hw0 rfl
    have a0 : ah m s p = 0 := hRd.z.mp z3
    have hB : Bx m s p := ⟨hI, Or.inr ⟨a0, Or.inl (Or.inr hg)⟩⟩
    obtain ⟨r9, r2, r02, r03, r04⟩ := let_0 (M := N) (Pl s p) (f10_digitOf (f12_signAt m s p)) z3
    have bg := TrI.beg hk hs hT hS hB 2
    rw [k1.top k2, cont_e hs p0 (by omega), bg.2.2.2.2.2.2.2.1, set_e _ hs p0 (by omega)] at r9
    refine ⟨n + 1, p, true, ⟨?_, ScI.word p0 (by omega) hS hB n40⟩, ⟨k1.fr r2, by rw [r02]; exact k2⟩, fun z => (by cases z), fun _ => ⟨r04, fun _ => ⟨r03, ?_⟩, fun z => absurd hg z⟩, hR⟩
    · rw [r9]; exact TrI.word hk hs hT hS hB n40 (by rw [if_pos hg]) _
    · rw [r9, u3_at]
      exact (NmI.one (m := m) (s := s) (c := p) (v := 0) ⟨p0, by omega⟩).step p0 (Int.le_refl _) (by omega) hg
  | true =>
    have W := hw1 rfl
    have n0 := W.n0
    obtain ⟨x1, x2, x3⟩ := hS.2.2.2.2.2 rfl
    obtain ⟨b1, b2, b3⟩ := hS.2.2.1 x1
    have c0 := b1.1.1
    obtain ⟨r9, r2, r02, r03, r04, q1, q2⟩ := let_1 (M := N) (Pl s p) (f10_digitOf (f12_signAt m s p)) n0 ht
    have lc : f12_isLetter (f12_signAt m s c) = true := by
      by_cases z : f12_isLetter (f12_signAt m s c) = true
      · exact z
      · exact ((W.2.2 z).1.elim (fun y => absurd y q1) (fun y => absurd y q2))
    obtain ⟨y1, y4⟩ := W.2.1 lc
    rw [W.1, cont_e hs c0 (by omega), set_e _ hs c0 (by omega)] at r9
    have nB : ¬ Bx m s p := by
      intro z
      rcases z.2 with q | q
      · exact n40 q
      · exact n0 (hRd.z.mpr q.1)
    refine ⟨n, c, true, ⟨?_, ScI.cont p0 (by omega) hS (Or.inr hg)⟩, ⟨k1.fr r2, by rw [r02]; exact k2⟩, fun z => (by cases z), fun _ => ⟨by rw [r04]; exact W.1, fun _ => ⟨r03, ?_⟩, fun z => absurd lc z⟩, hR⟩
    · rw [r9]; exact (hT.grow _).skip p0 (by omega) nB
    · rw [r9, u3_at]; exact y4.step c0 (by omega) (by omega) hg
/-- a minus -/
theorem RdI.min (hk : Ok12 m) (hs : vp_in s 8) (h : RdI N m s p os n c w) (hI : Ix12 m s p) (hg : f12_signAt m s p = 45) (ht : (f6_takesSign N (Pl s p) (f12_signAt m s p)).1 = true) (hR : Rd ((f6_takesSign N (Pl s p) (f12_signAt m s p)).2 6) (ah m s (p + 1))) : ∃ n' c' w', RdI (f6_takesSign N (Pl s p) (f12_signAt m s p)).2 m s (p + 1) os n' c' w' := by
  have hL := hk.len s hs
  have p0 := hI.1
  have p1 := hI.2
  have e1 : (p + 1).toInt = p.toInt + 1 := inc_t p0 (by omega)
  have n40 : ¬ f12_signAt m s p = 40 := by rw [hg]; decide
  have nl : ¬ f12_isLetter (f12_signAt m s p) = true := by rw [hg]; decide
  have ew : f6_takesSign N (Pl s p) (f12_signAt m s p) = f6_takesMinus N (Pl s p) := by rw [hg]; exact takes_min
  rw [ew] at ht hR ⊢
  obtain ⟨⟨hT, hS⟩, ⟨k1, k2⟩, hw0, hw1, hRd⟩ := h
  have z3 : N 6 0 0 3 = 0 := by
    by_cases z : N 6 0 0 3 = 0
    · exact z
    · unfold f6_takesMinus at ht; rw [if_neg z] at ht; cases ht
  have wf : w = false := by
    cases w with
    | false => rfl
    | true => exact absurd z3 (hw1 rfl).n0
  subst wf
  have a0 : ah m s p = 0 := hRd.z.mp z3
  have hB : Bx m s p := ⟨hI, Or.inr ⟨a0, Or.inr hg⟩⟩
  obtain ⟨r9, r2, r02, r03, r04, r06⟩ := min_0 (M := N) (Pl s p) z3
  have bg := TrI.beg hk hs hT hS hB 1
  rw [k1.top k2] at r9
  have b2 : begT (N 9) (Pl s (tpO os)) (Pl s p) 1 2 0 (Pl s p) = 0 := bg.2.2.2.2.2.2.2.1
  have r9' : (f6_takesMinus N (Pl s p)).2 9 = u3 (begT (N 9) (Pl s (tpO os)) (Pl s p) 1) 2 0 (Pl s p) 0 := by
    have u := u3_self (begT (N 9) (Pl s (tpO os)) (Pl s p) 1) 2 0 (Pl s p)
    rw [b2] at u
    rw [r9, u]
  refine ⟨n + 1, p, true, ⟨?_, ScI.word p0 (by omega) hS hB n40⟩, ⟨k1.fr r2, by rw [r02]; exact k2⟩, fun z => (by cases z), fun _ => ⟨r04, fun z => absurd z nl, fun _ => ⟨Or.inl r03, ?_, ?_, ?_⟩⟩, hR⟩
  · rw [r9']; exact TrI.word hk hs hT hS hB n40 (by rw [if_neg nl]) _
  · rw [r06, hg]; decide
  · unfold ngS; rw [if_pos hg]; omega
  · rw [r9', u3_at]
    have A := NuI.one (m := m) (s := s) p
    have en : ngS (f12_signAt m s p) p = p + 1 := by unfold ngS; rw [if_pos hg]
    rw [en] at A; exact A
/-- a bracket or a blank -/
theorem RdI.rest (hk : Ok12 m) (hs : vp_in s 8) (hX : Tx12 m s) (h : RdI N m s p os n c w) (hI : Ix12 m s p) (hd : ¬ f12_isDigit (f12_signAt m s p) = true) (hl : ¬ f12_isLetter (f12_signAt m s p) = true) (hm : ¬ f12_signAt m s p = 45) (hg : f12_signAt m s p = 40 ∨ f12_signAt m s p = 41 ∨ f12_signAt m s p = 32) (ht : (f6_takesSign N (Pl s p) (f12_signAt m s p)).1 = true) (hR : Rd ((f6_takesSign N (Pl s p) (f12_signAt m s p)).2 6) (ah m s (p + 1))) (h20 : (N 6 0 0 2).toInt + dl12 (f12_signAt m s p) ≤ 20) (hd0 : 0 ≤ (N 6 0 0 2).toInt + dl12 (f12_signAt m s p)) : ∃ os' n' c' w', RdI (f6_takesSign N (Pl s p) (f12_signAt m s p)).2 m s (p + 1) os' n' c' w' := by
  have hL := hk.len s hs
  have p0 := hI.1
  have p1 := hI.2
  have e1 : (p + 1).toInt = p.toInt + 1 := inc_t p0 (by omega)
  have nw : ¬ wd12 (f12_signAt m s p) := fun z => z.elim hd hl
  have m1 := takes_m1 ht hd hl hm
  obtain ⟨hT, hS⟩ := h.settle hk hs p0 (by omega) nw
  obtain ⟨_, ⟨k1, k2⟩, hw0, hw1, hRd⟩ := h
  have t20 : (20 : Int32).toInt = 20 := by decide
  rcases hg with hg | hg | hg
  · rw [hg] at h20 hd0 ht hR ⊢
    have hB : Bx m s p := ⟨hI, Or.inl hg⟩
    have d1 : dl12 40 = 1 := rfl
    rw [d1] at h20
    have ed : (N 6 0 0 2 + 1).toInt = (N 6 0 0 2).toInt + 1 := inc_t (by omega) (by omega)
    rw [takes_open m1 (by simp only [i32lt, t20]; omega)] at ht hR ⊢
    refine ⟨p :: os, 0, 0, false, ⟨?_, ScI.list p0 (by omega) hS hB hg⟩, ⟨⟨?_, ?_⟩, ?_⟩, fun _ => ?_, fun z => (by cases z), hR⟩
    · show TrI (opW N (Pl s p) 9) m s (p + 1) (p :: os) 0 0 false
      rw [opW_9, k1.top k2]
      exact TrI.list hk hs hT hS hB hg
    · show opW N (Pl s p) 6 2 0 (nI (os.length + 1)) = _
      rw [opW_6, nI_e (show ((os.length + 1 : Nat) : Int) = (N 6 0 0 2 + 1).toInt by rw [ed, k2]; rfl), u3_at]
    · show StkL (opW N (Pl s p) 6) s os
      rw [opW_6]
      exact StkL.put (k1.fr (by rw [u3_ne _ _ _ (by decide), u3_ne _ _ _ (by decide)])) (by rw [ed, k2]; omega)
    · show (opW N (Pl s p) 6 0 0 2).toInt = _
      rw [opW_6, u3_ne _ _ _ (show ¬ 0 = 2 by decide), u3_at, ed, k2, List.length_cons]; rfl
    · show opW N (Pl s p) 6 0 0 3 = 0
      rw [opW_6, u3_ne _ _ _ (show ¬ 0 = 2 by decide), u3_s (by decide), u3_at]
  · rw [hg] at h20 hd0 ht hR ⊢
    have d1 : dl12 41 = -1 := rfl
    rw [d1] at hd0
    have ed : (N 6 0 0 2 - 1).toInt = (N 6 0 0 2).toInt - 1 := by rw [i32subn (by rw [t32_1]; omega) (by rw [t32_1]; omega), t32_1]
    rw [takes_close m1 (by simp only [i32lt, t32_0]; omega)] at ht hR ⊢
    cases os with
    | nil => exfalso; rw [k2] at hd0; exact absurd hd0 (by show ¬ 0 ≤ ((0 : Nat) : Int) + -1; omega)
    | cons o os =>
      obtain ⟨n', T', S'⟩ := TrI.close hk hs hX p0 (by omega) hT hS hg
      refine ⟨os, n' + 1, o, false, ⟨?_, S'⟩, ⟨?_, ?_⟩, fun _ => ?_, fun z => (by cases z), hR⟩
      · show TrI (clW N 9) m s (p + 1) os (n' + 1) o false
        rw [clW_9]; exact T'
      · show StkL (clW N 6) s os
        rw [clW_6]
        exact StkL.fr k1.2 (by rw [u3_ne _ _ _ (by decide), u3_ne _ _ _ (by decide)])
      · show (clW N 6 0 0 2).toInt = _
        rw [clW_6, u3_at, ed, k2, List.length_cons]; omega
      · show clW N 6 0 0 3 = 0
        rw [clW_6, u3_s (by decide), u3_at]
  · rw [hg] at ht hR ⊢
    rw [takes_blank m1] at ht hR ⊢
    have nB : ¬ Bx m s p := fun z => z.ne.1 hg
    refine ⟨os, n, c, false, ⟨hT.skip p0 (by omega) nB, ScI.blank p0 (by omega) hS hg⟩, ⟨StkL.fr k1 (by show u3 (N 6) 0 0 3 0 2 = _; rw [u3_ne _ _ _ (by decide)]), k2⟩, fun _ => rfl, fun z => (by cases z), hR⟩
end HANG
