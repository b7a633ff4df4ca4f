/-! THE TREE WHILE A TEXT IS READ: a word begins, grows, ends; a list begins and ends; blanks; the text's end -/
section HANG
variable {t m : Cm} {s p c : Int32} {os : List Int32} {n : Nat} {w : Bool}
theorem TrI.word (hk : Ok12 m) (hs : vp_in s 8) (hT : TrI t m s p os n c false) (hS : ScI m s p os n c false) (hB : Bx m s p) (h40 : ¬ f12_signAt m s p = 40) {k : Int32} (hkd : k = if f12_isLetter (f12_signAt m s p) = true then 2 else 1) (v : Int32) : TrI (u3 (begT t (Pl s (tpO os)) (Pl s p) k) 2 0 (Pl s p) v) m s (p + 1) os (n + 1) p true := by
  have hL := hk.len s hs
  have p0 := hB.1.1
  have p1 := hB.1.2
  have e1 : (p + 1).toInt = p.toInt + 1 := inc_t p0 (by omega)
  obtain ⟨⟨a1, a2⟩, b, ⟨d1, d2⟩, f1, f2, f3, g1, g2, g3, g4, g5⟩ := TrI.beg hk hs hT hS hB k
  generalize begT t (Pl s (tpO os)) (Pl s p) k = t' at *
  have lt : ∀ i : Int32, i.toInt < (p + 1).toInt → ¬ i = p → i.toInt < p.toInt := fun i h z => by rw [i32eq] at z; omega
  have n2 : ∀ (g : Nat), ¬ g = 2 → u3 t' 2 0 (Pl s p) v g = t' g := fun g h => u3_ne _ _ _ h
  have c2 : ∀ i : Int32, ¬ i = p → u3 t' 2 0 (Pl s p) v 2 0 (Pl s i) = t' 2 0 (Pl s i) := fun i h => u3_j (fun z => h (Pl_inj z))
  refine ⟨⟨?_, ?_⟩, fun i i1 i2 i3 i4 => ?_, ⟨fun o ho => ?_, fun _ => ?_⟩, fun i i1 i2 i3 => ?_, fun i i1 i2 i3 => ?_, fun i i1 i2 i3 i4 => ?_⟩
  · unfold LsI at a1 ⊢
    rw [n2 3 (by decide), n2 4 (by decide), n2 5 (by decide)]; exact a1
  · exact a2.fr (fun q _ => by rw [n2 3 (by decide), n2 4 (by decide), n2 5 (by decide)]; exact ⟨rfl, rfl, rfl⟩)
  · rw [n2 6 (by decide)]
    exact b i i1 (lt i i2 (fun z => i4 ⟨by omega, z⟩)) i3
  · rw [n2 6 (by decide)]; exact d1 o ho
  · rw [n2 6 (by decide)]; exact d2
  · have ne : ¬ i = p := fun z => h40 (by rw [← z]; exact i3)
    obtain ⟨x1, x2⟩ := f1 i i1 (lt i i2 ne) i3
    rw [n2 1 (by decide)]
    refine ⟨x1, fun z => ⟨(x2 z).1, ?_⟩⟩
    have := (x2 z).2
    unfold LsT at this ⊢
    rw [n2 3 (by decide), n2 4 (by decide)]; exact this
  · rw [n2 1 (by decide)]
    by_cases z : i = p
    · rw [z] at i3 ⊢
      refine ⟨by rw [g1, hkd, if_pos i3], fun y => absurd ⟨rfl, rfl⟩ y⟩
    · obtain ⟨x1, x2⟩ := f2 i i1 (lt i i2 z) i3
      exact ⟨x1, fun _ => by rw [c2 i z]; exact x2⟩
  · rw [n2 1 (by decide)]
    by_cases z : i = p
    · rw [z] at i4 ⊢
      refine ⟨by rw [g1, hkd, if_neg i4], fun y => absurd ⟨rfl, rfl⟩ y⟩
    · obtain ⟨x1, x2⟩ := f3 i i1 (lt i i2 z) i3 i4
      exact ⟨x1, fun _ => by rw [c2 i z]; exact x2⟩
theorem TrI.list (hk : Ok12 m) (hs : vp_in s 8) (hT : TrI t m s p os n c false) (hS : ScI m s p os n c false) (hB : Bx m s p) (h40 : f12_signAt m s p = 40) : TrI (begT t (Pl s (tpO os)) (Pl s p) 3) m s (p + 1) (p :: os) 0 0 false := by
  have hL := hk.len s hs
  have p0 := hB.1.1
  have p1 := hB.1.2
  have e1 : (p + 1).toInt = p.toInt + 1 := inc_t p0 (by omega)
  obtain ⟨⟨a1, a2⟩, b, ⟨d1, d2⟩, f1, f2, f3, g1, g2, g3, g4, g5⟩ := TrI.beg hk hs hT hS hB 3
  generalize begT t (Pl s (tpO os)) (Pl s p) 3 = t' at *
  have lt : ∀ i : Int32, i.toInt < (p + 1).toInt → ¬ i = p → i.toInt < p.toInt := fun i h z => by rw [i32eq] at z; omega
  have nl : ¬ f12_isLetter (f12_signAt m s p) = true := by rw [h40]; decide
  refine ⟨⟨⟨by show (t' 3 0 (Pl s p)).toInt = _; rw [g3]; rfl, fun _ => ⟨g4, g5⟩, fun z => by omega⟩, ⟨n, a1⟩, a2⟩, fun i i1 i2 i3 _ => ?_, ⟨fun o ho => ?_, fun z => by omega⟩, fun i i1 i2 i3 => ?_, fun i i1 i2 i3 => ?_, fun i i1 i2 i3 i4 => ?_⟩
  · exact b i i1 (lt i i2 (fun z => i3 (by rw [z]; exact List.mem_cons_self))) (fun z => i3 (List.mem_cons_of_mem _ z))
  · rcases List.mem_cons.1 ho with z | z
    · rw [z]; exact d2
    · exact d1 o z
  · by_cases z : i = p
    · rw [z]
      exact ⟨g1, fun y => absurd (List.mem_cons_self) y⟩
    · obtain ⟨x1, x2⟩ := f1 i i1 (lt i i2 z) i3
      exact ⟨x1, fun y => x2 (fun y' => y (List.mem_cons_of_mem _ y'))⟩
  · have ne : ¬ i = p := fun z => nl (by rw [← z]; exact i3)
    obtain ⟨x1, x2⟩ := f2 i i1 (lt i i2 ne) i3
    exact ⟨x1, fun _ => x2⟩
  · have ne : ¬ i = p := fun z => i3 (by rw [z]; exact h40)
    obtain ⟨x1, x2⟩ := f3 i i1 (lt i i2 ne) i3 i4
    exact ⟨x1, fun _ => x2⟩
/-- a sign with which nothing begins -/
theorem TrI.skip (h0 : 0 ≤ p.toInt) (h1 : p.toInt < 1000) (hT : TrI t m s p os n c w) (hB : ¬ Bx m s p) : TrI t m s (p + 1) os n c w := by
  have e1 : (p + 1).toInt = p.toInt + 1 := inc_t h0 (by omega)
  have lt : ∀ i : Int32, Bx m s i → i.toInt < (p + 1).toInt → i.toInt < p.toInt := fun i hi h => by
    by_cases z : i = p
    · rw [z] at hi; exact absurd hi hB
    · rw [i32eq] at z; omega
  obtain ⟨a, b, d, f1, f2, f3⟩ := hT
  exact ⟨a, fun i i1 i2 => b i i1 (lt i i1 i2), d, fun i i1 i2 => f1 i i1 (lt i i1 i2), fun i i1 i2 => f2 i i1 (lt i i1 i2), fun i i1 i2 => f3 i i1 (lt i i1 i2)⟩
/-- the word at the end goes on -/
theorem TrI.grow (hT : TrI t m s p os n c true) (v : Int32) : TrI (u3 t 2 0 (Pl s c) v) m s p os n c true := by
  obtain ⟨⟨a1, a2⟩, b, ⟨d1, d2⟩, f1, f2, f3⟩ := hT
  have n2 : ∀ (g : Nat), ¬ g = 2 → u3 t 2 0 (Pl s c) v g = t g := fun g h => u3_ne _ _ _ h
  have c2 : ∀ i : Int32, ¬ i = c → u3 t 2 0 (Pl s c) v 2 0 (Pl s i) = t 2 0 (Pl s i) := fun i h => u3_j (fun z => h (Pl_inj z))
  refine ⟨⟨?_, ?_⟩, fun i i1 i2 i3 i4 => ?_, ⟨fun o ho => ?_, fun z => ?_⟩, fun i i1 i2 i3 => ?_, fun i i1 i2 i3 => ?_, fun i i1 i2 i3 i4 => ?_⟩
  · unfold LsI at a1 ⊢
    rw [n2 3 (by decide), n2 4 (by decide), n2 5 (by decide)]; exact a1
  · exact a2.fr (fun q _ => by rw [n2 3 (by decide), n2 4 (by decide), n2 5 (by decide)]; exact ⟨rfl, rfl, rfl⟩)
  · rw [n2 6 (by decide)]; exact b i i1 i2 i3 i4
  · rw [n2 6 (by decide)]; exact d1 o ho
  · rw [n2 6 (by decide)]; exact d2 z
  · obtain ⟨x1, x2⟩ := f1 i i1 i2 i3
    rw [n2 1 (by decide)]
    refine ⟨x1, fun z => ⟨(x2 z).1, ?_⟩⟩
    have := (x2 z).2
    unfold LsT at this ⊢
    rw [n2 3 (by decide), n2 4 (by decide)]; exact this
  · rw [n2 1 (by decide)]
    obtain ⟨x1, x2⟩ := f2 i i1 i2 i3
    exact ⟨x1, fun y => by rw [c2 i (fun z => y ⟨rfl, z⟩)]; exact x2 y⟩
  · rw [n2 1 (by decide)]
    obtain ⟨x1, x2⟩ := f3 i i1 i2 i3 i4
    exact ⟨x1, fun y => by rw [c2 i (fun z => y ⟨rfl, z⟩)]; exact x2 y⟩
/-- the word at the end is done with -/
theorem TrI.settle (hT : TrI t m s p os n c true) (h1 : f12_isLetter (f12_signAt m s c) = true → t 2 0 (Pl s c) = f12_nameAt m s c) (h2 : ¬ f12_isLetter (f12_signAt m s c) = true → t 2 0 (Pl s c) = f12_numberAt m s c) : TrI t m s p os n c false := by
  obtain ⟨a, b, d, f1, f2, f3⟩ := hT
  refine ⟨a, b, d, f1, fun i i1 i2 i3 => ?_, fun i i1 i2 i3 i4 => ?_⟩
  · obtain ⟨x1, x2⟩ := f2 i i1 i2 i3
    refine ⟨x1, fun _ => ?_⟩
    by_cases z : i = c
    · rw [z] at i3 ⊢; exact h1 i3
    · exact x2 (fun y => z y.2)
  · obtain ⟨x1, x2⟩ := f3 i i1 i2 i3 i4
    refine ⟨x1, fun _ => ?_⟩
    by_cases z : i = c
    · rw [z] at i4 ⊢; exact h2 i4
    · exact x2 (fun y => z y.2)
theorem ScI.settle (hp : p.toInt ≤ 120) (hS : ScI m s p os n c true) (hw : ¬ wd12 (f12_signAt m s p)) : ScI m s p os n c false := by
  obtain ⟨s1, s2, s3, s4, s5, s6⟩ := hS
  obtain ⟨a, b, d⟩ := s6 rfl
  obtain ⟨b1, b2, b3⟩ := s3 a
  refine ⟨s1, s2, s3, fun z => by omega, fun _ _ => ⟨p, endOf_atom b1.1.1 hp b2 hw b b1.ne.2.1 d, b2, Int.le_refl _, fun j j0 j1 => by omega⟩, fun z => by cases z⟩
theorem cn_of {k : Nat} {a : Int32} (hk : Ok12 m) (hs : vp_in s 8) (hX : Tx12 m s) (hN : Nx12 m s a) (h : skp12 m s k a = c) (hc : ¬ c = -1) (hf : f12_following m s c = -1) : CN12 m s a = k + 1 := by
  have h1 := skp_cn hk hs hX k a hN
  have h2 := skp_cn hk hs hX (k + 1) a hN
  rw [skp_s, h, if_neg hc] at h2
  rw [h] at h1
  have a1 := h2.mp hf
  have a2 : ¬ CN12 m s a ≤ k := fun z => hc (h1.mpr z)
  omega
/-- a list ends -/
theorem TrI.close {o : Int32} (hk : Ok12 m) (hs : vp_in s 8) (hX : Tx12 m s) (h0 : 0 ≤ p.toInt) (hp : p.toInt < 120) (hT : TrI t m s p (o :: os) n c false) (hS : ScI m s p (o :: os) n c false) (h41 : f12_signAt m s p = 41) : ∃ n' : Nat, TrI t m s (p + 1) os (n' + 1) o false ∧ ScI m s (p + 1) os (n' + 1) o false := by
  have e1 : (p + 1).toInt = p.toInt + 1 := inc_t h0 (by omega)
  have hL := hk.len s hs
  have gap := gap_c hS h0 (by omega) (by rw [h41]; decide)
  have nx : nxS m s p = -1 := by unfold nxS; rw [h41]; rfl
  rw [nx] at gap
  obtain ⟨⟨a1, ⟨n', a2⟩, a3⟩, b, ⟨d1, d2⟩, f1, f2, f3⟩ := hT
  obtain ⟨⟨⟨q1, q2, q3, q4, q5, q6⟩, s1⟩, s2, s3, s4, s5, s6⟩ := hS
  have nB : ¬ Bx m s p := fun z => z.ne.2.1 h41
  have lt : ∀ i : Int32, Bx m s i → i.toInt < (p + 1).toInt → i.toInt < p.toInt := fun i hi h => by
    by_cases z : i = p
    · rw [z] at hi; exact absurd hi nB
    · rw [i32eq] at z; omega
  have dq : dp m s (p + 1) = os.length := by
    rw [dp_s h0 (by omega), s2, h41, List.length_cons, show dl12 41 = -1 from rfl]; omega
  have lst : ExE (Bx m s) (f12_nextAt m s (o + 1)) ∧ LsT t m s (Pl s o) (f12_nextAt m s (o + 1)) := by
    have a1' : LsI t m s (o + 1) (Pl s o) n c := a1
    obtain ⟨l1, l2, l3⟩ := a1'
    by_cases z : n = 0
    · have gz : f12_nextAt m s (o + 1) = -1 := gap.1 z
      rw [gz]
      refine ⟨Or.inl rfl, by rw [(l2 z).1, Px_m], ?_⟩
      rw [l1, z, CN12_none]
    · obtain ⟨r1, r2, r3, r4, r5⟩ := l3 (by omega)
      refine ⟨Or.inr r1, by rw [r2, Px_e r1.1.ne], ?_⟩
      rw [l1, cn_of hk hs hX (Or.inr r1.1) r3 (s3 (by omega)).1.1.ne (gap.2 (by omega))]
      congr 1; omega
  refine ⟨n', ⟨⟨a2, a3⟩, fun i i1 i2 i3 i4 => ?_, ⟨fun q hq => d1 q (List.mem_cons_of_mem _ hq), fun _ => d1 o List.mem_cons_self⟩, fun i i1 i2 i3 => ?_, fun i i1 i2 i3 => ?_, fun i i1 i2 i3 i4 => ?_⟩, s1.nxt h0 (by omega) (by omega), dq, fun _ => ⟨q1, by omega, q4⟩, fun z => by omega, fun _ _ => ⟨p + 1, ?_, by omega, Int.le_refl _, fun j j0 j1 => by omega⟩, fun z => by cases z⟩
  · by_cases y : 0 < n ∧ i = c
    · rw [y.2, gap.2 y.1, d2 y.1]
      exact ⟨Or.inl rfl, (Px_m s).symm⟩
    · exact b i i1 (lt i i1 i2) (fun z => (List.mem_cons.1 z).elim (fun x => i4 ⟨by omega, x⟩) i3) y
  · obtain ⟨x1, x2⟩ := f1 i i1 (lt i i1 i2) i3
    refine ⟨x1, fun y => ?_⟩
    by_cases z : i = o
    · rw [z]; exact lst
    · exact x2 (fun z' => (List.mem_cons.1 z').elim z y)
  · obtain ⟨x1, x2⟩ := f2 i i1 (lt i i1 i2) i3
    exact ⟨x1, fun _ => x2 (fun z => by cases z.1)⟩
  · obtain ⟨x1, x2⟩ := f3 i i1 (lt i i1 i2) i3 i4
    exact ⟨x1, fun _ => x2 (fun z => by cases z.1)⟩
  · refine endOf_list q1.1.1 (by omega) (by omega) (fun j j0 j1 => ?_) (by rw [dq, q5]) q2
    rw [q5]; exact q6 j j0 (by omega)
/-- the text ends -/
theorem TrI.ends (hk : Ok12 m) (hs : vp_in s 8) (hX : Tx12 m s) (hp : p = m 3 0 s) (hT : TrI t m s p [] n c false) (hS : ScI m s p [] n c false) : TreeOk t m s (Bx m s) := by
  have hL := hk.len s hs
  rw [← hp] at hL
  have z0 : f12_signAt m s p = 0 := signAt_z (by rw [hp]; exact Int.le_refl _)
  have gap := gap_c hS hL.1 hL.2 (by rw [z0]; decide)
  have nx : nxS m s p = -1 := by unfold nxS; rw [z0]; rfl
  rw [nx] at gap
  obtain ⟨⟨a1, a3⟩, b, ⟨d1, d2⟩, f1, f2, f3⟩ := hT
  obtain ⟨s1, s2, s3, s4, s5, s6⟩ := hS
  have a1' : LsI t m s 0 (Pl s 120) n c := a1
  refine ⟨?_, fun i hi => ?_⟩
  · obtain ⟨l1, l2, l3⟩ := a1'
    by_cases z : n = 0
    · have gz : f12_nextAt m s 0 = -1 := gap.1 z
      rw [gz]
      refine ⟨Or.inl rfl, by rw [(l2 z).1, Px_m], ?_⟩
      rw [l1, z, CN12_none]
    · obtain ⟨r1, r2, r3, r4, r5⟩ := l3 (by omega)
      refine ⟨Or.inr r1, by rw [r2, Px_e r1.1.ne], ?_⟩
      rw [l1, cn_of hk hs hX (Or.inr r1.1) r3 (s3 (by omega)).1.1.ne (gap.2 (by omega))]
      congr 1; omega
  · have ip : i.toInt < p.toInt := by rw [hp]; exact hi.1.2
    have nn : ¬ i ∈ ([] : List Int32) := List.not_mem_nil
    have F : ExE (Bx m s) (f12_following m s i) ∧ t 6 0 (Pl s i) = Px s (f12_following m s i) := by
      by_cases y : 0 < n ∧ i = c
      · rw [y.2, gap.2 y.1, d2 y.1]
        exact ⟨Or.inl rfl, (Px_m s).symm⟩
      · exact b i hi ip nn y
    refine ⟨hi.1, F.1, F.2, fun z => ?_, fun z => ?_, fun z y => ?_⟩
    · obtain ⟨x1, x2⟩ := f1 i hi ip z
      exact ⟨x1, x2 nn⟩
    · obtain ⟨x1, x2⟩ := f2 i hi ip z
      exact ⟨x1, x2 (fun y => by cases y.1)⟩
    · obtain ⟨x1, x2⟩ := f3 i hi ip z y
      exact ⟨x1, x2 (fun y => by cases y.1)⟩
end HANG
