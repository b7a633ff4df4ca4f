/-! THE TREE WHILE A TEXT IS READ: an expression begins -/
section HANG
variable {t m : Cm} {s p c : Int32} {os : List Int32} {n : Nat}
theorem tp_r (hN : NsI m s p os) (hp : p.toInt ≤ 120) : 0 ≤ (tpO os).toInt ∧ (tpO os).toInt ≤ 120 := by
  have t120 : (120 : Int32).toInt = 120 := by decide
  cases os with
  | nil => show 0 ≤ (120 : Int32).toInt ∧ (120 : Int32).toInt ≤ 120; rw [t120]; omega
  | cons o os => have a := hN.1.1.1.1; have b := hN.1.2.2.1; show 0 ≤ o.toInt ∧ o.toInt ≤ 120; omega
theorem st_r (hN : NsI m s p os) (h0 : 0 ≤ p.toInt) (hp : p.toInt ≤ 120) : 0 ≤ (stO os).toInt ∧ (stO os).toInt ≤ p.toInt := by
  cases os with
  | nil => show 0 ≤ (0 : Int32).toInt ∧ (0 : Int32).toInt ≤ _; rw [t32_0]; omega
  | cons o os => have a := hN.1.1.1.1; have b := hN.1.2.2.1; show 0 ≤ (o + 1).toInt ∧ (o + 1).toInt ≤ _; rw [inc_t a (by omega)]; omega
theorem tp_ne {i : Int32} (hi : i.toInt < 120) (h : ¬ i ∈ os) : ¬ i = tpO os := by
  have t120 : (120 : Int32).toInt = 120 := by decide
  cases os with
  | nil => intro z; rw [z] at hi; exact absurd hi (by show ¬ (120 : Int32).toInt < 120; rw [t120]; omega)
  | cons o os => intro z; apply h; rw [z]; exact List.mem_cons_self
/-- what comes behind the last part -/
def nxS (m : Cm) (s p : Int32) : Int32 := if f12_signAt m s p = 0 then -1 else if f12_signAt m s p = 41 then -1 else p
theorem gap_c (hS : ScI m s p os n c false) (h0 : 0 ≤ p.toInt) (hp : p.toInt ≤ 120) (h32 : ¬ f12_signAt m s p = 32) : (n = 0 → f12_nextAt m s (stO os) = nxS m s p) ∧ (0 < n → f12_following m s c = nxS m s p) := by
  obtain ⟨s1, s2, s3, s4, s5, s6⟩ := hS
  refine ⟨fun z => ?_, fun z => ?_⟩
  · have r := st_r s1 h0 hp
    exact nextAt_scan r.1 r.2 (by omega) (s4 z).2 h32
  · obtain ⟨e, e1, e2, e3, e4⟩ := s5 z rfl
    have c0 := (s3 z).1.1.1
    show f12_nextAt m s (f12_endOf m s c) = _
    rw [e1]
    exact nextAt_scan (by omega) e3 (by omega) e4 h32
set_option maxHeartbeats 1000000 in
theorem TrI.beg (hk : Ok12 m) (hs : vp_in s 8) (hT : TrI t m s p os n c false) (hS : ScI m s p os n c false) (hB : Bx m s p) (k : Int32) :
    (LsI (begT t (Pl s (tpO os)) (Pl s p) k) m s (stO os) (Pl s (tpO os)) (n + 1) p ∧ OvI (begT t (Pl s (tpO os)) (Pl s p) k) m s os) ∧
    (∀ i : Int32, Bx m s i → i.toInt < p.toInt → ¬ i ∈ os → ExE (Bx m s) (f12_following m s i) ∧ begT t (Pl s (tpO os)) (Pl s p) k 6 0 (Pl s i) = Px s (f12_following m s i)) ∧
    ((∀ o ∈ os, begT t (Pl s (tpO os)) (Pl s p) k 6 0 (Pl s o) = -1) ∧ begT t (Pl s (tpO os)) (Pl s p) k 6 0 (Pl s p) = -1) ∧
    (∀ i : Int32, Bx m s i → i.toInt < p.toInt → f12_signAt m s i = 40 → begT t (Pl s (tpO os)) (Pl s p) k 1 0 (Pl s i) = 3 ∧ (¬ i ∈ os → ExE (Bx m s) (f12_nextAt m s (i + 1)) ∧ LsT (begT t (Pl s (tpO os)) (Pl s p) k) m s (Pl s i) (f12_nextAt m s (i + 1)))) ∧
    (∀ i : Int32, Bx m s i → i.toInt < p.toInt → f12_isLetter (f12_signAt m s i) = true → begT t (Pl s (tpO os)) (Pl s p) k 1 0 (Pl s i) = 2 ∧ begT t (Pl s (tpO os)) (Pl s p) k 2 0 (Pl s i) = f12_nameAt m s i) ∧
    (∀ i : Int32, Bx m s i → i.toInt < p.toInt → ¬ f12_signAt m s i = 40 → ¬ f12_isLetter (f12_signAt m s i) = true → begT t (Pl s (tpO os)) (Pl s p) k 1 0 (Pl s i) = 1 ∧ begT t (Pl s (tpO os)) (Pl s p) k 2 0 (Pl s i) = f12_numberAt m s i) ∧
    (begT t (Pl s (tpO os)) (Pl s p) k 1 0 (Pl s p) = k ∧ begT t (Pl s (tpO os)) (Pl s p) k 2 0 (Pl s p) = 0 ∧ begT t (Pl s (tpO os)) (Pl s p) k 3 0 (Pl s p) = 0 ∧ begT t (Pl s (tpO os)) (Pl s p) k 4 0 (Pl s p) = -1 ∧ begT t (Pl s (tpO os)) (Pl s p) k 5 0 (Pl s p) = -1) := by
  obtain ⟨⟨hLs, hLv⟩, h3, ⟨h4o, h4c⟩, h5, h6, h7⟩ := hT
  have hS' := hS
  obtain ⟨s1, s2, s3, s4, s5, s6⟩ := hS
  have hL := hk.len s hs
  have p0 := hB.1.1
  have p1 := hB.1.2
  have tr := tp_r s1 (by omega)
  have hA := Pl_in hs tr.1 tr.2
  have hP := Pl_in hs p0 (by omega)
  have t120 : (120 : Int32).toInt = 120 := by decide
  have pos : ¬ p ∈ os := fun z => by have := (s1.mem p z).2.2; omega
  have tne : ¬ p = tpO os := tp_ne (by omega) pos
  have hAP : ¬ Pl s (tpO os) = Pl s p := fun z => tne (Pl_inj z).symm
  have g := hB.ne
  have gap := gap_c hS' p0 (by omega) g.1
  have nx : nxS m s p = p := by unfold nxS; rw [if_neg g.2.2, if_neg g.2.1]
  rw [nx] at gap
  have h5A : t 5 0 (Pl s (tpO os)) = -1 ∨ (¬ t 5 0 (Pl s (tpO os)) < 0 ∧ ¬ 968 ≤ t 5 0 (Pl s (tpO os)) ∧ t 5 0 (Pl s (tpO os)) < 968) := by
    by_cases z : n = 0
    · exact Or.inl (hLs.2.1 z).2
    · obtain ⟨a1, a2, a3, a4, a5⟩ := hLs.2.2 (by omega)
      obtain ⟨b1, b2, b3⟩ := s3 (by omega)
      rw [a4]; exact Or.inr (Pl_in hs b1.1.1 (by omega))
  have C := begT_c k hA hP hAP h5A
  have Ci : ∀ i : Int32, ¬ i = p → ¬ i = tpO os → begT t (Pl s (tpO os)) (Pl s p) k 3 0 (Pl s i) = t 3 0 (Pl s i) ∧ begT t (Pl s (tpO os)) (Pl s p) k 4 0 (Pl s i) = t 4 0 (Pl s i) ∧ begT t (Pl s (tpO os)) (Pl s p) k 5 0 (Pl s i) = t 5 0 (Pl s i) := by
    intro i i1 i2
    have n1 : ¬ Pl s i = Pl s p := fun z => i1 (Pl_inj z)
    have n2 : ¬ Pl s i = Pl s (tpO os) := fun z => i2 (Pl_inj z)
    obtain ⟨c1, c2, c3, c4, c5, c6⟩ := C (Pl s i)
    rw [c3, c4, c5, if_neg n2, if_neg n1, if_neg (fun z => n2 z.2), if_neg n1, if_neg n2, if_neg n1]
    exact ⟨rfl, rfl, rfl⟩
  have Cj : ∀ i : Int32, ¬ i = p → begT t (Pl s (tpO os)) (Pl s p) k 1 0 (Pl s i) = t 1 0 (Pl s i) ∧ begT t (Pl s (tpO os)) (Pl s p) k 2 0 (Pl s i) = t 2 0 (Pl s i) ∧ begT t (Pl s (tpO os)) (Pl s p) k 6 0 (Pl s i) = (if 0 < n ∧ i = c then Pl s p else t 6 0 (Pl s i)) := by
    intro i i1
    have n1 : ¬ Pl s i = Pl s p := fun z => i1 (Pl_inj z)
    obtain ⟨c1, c2, c3, c4, c5, c6⟩ := C (Pl s i)
    rw [c1, c2, c6, if_neg n1, if_neg n1, if_neg n1]
    refine ⟨rfl, rfl, ?_⟩
    by_cases z : n = 0
    · rw [(hLs.2.1 z).2, if_neg (fun y => y.1 rfl), if_neg (fun y => by omega)]
    · obtain ⟨a1, a2, a3, a4, a5⟩ := hLs.2.2 (by omega)
      obtain ⟨b1, b2, b3⟩ := s3 (by omega)
      rw [a4]
      have nm : ¬ Pl s c = -1 := Pl_ne hs b1.1.1 (by omega)
      by_cases y : i = c
      · rw [if_pos ⟨nm, by rw [y]⟩, if_pos ⟨by omega, y⟩]
      · rw [if_neg (fun x => y (Pl_inj x.2)), if_neg (fun x => y x.2)]
  have plt : ∀ i : Int32, i.toInt < p.toInt → ¬ i = p := fun i h z => by rw [z] at h; omega
  refine ⟨⟨?_, ?_⟩, fun i i1 i2 i3 => ?_, ⟨fun o ho => ?_, ?_⟩, fun i i1 i2 i3 => ?_, fun i i1 i2 i3 => ?_, fun i i1 i2 i3 i4 => ?_, ?_⟩
  · obtain ⟨c1, c2, c3, c4, c5, c6⟩ := C (Pl s (tpO os))
    obtain ⟨l1, l2, l3⟩ := hLs
    have nle : (n : Int) ≤ p.toInt := by
      by_cases z : n = 0
      · omega
      · have a5 := (l3 (by omega)).2.2.2.2
        have b2 := (s3 (by omega)).2.1
        omega
    refine ⟨?_, fun z => by omega, fun _ => ?_⟩
    · rw [c3, if_pos rfl, inc_t (by rw [l1]; omega) (by rw [l1]; omega), l1]; omega
    · have e5 : begT t (Pl s (tpO os)) (Pl s p) k 5 0 (Pl s (tpO os)) = Pl s p := by rw [c5, if_pos rfl]
      rw [e5, c4]
      by_cases z : n = 0
      · have gz := gap.1 z
        rw [gz, (l2 z).2, if_pos ⟨rfl, rfl⟩]
        refine ⟨hB, rfl, ?_, rfl, by omega⟩
        rw [z]; rfl
      · obtain ⟨a1, a2, a3, a4, a5⟩ := l3 (by omega)
        obtain ⟨b1, b2, b3⟩ := s3 (by omega)
        have nm : ¬ Pl s c = -1 := Pl_ne hs b1.1.1 (by omega)
        rw [if_neg (fun y => nm (a4.symm.trans y.1)), if_neg hAP]
        refine ⟨a1, a2, ?_, rfl, by omega⟩
        have cm : ¬ c = -1 := b1.1.ne
        obtain ⟨j, rfl⟩ : ∃ j, n = j + 1 := ⟨n - 1, by omega⟩
        show skp12 m s (j + 1) _ = p
        rw [skp_s, show skp12 m s j (f12_nextAt m s (stO os)) = c from a3, if_neg cm]
        exact gap.2 (by omega)
  · cases os with
    | nil => trivial
    | cons o os =>
      refine OvI.fr hLv (fun q hq => Ci q ?_ ?_)
      · rcases hq with z | z
        · intro y; rw [z] at y; rw [← y, t120] at p1; omega
        · exact fun y => pos (by rw [← y]; exact List.mem_of_mem_drop z)
      · show ¬ q = o
        rcases hq with z | z
        · intro y; have := s1.1.2.2.1; rw [← y, z, t120] at this; omega
        · intro y; have := s1.1.2.2.2.1 q z; rw [y] at this; omega
  · obtain ⟨c1, c2, c6⟩ := Cj i (plt i i2)
    rw [c6]
    by_cases y : 0 < n ∧ i = c
    · rw [if_pos y, y.2, gap.2 y.1]
      exact ⟨Or.inr hB, (Px_e hB.1.ne).symm⟩
    · rw [if_neg y]; exact h3 i i1 i2 i3 y
  · have hm := s1.mem o ho
    obtain ⟨c1, c2, c6⟩ := Cj o (plt o hm.2.2)
    rw [c6, if_neg (fun y => by have := (s3 y.1).2.2 o ho; rw [y.2] at this; omega)]
    exact h4o o ho
  · obtain ⟨c1, c2, c3, c4, c5, c6⟩ := C (Pl s p)
    rw [c6, if_neg, if_pos rfl]
    intro y
    by_cases z : n = 0
    · exact y.1 (hLs.2.1 z).2
    · obtain ⟨a1, a2, a3, a4, a5⟩ := hLs.2.2 (by omega)
      have b2 := (s3 (by omega)).2.1
      rw [a4] at y
      have := Pl_inj y.2
      rw [this] at b2; omega
  · obtain ⟨c1, c2, c6⟩ := Cj i (plt i i2)
    obtain ⟨a1, a2⟩ := h5 i i1 i2 i3
    rw [c1]
    refine ⟨a1, fun z => ?_⟩
    obtain ⟨b1, b2⟩ := a2 z
    obtain ⟨d3, d4, d5⟩ := Ci i (plt i i2) (tp_ne (by omega) z)
    refine ⟨b1, ?_⟩
    unfold LsT at b2 ⊢
    rw [d3, d4]; exact b2
  · obtain ⟨c1, c2, c6⟩ := Cj i (plt i i2)
    rw [c1, c2]
    obtain ⟨a1, a2⟩ := h6 i i1 i2 i3
    exact ⟨a1, a2 (fun z => by cases z.1)⟩
  · obtain ⟨c1, c2, c6⟩ := Cj i (plt i i2)
    rw [c1, c2]
    obtain ⟨a1, a2⟩ := h7 i i1 i2 i3 i4
    exact ⟨a1, a2 (fun z => by cases z.1)⟩
  · obtain ⟨c1, c2, c3, c4, c5, c6⟩ := C (Pl s p)
    have nA : ¬ Pl s p = Pl s (tpO os) := fun z => hAP z.symm
    rw [c1, c2, c3, c4, c5, if_pos rfl, if_pos rfl, if_neg nA, if_pos rfl, if_neg (fun z => nA z.2), if_pos rfl, if_neg nA, if_pos rfl]
    exact ⟨rfl, rfl, rfl, rfl, rfl⟩
end HANG
