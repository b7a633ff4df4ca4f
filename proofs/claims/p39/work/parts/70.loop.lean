/-! the run of an order: expression after expression -/
section RUN
variable {t x8 : Cm} {E : Int32 → Int32 → Prop} {L : Int} {w : Int32} {M0 M : Wm} {m0 m e : Cm} {s i : Int32}
theorem RelOr.val {o m : Cm} {u v : Int32} (h : RelOr o m w u) (hw : 0 ≤ w.toInt ∧ w.toInt < (o 0 0 1).toInt) (hv : m 0 0 62 = v) : RelOr (u3 (u3 o 4 w 7 v) 4 w 6 (o 4 w 6 + 1)) (fin12 m w) w u := by
  obtain ⟨h1, h2, h3, h4, h5⟩ := h
  have c : ∀ (i k : Int32), ¬ k = 7 → ¬ k = 6 → u3 (u3 o 4 w 7 v) 4 w 6 (o 4 w 6 + 1) 4 i k = o 4 i k := by
    intro i k a b
    by_cases ci : i = w
    · rw [ci, u3_j b, u3_j a]
    · rw [u3_i ci, u3_i ci]
  have c6 : ∀ i : Int32, u3 (u3 o 4 w 7 v) 4 w 6 (o 4 w 6 + 1) 4 i 6 = if i = w then o 4 w 6 + 1 else o 4 i 6 := by
    intro i
    by_cases ci : i = w
    · rw [if_pos ci, ci, u3_at]
    · rw [if_neg ci, u3_i ci, u3_i ci]
  have c7 : ∀ i : Int32, u3 (u3 o 4 w 7 v) 4 w 6 (o 4 w 6 + 1) 4 i 7 = if i = w then v else o 4 i 7 := by
    intro i
    by_cases ci : i = w
    · rw [if_pos ci, ci, u3_j (by decide), u3_at]
    · rw [if_neg ci, u3_i ci, u3_i ci]
  have g : ∀ g : Nat, ¬ g = 19 → ¬ g = 20 → fin12 m w g = m g := by
    intro g a b; unfold fin12; rw [u3_ne _ _ _ b, u3_ne _ _ _ a]
  have g19 : ∀ i : Int32, fin12 m w 19 0 i = if i = w then m 19 0 w + 1 else m 19 0 i := by
    intro i; unfold fin12
    rw [u3_ne _ _ _ (by decide)]
    by_cases ci : i = w
    · rw [if_pos ci, ci, u3_at]
    · rw [if_neg ci, u3_j ci]
  have g20 : ∀ i : Int32, fin12 m w 20 0 i = if i = w then v else m 20 0 i := by
    intro i; unfold fin12
    by_cases ci : i = w
    · rw [if_pos ci, ci, u3_at, hv]
    · rw [if_neg ci, u3_j ci, u3_ne _ _ _ (by decide)]
  have o1 : u3 (u3 o 4 w 7 v) 4 w 6 (o 4 w 6 + 1) 0 0 1 = o 0 0 1 := by rw [u3_ne _ _ _ (by decide), u3_ne _ _ _ (by decide)]
  have o2 : u3 (u3 o 4 w 7 v) 4 w 6 (o 4 w 6 + 1) 0 0 2 = o 0 0 2 := by rw [u3_ne _ _ _ (by decide), u3_ne _ _ _ (by decide)]
  unfold RelOr wyI
  rw [o1, o2, g 0 (by decide) (by decide), g 13 (by decide) (by decide), g 14 (by decide) (by decide), g 15 (by decide) (by decide), g 16 (by decide) (by decide), g 17 (by decide) (by decide), g 18 (by decide) (by decide), g 21 (by decide) (by decide)]
  refine ⟨h1, h2, h3, fun i a b => ?_, fun i a b => ?_⟩
  · obtain ⟨q1, q2, q3, q4, q5, q6, q7, q8, q9⟩ := h4 i a b
    rw [c i 0 (by decide) (by decide), c i 1 (by decide) (by decide), c i 2 (by decide) (by decide), c i 4 (by decide) (by decide), c i 5 (by decide) (by decide), c i 8 (by decide) (by decide), c i 3 (by decide) (by decide), c6, c7, g19, g20]
    refine ⟨q1, q2, q3, ?_, ?_, q6, q7, q8, q9⟩
    · by_cases ci : i = w
      · rw [if_pos ci, if_pos ci]; rw [ci] at q4; rw [q4]
      · rw [if_neg ci, if_neg ci]; exact q4
    · by_cases ci : i = w
      · rw [if_pos ci, if_pos ci]
      · rw [if_neg ci, if_neg ci]; exact q5
  · have ne : ¬ i = w := by rw [i32eq]; omega
    rw [c i 4 (by decide) (by decide), c i 5 (by decide) (by decide), c i 8 (by decide) (by decide), c6, c7, g19, g20, if_neg ne, if_neg ne, if_neg ne, if_neg ne]
    exact h5 i a b
theorem fin_g (m : Cm) (w : Int32) {g : Nat} (a : ¬ g = 19) (b : ¬ g = 20) : fin12 m w g = m g := by unfold fin12; rw [u3_ne _ _ _ b, u3_ne _ _ _ a]
/-- a value is written down -/
theorem RunS.val {v : Int32} (h : RunS t x8 E L w M m) (hv : m 0 0 62 = v) : RunS t x8 E L w (uW (uW M 4 (u3 (M 4) 4 w 7 v)) 4 (u3 (u3 (M 4) 4 w 7 v) 4 w 6 (M 4 4 w 6 + 1))) (fin12 m w) := by
  obtain ⟨⟨h1, h2, h3, ⟨h4, h5, h6⟩, h7, h8, h9, h10⟩, hF, b2, b3⟩ := h
  have e : ∀ g : Nat, ¬ g = 19 ∧ ¬ g = 20 → fin12 m w g = m g := fun g hg => fin_g m w hg.1 hg.2
  refine ⟨⟨h1, h2.fr ⟨e 2 (by decide), e 3 (by decide)⟩, RelQ.fr (show RelQ (M 5) m from h3) (e 5 (by decide)) (e 6 (by decide)) (e 7 (by decide)) (e 8 (by decide)) (e 9 (by decide)) (by rw [e 0 (by decide)]), ⟨?_, h5, h6⟩, h7.val ⟨h8.2.1.1, by rw [h7.1]; exact h8.2.1.2⟩ hv, ?_, ok12_putA (ok12_putA h9 (by decide)) (by decide), h10.fr (e 28 (by decide)) (e 29 (by decide)) (e 30 (by decide))⟩, RelFn.fr (show RelFn t E (M 2) m from hF) rfl rfl rfl (by rw [e 0 (by decide)]) ⟨e 2 (by decide), e 3 (by decide)⟩ (e 52 (by decide)) (e 53 (by decide)) (e 54 (by decide)) (e 55 (by decide)) (e 56 (by decide)), b2, b3⟩
  · show RelBk (M 1) (fin12 m w)
    unfold RelBk RelMv RelS at h4 ⊢
    rw [e 0 (by decide), e 23 (by decide), e 24 (by decide), e 25 (by decide), e 26 (by decide), e 27 (by decide), e 4 (by decide)]; exact h4
  · show RunR (M 7) (fin12 m w) w
    unfold RunR at h8 ⊢
    rw [e 0 (by decide), e 16 (by decide)]; exact h8
theorem RunS.fin (h : RunS t x8 E L w M m) (h10 : M 7 0 0 10 = 0) (h17 : m 17 0 w = 1 ∧ m 18 0 w = 0) : FinR t x8 E L w M m := by
  obtain ⟨⟨h1, h2, h3, h4, h7, h8, h9, hC⟩, _⟩ := h
  refine ⟨h1, h2, h3, h4, h7, h8.2.2.2.2.2.1.2, h9, hC, ⟨h8.2.1.1, by rw [h7.1]; exact h8.2.1.2⟩, fun _ => h17, fun z => ?_, fun z => absurd h10 z⟩
  rw [h10] at z; exact absurd z (by decide)
/-- a fault is written down -/
theorem fault_c {x : Int32} (h0 : WR t x8 E L w M0 m0) (h : WR t x8 E L w M e) (hA : HsA w M0 m0 M e) (hx : M 7 0 0 10 = x) (hx0 : ¬ x = 0) : FinR t x8 E L w (uW (uW M 1 (f1_undoTo (M 1) (M0 1 0 0 7))) 4 (f4_undoFrom (M 4) (M0 4 0 0 1))) (u3 (u3 (f12_undo e (m0 0 0 21) (m0 0 0 11)) 17 0 w (if x = 7 then 2 else 3)) 18 0 w (if x = 7 then 0 else x)) := by
  have B := back_c h0 h hA
  have okU : Ok12 (f12_undo e (m0 0 0 21) (m0 0 0 11)) := (okT_f12_undo (m0 := e) ⟨h.2.2.2.2.2.2.1, rfl, rfl⟩ (m0 0 0 21) (m0 0 0 11) (by rw [← h0.2.2.2.1.1.1]; exact h0.2.2.2.1.1.2.1.1)).1
  generalize f12_undo e (m0 0 0 21) (m0 0 0 11) = r at B okU
  obtain ⟨B1, B2, B3, B4, B5, B6, B7⟩ := B
  obtain ⟨h1, h2, h3, h4, h7, h8, h9, hC⟩ := h
  have g : ∀ g : Nat, (¬ g = 0 ∧ ¬ g = 4) ∧ ¬ g = 17 ∧ ¬ g = 18 → u3 (u3 r 17 0 w (if x = 7 then 2 else 3)) 18 0 w (if x = 7 then 0 else x) g = e g := by
    intro g hg
    rw [u3_ne _ _ _ hg.2.2, u3_ne _ _ _ hg.2.1, B5 g hg.1.1 hg.1.2 hg.2.1]
  have g1 : ∀ g : Nat, ¬ g = 17 ∧ ¬ g = 18 → u3 (u3 r 17 0 w (if x = 7 then 2 else 3)) 18 0 w (if x = 7 then 0 else x) g = r g := by
    intro g hg
    rw [u3_ne _ _ _ hg.2, u3_ne _ _ _ hg.1]
  have s : ∀ k : Int32, ¬ k = 21 → u3 (u3 r 17 0 w (if x = 7 then 2 else 3)) 18 0 w (if x = 7 then 0 else x) 0 0 k = e 0 0 k := by
    intro k hk
    rw [g1 0 (by decide)]; exact B6 k hk
  have e17 : u3 (u3 r 17 0 w (if x = 7 then 2 else 3)) 18 0 w (if x = 7 then 0 else x) 17 0 w = if x = 7 then 2 else 3 := by rw [u3_ne _ _ _ (by decide), u3_at]
  have e18 : u3 (u3 r 17 0 w (if x = 7 then 2 else 3)) 18 0 w (if x = 7 then 0 else x) 18 0 w = if x = 7 then 0 else x := by rw [u3_at]
  refine ⟨h1, h2.fr ⟨g 2 (by decide), g 3 (by decide)⟩, RelQ.fr (show RelQ (M 5) e from h3) (g 5 (by decide)) (g 6 (by decide)) (g 7 (by decide)) (g 8 (by decide)) (g 9 (by decide)) (s 9 (by decide)), ⟨?_, B2, B3⟩, ?_, ?_, ok12_putA (ok12_putA okU (by decide)) (by decide), hC.fr (g 28 (by decide)) (g 29 (by decide)) (g 30 (by decide)), ?_, fun z => absurd (hx.symm.trans z) hx0, fun z => ?_, fun z1 z2 => ?_⟩
  · show RelBk (f1_undoTo (M 1) (M0 1 0 0 7)) _
    unfold RelBk RelMv RelS at B1 ⊢
    rw [g1 0 (by decide), g1 23 (by decide), g1 24 (by decide), g1 25 (by decide), g1 26 (by decide), g1 27 (by decide), g1 4 (by decide)]; exact B1
  · show RelOr (f4_undoFrom (M 4) (M0 4 0 0 1)) _ w (M 7 0 0 9)
    refine B4.st (by rw [g1 0 (by decide)]) (by rw [g1 0 (by decide)]) (g1 13 (by decide)) (g1 14 (by decide)) (g1 15 (by decide)) (g1 16 (by decide)) (fun j hj => ?_) (fun j hj => ?_) (g1 19 (by decide)) (g1 20 (by decide)) (g1 21 (by decide))
    · rw [u3_ne _ _ _ (by decide), u3_j hj]
    · rw [u3_j hj, u3_ne _ _ _ (by decide)]
  · rw [s 10 (by decide)]; exact h8.2.2.2.2.2.1.2
  · refine ⟨h8.2.1.1, ?_⟩
    show _ < (f4_undoFrom (M 4) (M0 4 0 0 1) 0 0 1).toInt
    rw [B4.1, B6 11 (by decide)]; exact h8.2.1.2
  · have z7 : x = 7 := hx.symm.trans z
    rw [e17, e18, if_pos z7, if_pos z7]; exact ⟨rfl, rfl⟩
  · have z7 : ¬ x = 7 := fun q => z2 (show M 7 0 0 10 = 7 from hx.trans q)
    rw [e17, e18, if_neg z7, if_neg z7]; exact ⟨rfl, hx.symm⟩
end RUN
