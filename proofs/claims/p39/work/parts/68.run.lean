/-! the run of an order: one expression -/
section RUN
variable {t x8 : Cm} {E : Int32 → Int32 → Prop} {L : Int} {w : Int32} {M0 M : Wm} {m0 m : Cm} {s i : Int32}
/-- between a run's expressions -/
def RunS (t x8 : Cm) (E : Int32 → Int32 → Prop) (L : Int) (w : Int32) (M : Wm) (m : Cm) : Prop := WR t x8 E L w M m ∧ RelFn t E (M 2) m ∧ M 2 0 0 2 = 0 ∧ M 2 0 0 3 = 0
theorem ini_g (m : Cm) (s i : Int32) {g : Nat} (h : ¬ g = 0) : ini12 m s i g = m g := by
  unfold ini12
  rw [u3_ne _ _ _ h, u3_ne _ _ _ h, u3_ne _ _ _ h, u3_ne _ _ _ h, u3_ne _ _ _ h, u3_ne _ _ _ h, u3_ne _ _ _ h, u3_ne _ _ _ h]
theorem ini_s (m : Cm) (s i : Int32) {k : Int32} (h : (¬ k = 45 ∧ ¬ k = 48) ∧ (¬ k = 49 ∧ ¬ k = 63) ∧ (¬ k = 62 ∧ ¬ k = 59) ∧ ¬ k = 60 ∧ ¬ k = 61) : ini12 m s i 0 0 k = m 0 0 k := by
  unfold ini12
  rw [u3_s h.2.2.2.2, u3_s h.2.2.2.1, u3_s h.2.2.1.2, u3_s h.2.2.1.1, u3_s h.2.1.2, u3_s h.2.1.1, u3_s h.1.2, u3_s h.1.1]
theorem ini_ok (hk : Ok12 m) (hs : vp_in s 8) : Ok12 (ini12 m s i) := by
  unfold ini12
  refine ok12_put0 (okT_s60 (m0 := m) (okT_put0 (okT_put0 (okT_put0 (okT_s49 (okT_s48 (okT_s45 ⟨hk, rfl, rfl⟩ ?_) ?_) ?_) (by decide)) (by decide)) (by decide)) hs).1 (by decide)
  all_goals decide
theorem RunS.ini (h : RunS t x8 E L w M m) (hs : vp_in s 8) : WR t x8 E L w M (ini12 m s i) ∧ NR t E M (ini12 m s i) := by
  obtain ⟨⟨h1, h2, h3, ⟨h4, h5, h6⟩, h7, h8, h9, h10⟩, hF, b2, b3⟩ := h
  have e : ∀ g : Nat, ¬ g = 0 → ini12 m s i g = m g := fun g hg => ini_g m s i hg
  refine ⟨⟨h1, h2.fr ⟨e 2 (by decide), e 3 (by decide)⟩, h3.fr (e 5 (by decide)) (e 6 (by decide)) (e 7 (by decide)) (e 8 (by decide)) (e 9 (by decide)) (ini_s m s i (by decide)), ⟨?_, h5, h6⟩, h7.fr (ini_s m s i (by decide)) (ini_s m s i (by decide)) (e 13 (by decide)) (e 14 (by decide)) (e 15 (by decide)) (e 16 (by decide)) (e 17 (by decide)) (e 18 (by decide)) (e 19 (by decide)) (e 20 (by decide)) (e 21 (by decide)), ?_, ini_ok h9 hs, h10.fr (e 28 (by decide)) (e 29 (by decide)) (e 30 (by decide))⟩, ?_, ?_⟩
  · unfold RelBk RelMv RelS at h4 ⊢
    rw [ini_s m s i (by decide), e 23 (by decide), e 24 (by decide), e 25 (by decide), e 26 (by decide), e 27 (by decide), e 4 (by decide)]; exact h4
  · unfold RunR at h8 ⊢
    rw [ini_s m s i (k := 56) (by decide), ini_s m s i (k := 11) (by decide), ini_s m s i (k := 57) (by decide), e 16 (by decide), ini_s m s i (k := 58) (by decide), ini_s m s i (k := 10) (by decide)]; exact h8
  · unfold RelB2
    rw [b2, b3]
    exact ⟨rfl, rfl, by decide, by decide, by decide, fun j a b => by rw [t32_0] at b; omega⟩
  · exact RelFn.fr hF rfl rfl rfl (ini_s m s i (by decide)) ⟨e 2 (by decide), e 3 (by decide)⟩ (e 52 (by decide)) (e 53 (by decide)) (e 54 (by decide)) (e 55 (by decide)) (e 56 (by decide))
/-- an expression of the script, in both -/
theorem expr_c (hL1 : L ≤ 1000000) (h99 : H99 t x8 E) (h : RunS t x8 E L w M m) (h10 : M 7 0 0 10 = 0) (hs : vp_in s 8) (hft : f12_faultOf m s = -1) (hE : E s i) : ∃ e, (∃ j, Run12 j (ini12 m s i) e) ∧ OkT m e ∧ WR t x8 E L w (f7_ev 30 M (Pl s i) 0).2 e ∧ HsA w M m (f7_ev 30 M (Pl s i) 0).2 e ∧ ((f7_ev 30 M (Pl s i) 0).2 7 0 0 10 = 0 → e 0 0 63 = 0 ∧ e 0 0 62 = (f7_ev 30 M (Pl s i) 0).1 ∧ RunS t x8 E L w (f7_ev 30 M (Pl s i) 0).2 e) ∧ (¬ (f7_ev 30 M (Pl s i) 0).2 7 0 0 10 = 0 → e 0 0 63 = (f7_ev 30 M (Pl s i) 0).2 7 0 0 10) := by
  obtain ⟨W, N⟩ := h.ini (i := i) hs
  have tx : ini12 m s i 2 = m 2 ∧ ini12 m s i 3 = m 3 := ⟨ini_g m s i (by decide), ini_g m s i (by decide)⟩
  have pre : PreE t x8 E L w M (ini12 m s i) s i 0 := ⟨W, N, ⟨h10, rfl⟩, ⟨by show ¬ (1 : Int32) = 0; decide, rfl, rfl, rfl⟩, ⟨hs, by rw [faultOf_fr tx]; exact hft, hE⟩, by rw [h.2.2.1]; decide⟩
  obtain ⟨e, st, hA, hW, q1, q2⟩ := ev_c (w := w) hL1 h99 30 0 (by decide) (by decide) (by decide) M (ini12 m s i) s i pre
  generalize f7_ev 30 M (Pl s i) 0 = r at hA hW q1 q2
  have hA' : HsA w M m r.2 e := by
    refine ⟨hA.1, hA.2.1, ?_, hA.2.2.2⟩
    have := hA.2.2.1
    unfold HsW at this ⊢
    rw [ini_g m s i (by decide), ini_g m s i (by decide), ini_g m s i (by decide), ini_g m s i (by decide), ini_g m s i (by decide)] at this
    exact this
  obtain ⟨j, st⟩ := st
  have ng : ¬ go12 e := by
    by_cases c : r.2 7 0 0 10 = 0
    · obtain ⟨_, ⟨a1, a2, a3, _⟩, _⟩ := q1 c
      intro z
      rcases z.2 with z | z
      · exact z a2
      · rw [a3] at z; exact absurd z (by decide)
    · intro z
      exact c ((q2 c).symm.trans z.1)
  refine ⟨e, ⟨j, Stps.run st ng⟩, ⟨hW.2.2.2.2.2.2.1, hA'.2.2.1.2.2.2.1, hA'.2.2.1.2.2.2.2⟩, hW, hA', fun c => ?_, q2⟩
  obtain ⟨n1, ⟨a1, a2, a3, a4⟩, _, b2, b3, _⟩ := q1 c
  exact ⟨a1, a4, hW, n1.2, b2.trans h.2.2.1, b3.trans h.2.2.2⟩
end RUN
