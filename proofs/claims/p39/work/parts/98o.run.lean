/-! the run of an order keeps the thrown number; runs, in both, between calls -/
section KZR
variable {x0 : Int32} {m e : Cm} {s w n : Int32}
theorem kz_stp (h : Kzz x0 m) : Kzz x0 (stp12 m) := by
  unfold stp12
  split
  · refine kz_advance ?_ _
    unfold adv12
    exact kz_g h (by decide)
  · exact kz_enter h
theorem kz_run12 : ∀ (k : Nat) (m : Cm), Kzz x0 m → Run12 k m e → Kzz x0 e := by
  intro k
  induction k with
  | zero => intro m h r; rw [← r.2]; exact h
  | succ k ih => intro m h r; exact ih _ (kz_stp h) r.2.2
theorem kz_ini (h : Kzz x0 m) (s i : Int32) : Kzz x0 (ini12 m s i) := by
  unfold ini12
  exact kz_s (kz_s (kz_s (kz_s (kz_s (kz_s (kz_s (kz_s h (by decide)) (by decide)) (by decide)) (by decide)) (by decide)) (by decide)) (by decide)) (by decide)
theorem kz_lp128 : ∀ (k : Nat) (m : Cm) (n : Int32), Kzz x0 m → LpOk' s w m n → Kzz x0 (f12_run_lp128 w s k (n, m)) := by
  intro k
  induction k with
  | zero => intro m n h _; exact h
  | succ k ih =>
    intro m n h hL
    by_cases hn : n = -1
    · subst hn; rw [lp128_end]; exact h
    · obtain ⟨⟨j, e, rn, ok⟩, hnext⟩ := hL.next hn
      have he := evaluate_eq rn
      have hz : Kzz x0 e := kz_run12 _ _ (kz_ini h _ _) rn
      rw [he] at hnext
      by_cases c : e 0 0 63 = 0
      · rw [lp128_ok hn he c]
        have tx : fin12 e w 2 = m 2 ∧ fin12 e w 3 = m 3 := ⟨(fin_g e w (by decide) (by decide)).trans ok.2.1, (fin_g e w (by decide) (by decide)).trans ok.2.2⟩
        rw [following_fr tx]
        refine ih _ _ ?_ (hnext c)
        unfold fin12
        exact kz_g (kz_g hz (by decide)) (by decide)
      · rw [lp128_bad hn he rfl c]
        exact kz_g (kz_g (kz_undo hz _ _) (by decide)) (by decide)
theorem kz_r0 (h : Kzz x0 m) : Kzz x0 (run0 m w) ∧ Kzz x0 (runF m w) := by
  unfold run0 runF
  exact ⟨kz_g (kz_g (kz_s (kz_s (kz_s (kz_s h (by decide)) (by decide)) (by decide)) (by decide)) (by decide)) (by decide), kz_g (kz_g (kz_s (kz_s (kz_s (kz_s h (by decide)) (by decide)) (by decide)) (by decide)) (by decide)) (by decide)⟩
theorem kz_run {t x8 : Cm} {E : Int32 → Int32 → Prop} (hk : Ok12 m) (hw60 : vp_in w 60) (hs0 : m 14 0 w = s) (hs : vp_in s 8) (hX : TextR t x8 m E) (h19 : 0 ≤ (m 19 0 w).toInt) (hR : RunOk m w) (h : Kzz x0 m) : Kzz x0 (f12_run m w) := by
  rw [run_e hs0]
  obtain ⟨okr, okf⟩ := run0_ok hk hw60
  have txr : run0 m w 2 = m 2 ∧ run0 m w 3 = m 3 := ⟨(run0_g m w (by decide)).1, (run0_g m w (by decide)).1⟩
  unfold RunOk at hR
  rw [hs0] at hR
  by_cases c : f12_faultOf m s = -1
  · rw [if_pos c]
    have hTr := (hX s hs).2 c
    have hTx := faultOf_T hk hs c
    have hTxr := hTx.fr txr
    have hn0 : Nx12 m s (f12_nextAt m s 0) := hTr.1.1.nx hTr
    have hn0r : Nx12 (run0 m w) s (f12_nextAt m s 0) := by rw [Nx12_eq txr]; exact hn0
    have cl := CN12_lt okr hs hTxr hn0r
    rw [lp96_e okr hs hTxr 123 0 (f12_nextAt (run0 m w) s 0) (by rw [nextAt_fr txr]; exact hn0r) (by rw [nextAt_fr txr]; exact cl) (by decide) (by rw [t32_0]; omega)]
    rw [nextAt_fr txr, t32_0, show (m 19 0 w).toInt - 0 = (m 19 0 w).toInt by omega, skp_fr txr]
    exact kz_lp128 _ _ _ (kz_r0 h).1 (hR c)
  · rw [if_neg c, lp96_m1, lp128_end]
    exact (kz_r0 h).2
end KZR
section REL
variable {L : Int} {M M1 : Wm} {m m1 : Cm} {p1 p2 p3 p4 w : Int32}
/-- as between calls, the reference's data apart -/
def RWm (L : Int) (M : Wm) (m : Cm) : Prop := RTx (M 9) (M 8) m ∧ WQ0 L M m ∧ InvO m ∧ Ok7 M
theorem RWm.row (h : RWm L M m) (h0 : 0 ≤ w.toInt) (h1 : w.toInt < (M 4 0 0 1).toInt) : (vp_in w 60 ∧ w.toInt < (m 0 0 11).toInt) ∧ (vp_in (m 13 0 w) 4 ∧ vp_in (m 14 0 w) 8) ∧ (M 4 4 w 0 = m 13 0 w ∧ M 4 4 w 1 = m 14 0 w ∧ M 4 4 w 2 = m 15 0 w) ∧ M 4 4 w 4 = m 17 0 w ∧ (m 17 0 w = 0 → M 4 4 w 3 = m 16 0 w) := by
  have o := h.2.1.2.2.1
  obtain ⟨q1, q2, q3, q4, q5, q6, q7, q8, q9⟩ := o.2.2.2.1 w h0 h1
  have ne : ¬ w = -1 := by intro z; rw [z] at h0; exact absurd h0 (by decide)
  obtain ⟨b1, b2, b3, b4⟩ := q8 ne
  have := o.2.2.1.2
  exact ⟨⟨by rw [vp_in_iff]; exact ⟨h0, by omega⟩, by rw [← o.1]; exact h1⟩, ⟨q6, q7⟩, ⟨q1, q2, q3⟩, b1, b4⟩
theorem RWm.exp (h : RWm L M m) (h0 : 0 ≤ w.toInt) (h1 : w.toInt < (M 4 0 0 1).toInt) : ExP M w := by
  obtain ⟨⟨a, _⟩, ⟨b, c⟩, ⟨d, e, _⟩, _⟩ := h.row h0 h1
  have hk := h.2.1.2.2.2.2.1
  refine ⟨h.2.2.2, a, by rw [d]; exact b, by rw [e]; exact c, fun j hj => ?_⟩
  rw [(h.1.1 j hj).1]; exact hk.len j hj
theorem run_w (h : RWm L M m) (hL : L ≤ 1000000) (hw : 0 ≤ w.toInt ∧ w.toInt < (M 4 0 0 1).toInt) (hp : p2 = m 16 0 w) (hp0 : 0 ≤ p2.toInt ∧ p2.toInt ≤ 1000) : (RunOk m w ∧ RWm L (f7_execute M w p2) (f12_run m w)) ∧ (OkT m (f12_run m w) ∧ RwK w m (f12_run m w)) ∧ f12_run m w 0 0 0 = m 0 0 0 ∧ f7_execute M w p2 12 = M 12 := by
  have hrow := h.row hw.1 hw.2
  obtain ⟨h1, h2, h3, h4⟩ := h
  have hk := h2.2.2.2.2.1
  have h1' : RTx (st0 M w p2 9) (st0 M w p2 8) m := h1
  obtain ⟨r1, _, _⟩ := read_st (w := w) (p2 := p2) (M := M) hk h1.2.1 h1.ft rfl
  obtain ⟨a, b, c⟩ := readAll_c (M := st0 M w p2) hk h1' rfl
  obtain ⟨i1, i2⟩ := h3 w hw.1 hrow.1.2
  obtain ⟨e1, e2, e3, e4⟩ := exec_c hL h99_all h2 rfl r1 ⟨⟨rfl, rfl⟩, b⟩ hw hp hp0 i1.1 i1.2
  have eT := e2.1
  have hz := kz_run (x0 := m 0 0 0) hk hrow.1.1 rfl hrow.2.1.2 b i1.1 e1 rfl
  refine ⟨⟨e1, ⟨?_, e2.to0, h3.run e3 e4, ok7_f7_execute h4 w p2 (by rw [hrow.2.2.1.1]; exact hrow.2.1.1)⟩⟩, ⟨e3.1, e3.2.1⟩, hz, fk_f7_execute (x0 := M 12) rfl w p2⟩
  rw [eT.1, eT.2]
  exact a.fr hk e3.1.2
end REL
