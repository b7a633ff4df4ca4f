/-! the run of an order, in both, and what it leaves -/
section RUN
variable {t x8 : Cm} {E : Int32 → Int32 → Prop} {L : Int} {w : Int32} {M0 M N : Wm} {m0 m e : Cm} {s i : Int32}
theorem fin_n0 (h : FinR t x8 E L w M m) : ¬ m 17 0 w = 0 := by
  obtain ⟨h1, h2, h3, h4, h5, h6, h7, h8, h9, s0, s7, s9⟩ := h
  by_cases c0 : M 7 0 0 10 = 0
  · rw [(s0 c0).1]; decide
  · by_cases c7 : M 7 0 0 10 = 7
    · rw [(s7 c7).1]; decide
    · rw [(s9 c0 c7).1]; decide
set_option maxHeartbeats 4000000 in
theorem exec_c {p2 : Int32} (hL1 : L ≤ 1000000) (h99 : H99 t x8 E) (hW : WQ0 L M m) (hN : f8_readChanged (st0 M w p2) = N) (hN1 : N 1 = M 1 ∧ N 2 = f2_clear (M 2) ∧ N 4 = M 4 ∧ N 5 = M 5 ∧ N 7 = st7 M w p2) (hT : (N 9 = t ∧ N 8 = x8) ∧ TextR t x8 m E) (hw : 0 ≤ w.toInt ∧ w.toInt < (M 4 0 0 1).toInt) (hp : p2 = m 16 0 w) (hp0 : 0 ≤ p2.toInt ∧ p2.toInt ≤ 1000) (h19 : 0 ≤ (m 19 0 w).toInt) (h19' : (m 19 0 w).toInt ≤ 120) :
    RunOk m w ∧ WQ t x8 E L (f7_execute M w p2) (f12_run m w) ∧ HsR w 120 m (f12_run m w) ∧ ¬ f12_run m w 17 0 w = 0 := by
  obtain ⟨hQ, hB, hO, hH, hk, hC⟩ := hW
  obtain ⟨n1, n2, n4, n5, n7⟩ := hN1
  obtain ⟨⟨n9, n8⟩, hX⟩ := hT
  have hwl : w.toInt < 60 := by have := hO.2.2.1.2; omega
  have hw60 : vp_in w 60 := by rw [vp_in_iff]; exact ⟨hw.1, hwl⟩
  have row := hO.2.2.2.1 w hw.1 hw.2
  obtain ⟨q1, q2, q3, q4, q5, q6, q7, q8, q9⟩ := row
  generalize hs0 : m 14 0 w = s at q2 q7
  have hs := q7
  obtain ⟨okr, okf⟩ := run0_ok hk hw60
  have w11 : w.toInt < (m 0 0 11).toInt ∧ 0 ≤ (m 0 0 11).toInt := by rw [← hO.1]; exact ⟨hw.2, hO.2.2.1.1⟩
  have oB : RelOr (N 4) (run0 m w) w 0 ∧ RelOr (N 4) (runF m w) w 0 := by
    rw [n4]
    exact ⟨hO.begin hw.1 (run0_s m w (by decide)).1 (run0_s m w (by decide)).1 (run0_g m w (by decide)).1 (run0_g m w (by decide)).1 (run0_g m w (by decide)).1 (run0_g m w (by decide)).1 (fun j hj => (run0_17 m w hj).1.1) (fun j hj => (run0_17 m w hj).1.2) (run0_g m w (by decide)).1 (run0_g m w (by decide)).1 (run0_g m w (by decide)).1,
      hO.begin hw.1 (run0_s m w (by decide)).2 (run0_s m w (by decide)).2 (run0_g m w (by decide)).2 (run0_g m w (by decide)).2 (run0_g m w (by decide)).2 (run0_g m w (by decide)).2 (fun j hj => (run0_17 m w hj).2.1) (fun j hj => (run0_17 m w hj).2.2) (run0_g m w (by decide)).2 (run0_g m w (by decide)).2 (run0_g m w (by decide)).2⟩
  have eF : f8_faultOf (N 8) (N 4 4 w 1) = f12_faultOf m s := by
    rw [n4, q2, n8]; exact (hX s hs).1.1
  rw [execute_e hN, eF, run_e hs0]
  have txr : run0 m w 2 = m 2 ∧ run0 m w 3 = m 3 := ⟨(run0_g m w (by decide)).1, (run0_g m w (by decide)).1⟩
  by_cases c : f12_faultOf m s = -1
  · rw [if_pos c, if_pos c]
    have hTr := (hX s hs).2 c
    have hTx := faultOf_T hk hs c
    have hTxr := hTx.fr txr
    have hn0 : Nx12 m s (f12_nextAt m s 0) := hTr.1.1.nx hTr
    have hRoot := TreeOk.root hk hs hTx hTr
    have R0 : RunS t x8 E L w N (run0 m w) := by
      refine ⟨⟨⟨n9, n8⟩, hX.fr txr, ?_, ⟨?_, by rw [n1]; exact hB.2.1, by rw [n1]; exact hB.2.2⟩, ?_, ?_, okr, hC.fr (run0_g m w (by decide)).1 (run0_g m w (by decide)).1 (run0_g m w (by decide)).1⟩, ?_, ?_, ?_⟩
      · rw [n5]; exact hQ.fr (run0_g m w (by decide)).1 (run0_g m w (by decide)).1 (run0_g m w (by decide)).1 (run0_g m w (by decide)).1 (run0_g m w (by decide)).1 (run0_s m w (by decide)).1
      · rw [n1]
        have h4 := hB.1
        unfold RelBk RelMv RelS at h4 ⊢
        rw [(run0_s m w (k := 21) (by decide)).1, (run0_g m w (g := 23) (by decide)).1, (run0_g m w (g := 24) (by decide)).1, (run0_g m w (g := 25) (by decide)).1, (run0_g m w (g := 26) (by decide)).1, (run0_g m w (g := 27) (by decide)).1, (run0_g m w (g := 4) (by decide)).1]; exact h4
      · rw [n7]; exact oB.1
      · rw [n7]
        unfold RunR
        rw [(run0_s m w (k := 11) (by decide)).1, (run0_s m w (k := 10) (by decide)).1, (run0_g m w (g := 16) (by decide)).1, ← hp, ← hO.1]
        exact ⟨⟨rfl, rfl⟩, hw, q1, rfl, rfl, ⟨by show 0 ≤ (0 : Int32).toInt; decide, hH⟩, hp0.1, hp0.2⟩
      · rw [n2]
        exact ⟨rfl, ⟨by show 0 ≤ (0 : Int32).toInt; decide, by show (0 : Int32).toInt ≤ 8; decide⟩, fun i j a b => absurd b (by show ¬ i.toInt < (0 : Int32).toInt; rw [t32_0]; omega), fun j a b => absurd b (by show ¬ j.toInt < (0 : Int32).toInt; rw [t32_0]; omega)⟩
      · rw [n2]; rfl
      · rw [n2]; rfl
    have hn0r : Nx12 (run0 m w) s (f12_nextAt m s 0) := by rw [Nx12_eq txr]; exact hn0
    have cl := CN12_lt okr hs hTxr hn0r
    rw [lp96_e okr hs hTxr 123 0 (f12_nextAt (run0 m w) s 0) (by rw [nextAt_fr txr]; exact hn0r) (by rw [nextAt_fr txr]; exact cl) (by decide) (by rw [t32_0]; omega)]
    rw [nextAt_fr txr, t32_0, show (m 19 0 w).toInt - 0 = (m 19 0 w).toInt by omega, skp_fr txr]
    have eCls : f9_rowOf (N 4 4 w 1) = Pl s 120 ∧ N 4 4 w 6 = m 19 0 w ∧ f9_partOf (N 9) (f9_rowOf (N 4 4 w 1)) (N 4 4 w 6) = Px s (skp12 m s (m 19 0 w).toInt.toNat (f12_nextAt m s 0)) := by
      have a : f9_rowOf (N 4 4 w 1) = Pl s 120 := by rw [n4, q2, rowOf_e]
      have b : N 4 4 w 6 = m 19 0 w := by rw [n4]; exact q4
      exact ⟨a, b, by rw [a, b, n9]; exact hRoot.2.2 _ h19⟩
    rw [eCls.2.2, eCls.1, eCls.2.1]
    have hRk : RunOk m w ↔ (f12_faultOf m s = -1 → LpOk' s w (run0 m w) (skp12 m s (m 19 0 w).toInt.toNat (f12_nextAt m s 0))) := by
      unfold RunOk; rw [hs0]
    rw [hRk]
    have n70 : N 7 0 0 10 = 0 := by rw [n7]; rfl
    have f17 := (run0_w m w).1
    have ex := skp_ex hTr (m 19 0 w).toInt.toNat (f12_nextAt m s 0) hTr.1.1
    generalize hn : skp12 m s (m 19 0 w).toInt.toNat (f12_nextAt m s 0) = n at ex
    by_cases c2 : (m 19 0 w).toInt.toNat ≤ CN12 m s (f12_nextAt m s 0)
    · have cs := CN_skp hk hs hTx (m 19 0 w).toInt.toNat (f12_nextAt m s 0) hn0 c2
      rw [hn] at cs
      have n99 := h99 (run0 m w) s n okr (hX.fr txr) hs (by rw [faultOf_fr txr]; exact c) ex
      rw [CN12_fr txr] at n99
      have I := loop_c (K := endB w) hL1 h99 hs (CN12 m s n) N (run0 m w) n (m 19 0 w) (4294967295 + 0 * w.toInt.toNat) 122 R0 n70 f17 (by rw [faultOf_fr txr]; exact c) ex (by rw [CN12_fr txr]; omega) ⟨h19, by rw [CN12_fr txr, hRoot.1, hRoot.2.1]; omega⟩ (by omega) (by omega)
      have m99 := h99 m s (f12_nextAt m s 0) hk hX hs c hTr.1.1
      have e19 : run0 m w 19 0 w = m 19 0 w := by rw [(run0_g m w (by decide)).1]
      have J := loop_h (B := 120) (by decide) hL1 h99 hs (CN12 m s n) N (run0 m w) n 122 R0 n70 (by rw [faultOf_fr txr]; exact c) ex (by rw [CN12_fr txr]; omega) (by omega) (by rw [e19, CN12_fr txr]; omega)
      obtain ⟨I1, Mf, I2, I3⟩ := I
      refine ⟨fun _ => I1, ?_, ?_, fin_n0 I3⟩
      · rw [show 4294967296 + 0 * w.toInt.toNat = 4294967295 + 0 * w.toInt.toNat + 1 by omega, I2, endB_e]
        exact end_c I3
      · obtain ⟨J1, J2, J3⟩ := J
        exact ⟨⟨J1.1, J1.2.1.trans txr.1, J1.2.2.trans txr.2⟩, RwK.run0.1.trans J2 w11.1 w11.2, J3⟩
    · have z : n = -1 := by rw [← hn]; exact (skp_cn hk hs hTx _ _ hn0).mpr (by omega)
      subst z
      refine ⟨fun _ => LpOk'.none _ _ _, ?_, ?_, ?_⟩
      · rw [lp128_end, show 4294967296 + 0 * w.toInt.toNat = 4294967295 + 0 * w.toInt.toNat + 1 by omega, f7_execute_lp105_s]
        simp only [bnd_e]
        rw [n9, if_pos (by simp only [i32le]; rw [hRoot.1, hRoot.2.1]; omega), endB_e]
        exact end_c (R0.fin n70 f17)
      · rw [lp128_end]
        have e19 : run0 m w 19 0 w = m 19 0 w := by rw [(run0_g m w (by decide)).1]
        exact ⟨⟨okr, txr⟩, RwK.run0.1, by rw [e19]; exact h19, by rw [e19]; exact h19'⟩
      · rw [lp128_end]; exact fin_n0 (R0.fin n70 f17)
  · rw [if_neg c, if_neg c, lp96_m1, lp128_end, endB_e]
    have txf : runF m w 2 = m 2 ∧ runF m w 3 = m 3 := ⟨(run0_g m w (by decide)).2, (run0_g m w (by decide)).2⟩
    have e19 : runF m w 19 0 w = m 19 0 w := by rw [(run0_g m w (by decide)).2]
    refine ⟨fun z => absurd (by rw [hs0] at z; exact z) c, end_c ?_, ⟨⟨okf, txf⟩, RwK.run0.2, by rw [e19]; exact h19, by rw [e19]; exact h19'⟩, by rw [(run0_w m w).2.1]; decide⟩
    refine ⟨⟨n9, n8⟩, hX.fr txf, ?_, ⟨?_, ?_, ?_⟩, ?_, ?_, okf, hC.fr (run0_g m w (by decide)).2 (run0_g m w (by decide)).2 (run0_g m w (by decide)).2, ?_, fun z => ?_, fun z => ?_, fun _ _ => ?_⟩
    · show RelQ (N 5) _
      rw [n5]; exact hQ.fr (run0_g m w (by decide)).2 (run0_g m w (by decide)).2 (run0_g m w (by decide)).2 (run0_g m w (by decide)).2 (run0_g m w (by decide)).2 (run0_s m w (by decide)).2
    · show RelBk (N 1) _
      rw [n1]
      have h4 := hB.1
      unfold RelBk RelMv RelS at h4 ⊢
      rw [(run0_s m w (k := 21) (by decide)).2, (run0_g m w (g := 23) (by decide)).2, (run0_g m w (g := 24) (by decide)).2, (run0_g m w (g := 25) (by decide)).2, (run0_g m w (g := 26) (by decide)).2, (run0_g m w (g := 27) (by decide)).2, (run0_g m w (g := 4) (by decide)).2]; exact h4
    · show BkI (N 1)
      rw [n1]; exact hB.2.1
    · show StkP L (N 1)
      rw [n1]; exact hB.2.2
    · show RelOr (N 4) _ w (N 7 0 0 9)
      rw [n7]; exact oB.2
    · rw [(run0_s m w (k := 10) (by decide)).2]; exact hH
    · show 0 ≤ w.toInt ∧ w.toInt < (N 4 0 0 1).toInt
      rw [n4]; exact hw
    · exact absurd (show (1 : Int32) = 0 from z) (by decide)
    · exact absurd (show (1 : Int32) = 7 from z) (by decide)
    · exact ⟨(run0_w m w).2.1, (run0_w m w).2.2⟩
end RUN
