/-! the run of an order: its loop -/
section RUN
variable {t x8 : Cm} {E : Int32 → Int32 → Prop} {L : Int} {w : Int32} {M0 M : Wm} {m0 m e : Cm} {s i : Int32}
theorem runExpr_e {p2 : Int32} (r : Int32 × Wm) (hr : f7_ev 30 M p2 0 = r) : f7_runExpression M w p2 = if r.2 7 0 0 10 = 0 then uW (uW r.2 4 (u3 (r.2 4) 4 w 7 r.1)) 4 (u3 (u3 (r.2 4) 4 w 7 r.1) 4 w 6 (r.2 4 4 w 6 + 1)) else uW (uW r.2 1 (f1_undoTo (r.2 1) (M 1 0 0 7))) 4 (f4_undoFrom (r.2 4) (M 4 0 0 1)) := by
  unfold f7_runExpression
  simp only [bnd_e, hr]
  rfl
theorem lp128_end (f : Nat) (m : Cm) : f12_run_lp128 w s f (-1, m) = m := by
  cases f with
  | zero => rfl
  | succ f => rw [f12_run_lp128_s, if_pos rfl]
theorem lp128_ok {f : Nat} {n : Int32} (hn : ¬ n = -1) (he : f12_evaluate m s n = e) (h63 : e 0 0 63 = 0) : f12_run_lp128 w s (f + 1) (n, m) = f12_run_lp128 w s f (f12_following (fin12 e w) s n, fin12 e w) := by
  rw [f12_run_lp128_s]
  simp only [bnd_e]
  rw [if_neg hn, he, if_pos h63]
  rfl
theorem lp128_bad {f : Nat} {n x : Int32} (hn : ¬ n = -1) (he : f12_evaluate m s n = e) (h63 : f12_undo e (m 0 0 21) (m 0 0 11) 0 0 63 = x) (he63 : ¬ e 0 0 63 = 0) : f12_run_lp128 w s (f + 1) (n, m) = u3 (u3 (f12_undo e (m 0 0 21) (m 0 0 11)) 17 0 w (if x = 7 then 2 else 3)) 18 0 w (if x = 7 then 0 else x) := by
  rw [f12_run_lp128_s]
  simp only [bnd_e, jn_e]
  rw [if_neg hn, he, if_neg he63, h63]
  by_cases c : x = 7
  · rw [if_pos c, if_pos c, if_pos c, if_pos c, lp128_end]
  · rw [if_neg c, if_neg c, if_neg c, if_neg c, lp128_end]
theorem lp105_stop {K : Wm → Wm} {f : Nat} {cnt n P : Int32} (h : ¬ M 7 0 0 10 = 0) : f7_execute_lp105 w K P (f + 1) (cnt, n, M) = K M := by
  rw [f7_execute_lp105_s]
  simp only [bnd_e]
  by_cases c : f9_partsOf (M 9) P ≤ cnt
  · rw [if_pos c]
  · rw [if_neg c, if_neg h]
theorem loop_c {K : Wm → Wm} (hL1 : L ≤ 1000000) (h99 : H99 t x8 E) (hs : vp_in s 8) : ∀ (k : Nat) (M : Wm) (m : Cm) (n cnt : Int32) (f f' : Nat), RunS t x8 E L w M m → M 7 0 0 10 = 0 → (m 17 0 w = 1 ∧ m 18 0 w = 0) → f12_faultOf m s = -1 → ExE (E s) n → CN12 m s n ≤ k → (0 ≤ cnt.toInt ∧ (f9_partsOf t (Pl s 120)).toInt = cnt.toInt + (CN12 m s n : Int)) → k < f → k < f' → LpOk' s w m n ∧ ∃ Mf, f7_execute_lp105 w K (Pl s 120) (f + 1) (cnt, Px s n, M) = K Mf ∧ FinR t x8 E L w Mf (f12_run_lp128 w s (f' + 1) (n, m)) := by
  intro k
  induction k with
  | zero =>
    intro M m n cnt f f' h h10 h17 hft hE hk hp hf hf'
    have hT := (h.1.2.1 s hs).2 hft
    have hX := faultOf_T h.1.2.2.2.2.2.2.1 hs hft
    have hn : n = -1 := (skp_cn h.1.2.2.2.2.2.2.1 hs hX 0 n (hE.nx hT)).mpr hk
    subst hn
    refine ⟨LpOk'.none _ _ _, M, ?_, ?_⟩
    · rw [f7_execute_lp105_s]
      simp only [bnd_e]
      rw [h.1.1.1, if_pos]
      simp only [i32le]; omega
    · rw [lp128_end]; exact h.fin h10 h17
  | succ k ih =>
    intro M m n cnt f f' h h10 h17 hft hE hk hp hf hf'
    have hk0 := h.1.2.2.2.2.2.2.1
    have hT := (h.1.2.1 s hs).2 hft
    have hX := faultOf_T hk0 hs hft
    by_cases hn : n = -1
    · subst hn
      have c0 : CN12 m s (-1) ≤ 0 := (skp_cn hk0 hs hX 0 (-1) (Or.inl rfl)).mp rfl
      refine ⟨LpOk'.none _ _ _, M, ?_, ?_⟩
      · rw [f7_execute_lp105_s]
        simp only [bnd_e]
        rw [h.1.1.1, if_pos]
        simp only [i32le]; omega
      · rw [lp128_end]; exact h.fin h10 h17
    · have hE1 : E s n := hE.resolve_left hn
      have nd := hT.2 _ hE1
      have le := nd.1.le hk0 hs
      have cs := CN12_s hk0 hs hX nd.1
      obtain ⟨e, ⟨j, rn⟩, ok, W, A, q1, q2⟩ := expr_c hL1 h99 h h10 hs hft hE1
      have he := evaluate_eq rn
      obtain ⟨f0, rfl⟩ : ∃ f0, f = f0 + 1 := ⟨f - 1, by omega⟩
      obtain ⟨f1, rfl⟩ : ∃ f1, f' = f1 + 1 := ⟨f' - 1, by omega⟩
      have hcl := CN12_lt hk0 hs hX (hE.nx hT)
      have step : f7_execute_lp105 w K (Pl s 120) (f0 + 1 + 1) (cnt, Px s n, M) = f7_execute_lp105 w K (Pl s 120) (f0 + 1) (cnt + 1, f9_nextOf ((f7_runExpression M w (Pl s n)) 9) (Pl s n), f7_runExpression M w (Pl s n)) := by
        rw [f7_execute_lp105_s]
        simp only [bnd_e]
        rw [h.1.1.1, if_neg (by simp only [i32le]; omega), if_pos h10, Px_e hn]
      rw [step, runExpr_e _ rfl]
      generalize f7_ev 30 M (Pl s n) 0 = r at W A q1 q2
      by_cases c : r.2 7 0 0 10 = 0
      · obtain ⟨a1, a2, a3⟩ := q1 c
        rw [if_pos c]
        have R := a3.val (v := r.1) a2
        have tx : (fin12 e w) 2 = m 2 ∧ (fin12 e w) 3 = m 3 := ⟨(fin_g e w (by decide) (by decide)).trans ok.2.1, (fin_g e w (by decide) (by decide)).trans ok.2.2⟩
        have hW := A.2.2.1
        have I := ih _ (fin12 e w) (f12_following m s n) (cnt + 1) f0 f1 R (show r.2 7 0 0 10 = 0 from c) ⟨by rw [fin_g e w (by decide) (by decide), hW.1]; exact h17.1, by rw [fin_g e w (by decide) (by decide), hW.2.1]; exact h17.2⟩ (by rw [faultOf_fr tx]; exact hft) nd.2.1 (by rw [CN12_fr tx]; omega) (by rw [CN12_fr tx, inc_t hp.1 (by have := (i32rng (f9_partsOf t (Pl s 120))).2; omega)]; omega) (by omega) (by omega)
        obtain ⟨I1, Mf, I2, I3⟩ := I
        refine ⟨?_, Mf, ?_, ?_⟩
        · obtain ⟨kk, hl⟩ := I1
          exact ⟨kk + 1, Or.inr ⟨j, e, rn, ok, fun _ => hl⟩⟩
        · have nx : f9_nextOf ((uW (uW r.2 4 (u3 (r.2 4) 4 w 7 r.1)) 4 (u3 (u3 (r.2 4) 4 w 7 r.1) 4 w 6 (r.2 4 4 w 6 + 1))) 9) (Pl s n) = Px s (f12_following m s n) := by
            rw [show (uW (uW r.2 4 (u3 (r.2 4) 4 w 7 r.1)) 4 (u3 (u3 (r.2 4) 4 w 7 r.1) 4 w 6 (r.2 4 4 w 6 + 1))) 9 = t from W.1.1, next_e hs le.1 le.2]; exact nd.2.2.1
          rw [nx]; exact I2
        · rw [lp128_ok hn he a1, following_fr tx]; exact I3
      · have a1 := q2 c
        rw [if_neg c]
        have e63 : ¬ e 0 0 63 = 0 := by rw [a1]; exact c
        have F := fault_c h.1 W A rfl c
        have B := (back_c h.1 W A).2.2.2.2.2.1 63 (by decide)
        refine ⟨⟨1, Or.inr ⟨j, e, rn, ok, fun z => absurd z e63⟩⟩, _, lp105_stop (show ¬ r.2 7 0 0 10 = 0 from c), ?_⟩
        rw [lp128_bad hn he (B.trans a1) e63]
        exact F
end RUN
