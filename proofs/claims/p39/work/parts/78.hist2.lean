/-! what the loop of a run leaves -/
section HIST
variable {t x8 : Cm} {E : Int32 → Int32 → Prop} {L : Int} {w : Int32} {M0 M : Wm} {m0 m e : Cm} {s i : Int32}
theorem RwK.fin (w : Int32) (e : Cm) : RwK w e (fin12 e w) := by
  unfold RwK
  rw [fin_g e w (g := 0) (by decide) (by decide), fin_g e w (g := 15) (by decide) (by decide), fin_g e w (g := 17) (by decide) (by decide), fin_g e w (g := 16) (by decide) (by decide)]
  refine ⟨Int.le_refl _, rfl, fun i i0 i1 => ⟨rfl, fun z => ⟨rfl, ?_, fun _ => rfl⟩⟩, fun i a b => by omega⟩
  unfold fin12
  rw [u3_ne _ _ _ (by decide), u3_j z]
theorem fin_19 (e : Cm) (w : Int32) : fin12 e w 19 0 w = e 19 0 w + 1 := by
  unfold fin12; rw [u3_ne _ _ _ (by decide), u3_at]
/-- what is known behind a run -/
def HsR (w : Int32) (B : Int) (m m' : Cm) : Prop := OkT m m' ∧ RwK w m m' ∧ 0 ≤ (m' 19 0 w).toInt ∧ (m' 19 0 w).toInt ≤ B
theorem loop_h {B : Int} (hB : B ≤ 1000000) (hL1 : L ≤ 1000000) (h99 : H99 t x8 E) (hs : vp_in s 8) : ∀ (k : Nat) (M : Wm) (m : Cm) (n : Int32) (f' : Nat), RunS t x8 E L w M m → M 7 0 0 10 = 0 → f12_faultOf m s = -1 → ExE (E s) n → CN12 m s n ≤ k → k < f' → (0 ≤ (m 19 0 w).toInt ∧ (m 19 0 w).toInt + (CN12 m s n : Int) ≤ B) → HsR w B m (f12_run_lp128 w s (f' + 1) (n, m)) := by
  intro k
  induction k with
  | zero =>
    intro M m n f' h h10 hft hE hk hf' hb
    have hT := (h.1.2.1 s hs).2 hft
    have hk0 := h.1.2.2.2.2.2.2.1
    have hX := faultOf_T hk0 hs hft
    have hn : n = -1 := (skp_cn hk0 hs hX 0 n (hE.nx hT)).mpr hk
    subst hn
    rw [lp128_end]
    exact ⟨⟨hk0, rfl, rfl⟩, RwK.refl w m, hb.1, by omega⟩
  | succ k ih =>
    intro M m n f' h h10 hft hE hk hf' hb
    have hk0 := h.1.2.2.2.2.2.2.1
    have hT := (h.1.2.1 s hs).2 hft
    have hX := faultOf_T hk0 hs hft
    by_cases hn : n = -1
    · subst hn
      rw [lp128_end]
      exact ⟨⟨hk0, rfl, rfl⟩, RwK.refl w m, hb.1, by omega⟩
    · have hE1 : E s n := hE.resolve_left hn
      have nd := hT.2 _ hE1
      have cs := CN12_s hk0 hs hX nd.1
      obtain ⟨e, ⟨j, rn⟩, ok, W, A, q1, q2⟩ := expr_c hL1 h99 h h10 hs hft hE1
      have he := evaluate_eq rn
      obtain ⟨f1, rfl⟩ : ∃ f1, f' = f1 + 1 := ⟨f' - 1, by omega⟩
      generalize f7_ev 30 M (Pl s n) 0 = r at W A q1 q2
      have o := h.1.2.2.2.2.1
      have o' := W.2.2.2.2.1
      have hwl := h.1.2.2.2.2.2.1.2.1
      have hw0 : 0 ≤ w.toInt := hwl.1
      have hwo : w.toInt < (M 4 0 0 1).toInt := by rw [o.1]; exact hwl.2
      have X := RwK.expr o o' A.2.1 hwo
      have e19 : e 19 0 w = m 19 0 w := by
        have a := (o.2.2.2.1 w hw0 hwo).2.2.2.1
        have b := (o'.2.2.2.1 w hw0 (by have := A.2.1.1; omega)).2.2.2.1
        rw [A.2.1.2.2.1 w hw0 hwo] at b
        exact b.symm.trans a
      by_cases c : r.2 7 0 0 10 = 0
      · obtain ⟨a1, a2, a3⟩ := q1 c
        have R := a3.val (v := r.1) a2
        have tx : (fin12 e w) 2 = m 2 ∧ (fin12 e w) 3 = m 3 := ⟨(fin_g e w (by decide) (by decide)).trans ok.2.1, (fin_g e w (by decide) (by decide)).trans ok.2.2⟩
        have e1 : (m 19 0 w + 1).toInt = (m 19 0 w).toInt + 1 := inc_t hb.1 (by omega)
        have I := ih _ (fin12 e w) (f12_following m s n) f1 R (show r.2 7 0 0 10 = 0 from c) (by rw [faultOf_fr tx]; exact hft) nd.2.1 (by rw [CN12_fr tx]; omega) (by omega) (by rw [fin_19, e19, e1, CN12_fr tx]; omega)
        rw [lp128_ok hn he a1, following_fr tx]
        obtain ⟨I1, I2, I3⟩ := I
        refine ⟨⟨I1.1, I1.2.1.trans tx.1, I1.2.2.trans tx.2⟩, ?_, I3⟩
        have n11 : 0 ≤ (m 0 0 11).toInt := by rw [← o.1]; exact o.2.2.1.1
        have m11 : (m 0 0 11).toInt ≤ (e 0 0 11).toInt := X.1
        exact X.trans ((RwK.fin w e).trans I2 (by omega) (by omega)) hwl.2 n11
      · have a1 := q2 c
        have e63 : ¬ e 0 0 63 = 0 := by rw [a1]; exact c
        have F := fault_c h.1 W A rfl c
        obtain ⟨B1, B2, B3, B4, B5, B6, B7⟩ := back_c h.1 W A
        rw [lp128_bad hn he ((B6 63 (by decide)).trans a1) e63]
        generalize f12_undo e (m 0 0 21) (m 0 0 11) = rr at F B4 B5 B6 B7
        have g : ∀ g : Nat, ¬ g = 0 → ¬ g = 4 → ¬ g = 17 → ¬ g = 18 → u3 (u3 rr 17 0 w (if r.2 7 0 0 10 = 7 then 2 else 3)) 18 0 w (if r.2 7 0 0 10 = 7 then 0 else r.2 7 0 0 10) g = e g := by
          intro g z0 z4 z17 z18
          rw [u3_ne _ _ _ z18, u3_ne _ _ _ z17]; exact B5 g z0 z4 z17
        have U := RwK.undone (r := u3 (u3 rr 17 0 w (if r.2 7 0 0 10 = 7 then 2 else 3)) 18 0 w (if r.2 7 0 0 10 = 7 then 0 else r.2 7 0 0 10)) o o' A.2.1 hwo g (fun k hk => by rw [u3_ne _ _ _ (by decide), u3_ne _ _ _ (by decide)]; exact B6 k hk) (fun j hj hl => by rw [u3_ne _ _ _ (by decide), u3_j hj]; exact B7 j hl)
        refine ⟨⟨F.2.2.2.2.2.2.1, (g 2 (by decide) (by decide) (by decide) (by decide)).trans ok.2.1, (g 3 (by decide) (by decide) (by decide) (by decide)).trans ok.2.2⟩, U, ?_, ?_⟩
        · rw [g 19 (by decide) (by decide) (by decide) (by decide), e19]; exact hb.1
        · rw [g 19 (by decide) (by decide) (by decide) (by decide), e19]; omega
theorem RwK.run0 {m : Cm} {w : Int32} : RwK w m (run0 m w) ∧ RwK w m (runF m w) := by
  unfold RwK
  refine ⟨?_, ?_⟩
  · rw [(run0_s m w (k := 11) (by decide)).1, (run0_s m w (k := 10) (by decide)).1, (run0_g m w (g := 15) (by decide)).1, (run0_g m w (g := 19) (by decide)).1, (run0_g m w (g := 16) (by decide)).1]
    exact ⟨Int.le_refl _, rfl, fun i i0 i1 => ⟨rfl, fun z => ⟨(run0_17 m w z).1.1, rfl, fun _ => rfl⟩⟩, fun i a b => by omega⟩
  · rw [(run0_s m w (k := 11) (by decide)).2, (run0_s m w (k := 10) (by decide)).2, (run0_g m w (g := 15) (by decide)).2, (run0_g m w (g := 19) (by decide)).2, (run0_g m w (g := 16) (by decide)).2]
    exact ⟨Int.le_refl _, rfl, fun i i0 i1 => ⟨rfl, fun z => ⟨(run0_17 m w z).2.1, rfl, fun _ => rfl⟩⟩, fun i a b => by omega⟩
end HIST
