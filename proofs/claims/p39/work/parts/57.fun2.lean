/-! functions: the body, the values -/
section OPS
variable {t x8 : Cm} {E : Int32 → Int32 → Prop} {L : Int} {w : Int32} {VA : Wm → Int32 → Int32 → Int32 × Wm} {M0 M : Wm} {m0 m1 : Cm} {d s P first : Int32}
/-- a function as a list on the pile keeps it -/
def FnK (t : Cm) (E : Int32 → Int32 → Prop) (m0 m : Cm) (d r1 r3 : Int32) (cN : Nat) (bs bi : Int32) : Prop := m 42 0 d = nI cN ∧ cN ≤ 3 ∧ f9_partsOf t r3 = nI cN ∧ (∀ k : Nat, k < cN → ¬ f9_partOf t r3 (nI k) = -1 ∧ f9_contentOf t (f9_partOf t r3 (nI k)) = m 43 0 (3 * d + nI k)) ∧ (m 44 0 d = bs ∧ m 45 0 d = bi) ∧ f9_partOf t r1 3 = Pl bs bi ∧ vp_in bs 8 ∧ f12_faultOf m0 bs = -1 ∧ E bs bi
theorem FnK.k {m m' : Cm} {r1 r3 bs bi : Int32} {cN : Nat} (h : FnK t E m0 m d r1 r3 cN bs bi) (k : LvK d m m') : FnK t E m0 m' d r1 r3 cN bs bi := by
  obtain ⟨a, b, c, e, f, g⟩ := h
  refine ⟨(k.1 42 (by decide) (by decide) (by decide) (by decide) (by decide)).trans a, b, c, fun j hj => ⟨(e j hj).1, ?_⟩, ⟨(k.1 44 (by decide) (by decide) (by decide) (by decide) (by decide)).trans f.1, (k.1 45 (by decide) (by decide) (by decide) (by decide) (by decide)).trans f.2⟩, g⟩
  rw [k.2 (nI j) (by rw [nI_toInt (by omega)]; omega) (by rw [nI_toInt (by omega)]; omega)]; exact (e j hj).2
theorem FnK.g {m m' : Cm} {r1 r3 bs bi : Int32} {cN : Nat} (h : FnK t E m0 m d r1 r3 cN bs bi) (e42 : m' 42 = m 42) (e43 : m' 43 = m 43) (e44 : m' 44 = m 44) (e45 : m' 45 = m 45) : FnK t E m0 m' d r1 r3 cN bs bi := by
  unfold FnK; rw [e42, e43, e44, e45]; exact h
theorem body_c {r1 r3 bs bi p q r : Int32} {cN : Nat} {m4 : Cm} (hV : SimV t x8 E L w VA (d + 1)) (hsx : Tx12 m0 s) (hy : Mid t x8 E L w M0 m0 d M m4) (hl : LvI m4 d s 26 first) (hF : FnK t E m0 m4 d r1 r3 cN bs bi) (l33 : m4 33 0 d = nI cN) (h0 : 0 < cN → kpt m4 d 36 0 d = p) (h1 : 1 < cN → kpt m4 d 37 0 d = q) (h2 : 2 < cN → kpt m4 d 38 0 d = r) (hc : (M 2 0 0 2).toInt ≤ 3 * d.toInt) (hb : M 2 0 0 2 = M0 2 0 0 2 ∧ M 2 0 0 3 = M0 2 0 0 3) (hx0 : H0 VA) :
    PostA t x8 E L w M0 m0 d (fnT VA M r1 r3 d p q r) (f12_advance m4 d) := by
  have hd := hy.2.2.2.2.2.2.1
  have K1 := hy.kpt
  have g : ∀ g : Nat, (¬ g = 36 ∧ ¬ g = 37 ∧ ¬ g = 38) → kpt m4 d g = m4 g := fun g hg => kpt_g m4 d hg
  have hbs := hy.2.1.1
  have cnt0 : 0 ≤ (M 2 0 0 2).toInt := by have := hbs.2.2.1; have := hbs.2.2.2.1; omega
  have M2 := K1.lv (m4 0 0 48) (g := 39) rfl (by decide) (by decide) (okT_g39 (m0 := kpt m4 d) ⟨K1.ok, rfl, rfl⟩ ⟨hy.ok.b0, (i32rng _).2⟩).1
  have M3 := M2.lv (m4 0 0 49) (g := 40) rfl (by decide) (by decide) (okT_g40 (m0 := u3 (kpt m4 d) 39 0 d (m4 0 0 48)) ⟨M2.ok, rfl, rfl⟩ ⟨hy.ok.t0, hy.ok.t1⟩).1
  have M4 := M3.setBase (n' := (f2_enter (M 2)).2) (b := m4 0 0 49) rfl (by rw [← hbs.1]; rfl) (by rw [← hbs.1]; exact cnt0) (by rw [← hbs.1]; exact Int.le_refl _) rfl rfl rfl rfl rfl
  generalize hm5 : u3 (u3 (u3 (kpt m4 d) 39 0 d (m4 0 0 48)) 40 0 d (m4 0 0 49)) 0 0 48 (m4 0 0 49) = m5 at M4
  have g5 : ∀ g : Nat, (¬ g = 0 ∧ ¬ g = 39 ∧ ¬ g = 40) → m5 g = kpt m4 d g := by
    intro g hg; rw [← hm5, u3_ne _ _ _ hg.1, u3_ne _ _ _ hg.2.2, u3_ne _ _ _ hg.2.1]
  have e42 : m5 42 0 d = nI cN := by rw [g5 42 (by decide), g 42 (by decide)]; exact hF.1
  have hcN := hF.2.1
  have ecnt : ((f2_enter (M 2)).2 0 0 2).toInt = (M 2 0 0 2).toInt := rfl
  have B := M4.binds (fun k => m5 43 0 (3 * d + nI k)) (fun k => if k = 0 then m5 36 0 d else if k = 1 then m5 37 0 d else m5 38 0 d) cN (by rw [ecnt]; omega)
  have bc := bC_c (fun k => m5 43 0 (3 * d + nI k)) (fun k => if k = 0 then m5 36 0 d else if k = 1 then m5 37 0 d else m5 38 0 d) cN (f2_enter (M 2)).2 (by rw [ecnt]; exact cnt0) (by rw [ecnt]; omega)
  have cls := binds_cls (t := t) (N := M) (n := (f2_enter (M 2)).2) (r3 := r3) (p := p) (q := q) (r := r) (nm := fun k => m5 43 0 (3 * d + nI k)) (vl := fun k => if k = 0 then m5 36 0 d else if k = 1 then m5 37 0 d else m5 38 0 d) hy.m9 hcN hF.2.2.1 (fun k hk => ⟨(hF.2.2.2.1 k hk).1, by
      show _ = m5 43 0 _
      rw [g5 43 (by decide), g 43 (by decide)]; exact (hF.2.2.2.1 k hk).2⟩) (fun z => by show m5 36 0 d = p; rw [g5 36 (by decide)]; exact h0 z) (fun z => by show m5 37 0 d = q; rw [g5 37 (by decide)]; exact h1 z) (fun z => by show m5 38 0 d = r; rw [g5 38 (by decide)]; exact h2 z)
  unfold fnT
  rw [cls]
  generalize hnb : bC (fun k => m5 43 0 (3 * d + nI k)) (fun k => if k = 0 then m5 36 0 d else if k = 1 then m5 37 0 d else m5 38 0 d) cN (f2_enter (M 2)).2 = nb at B bc ⊢
  have a1 : f12_advance m4 d = entM (bR (fun k => m5 43 0 (3 * d + nI k)) (fun k => if k = 0 then m5 36 0 d else if k = 1 then m5 37 0 d else m5 38 0 d) cN m5) bs bi := by
    rw [adv_apply hl.2.1]
    have e : f12_apply m4 d = (if m4 42 0 d ≤ m4 33 0 d then if m4 33 0 d = m4 42 0 d then jn (fun (y41 : Cm) => entM y41 (y41 44 0 d) (y41 45 0 d)) (fun K31 => f12_apply_lp166 d K31 5 (0, u3 (u3 (u3 (kpt m4 d) 39 0 d (m4 0 0 48)) 40 0 d (m4 0 0 49)) 0 0 48 (m4 0 0 49))) else f12_finish (u3 (u3 (kpt m4 d) 0 0 48 (m4 39 0 d)) 0 0 49 (m4 40 0 d)) (m4 0 0 62) else f12_valueNext (kpt m4 d) d (if m4 33 0 d = 0 then m4 35 0 d else f12_following (kpt m4 d) (m4 31 0 d) (m4 34 0 d))) := by
      unfold f12_apply kpt
      simp only [bnd_e]
      by_cases c1 : m4 33 0 d = 1
      · simp only [jn, if_pos c1]
        by_cases c2 : m4 33 0 d = 2
        · rw [c1] at c2; exact absurd c2 (by decide)
        · simp only [if_neg c2]
          by_cases c3 : m4 33 0 d = 3
          · rw [c1] at c3; exact absurd c3 (by decide)
          · simp only [if_neg c3]
            by_cases c4 : m4 33 0 d = 0
            · rw [c1] at c4; exact absurd c4 (by decide)
            · simp only [if_neg c4]; rfl
      · simp only [jn, if_neg c1]
        by_cases c2 : m4 33 0 d = 2
        · simp only [if_pos c2]
          by_cases c3 : m4 33 0 d = 3
          · rw [c2] at c3; exact absurd c3 (by decide)
          · simp only [if_neg c3]
            by_cases c4 : m4 33 0 d = 0
            · rw [c2] at c4; exact absurd c4 (by decide)
            · simp only [if_neg c4]; rfl
        · simp only [if_neg c2]
          by_cases c3 : m4 33 0 d = 3
          · simp only [if_pos c3]
            by_cases c4 : m4 33 0 d = 0
            · rw [c3] at c4; exact absurd c4 (by decide)
            · simp only [if_neg c4]; rfl
          · simp only [if_neg c3]
            by_cases c4 : m4 33 0 d = 0
            · simp only [if_pos c4]; rfl
            · simp only [if_neg c4]; rfl
    rw [e, l33, hF.1, if_pos (Int32.le_refl _), if_pos rfl, hm5]
    simp only [jn]
    rw [binds_lp e42 hcN]
    have G := (bR_g (fun k => m5 43 0 (3 * d + nI k)) (fun k => if k = 0 then m5 36 0 d else if k = 1 then m5 37 0 d else m5 38 0 d) cN m5).1
    rw [G 44 rfl, G 45 rfl, g5 44 (by decide), g5 45 (by decide), g 44 (by decide), g 45 (by decide), hF.2.2.2.2.1.1, hF.2.2.2.2.1.2]
  rw [a1]
  have G := (bR_g (fun k => m5 43 0 (3 * d + nI k)) (fun k => if k = 0 then m5 36 0 d else if k = 1 then m5 37 0 d else m5 38 0 d) cN m5).1
  have tB := B.tx
  generalize hmb : bR (fun k => m5 43 0 (3 * d + nI k)) (fun k => if k = 0 then m5 36 0 d else if k = 1 then m5 37 0 d else m5 38 0 d) cN m5 = mb at B G tB
  obtain ⟨f1, f2, f3, f4, f5, f6, f7, f8, f9⟩ := hF
  have Be := B.ent (s' := bs) (i := bi) f7
  have pv : f7_valueOfPart VA (uW M 2 nb) r1 3 d = VA (uW M 2 nb) (Pl bs bi) (d + 1) := by
    rw [vp_e B.1, f6]
  rw [pv]
  have ecn : (uW M 2 nb) 2 0 0 2 = nb 0 0 2 := rfl
  rcases ent_c hV Be f9 f7 (by rw [faultOf_fr (m' := entM mb bs bi) (m := m0) ⟨by rw [entM_g _ _ _ (by decide)]; exact tB.1, by rw [entM_g _ _ _ (by decide)]; exact tB.2⟩]; exact f8) (by rw [ecn, bc.1, ecnt]; omega) with ⟨x1, x2⟩ | ⟨x1, m6, y1, y2, y3, y4, y5, y6, y7, y8⟩
  · exact (x2 0).err2 x1 _
  · have t6 := y1.tx
    have eg : ∀ g : Nat, ng g = false → ¬ g = 0 → (¬ g = 39 ∧ ¬ g = 40) → (¬ g = 36 ∧ ¬ g = 37 ∧ ¬ g = 38) → entM mb bs bi g = m4 g := by
      intro g h1 h2 h3 h4
      rw [entM_g _ _ _ h2, G g h1, g5 g ⟨h2, h3⟩, kpt_g _ _ h4]
    have l6 : LvI m6 d s 26 first := (hl.g (m' := entM mb bs bi) (eg 31 rfl (by decide) (by decide) (by decide)) (eg 32 rfl (by decide) (by decide) (by decide)) (eg 35 rfl (by decide) (by decide) (by decide))).k y3
    have c6 : m6 42 0 d = nI cN := by
      rw [y3.1 42 (by decide) (by decide) (by decide) (by decide) (by decide), eg 42 rfl (by decide) (by decide) (by decide)]; exact f1
    have b39 : m6 39 0 d = m4 0 0 48 := by
      rw [y3.1 39 (by decide) (by decide) (by decide) (by decide) (by decide), entM_g _ _ _ (by decide), G 39 rfl, ← hm5, u3_ne _ _ _ (by decide), u3_ne _ _ _ (by decide), u3_at]
    have b40 : m6 40 0 d = m4 0 0 49 := by
      rw [y3.1 40 (by decide) (by decide) (by decide) (by decide) (by decide), entM_g _ _ _ (by decide), G 40 rfl, ← hm5, u3_ne _ _ _ (by decide), u3_at]
    have tk : (nI cN : Int32).toInt = cN := nI_toInt (by omega)
    have s6 : (m6 33 0 d).toInt = cN + 1 := by
      rw [y4, eg 33 rfl (by decide) (by decide) (by decide), l33, inc_t (by omega) (by omega), tk]
    refine y8 (AdvP.mk0 l6.1 l6.2.1 (hsx.fr t6) (AdvQ.apply (fun z => absurd z (by rw [c6]; simp only [i32lt]; omega)) ?_)) _ ?_
    · have := y1.2.1.1
      rw [← this.1, y6.1, ecn, bc.1, ecnt]; omega
    · have a2 : f12_advance m6 d = f12_finish (u3 (u3 (kpt m6 d) 0 0 48 (m6 39 0 d)) 0 0 49 (m6 40 0 d)) (m6 0 0 62) := by
        rw [adv_apply l6.2.1]
        have nq : ¬ m6 33 0 d = m6 42 0 d := by rw [c6, i32eq]; omega
        have le : m6 42 0 d ≤ m6 33 0 d := by rw [c6]; simp only [i32le]; omega
        unfold f12_apply kpt
        simp only [bnd_e]
        by_cases c1 : m6 33 0 d = 1
        · simp only [jn, if_pos c1]
          by_cases c2 : m6 33 0 d = 2
          · rw [c1] at c2; exact absurd c2 (by decide)
          · simp only [if_neg c2]
            by_cases c3 : m6 33 0 d = 3
            · rw [c1] at c3; exact absurd c3 (by decide)
            · simp only [if_neg c3, if_pos le, if_neg nq]
        · simp only [jn, if_neg c1]
          by_cases c2 : m6 33 0 d = 2
          · simp only [if_pos c2]
            by_cases c3 : m6 33 0 d = 3
            · rw [c2] at c3; exact absurd c3 (by decide)
            · simp only [if_neg c3, if_pos le, if_neg nq]
          · simp only [if_neg c2]
            by_cases c3 : m6 33 0 d = 3
            · simp only [if_pos c3, if_pos le, if_neg nq]
            · simp only [if_neg c3, if_pos le, if_neg nq]
      rw [a2, b39, b40, y2]
      generalize hR : VA (uW M 2 nb) (Pl bs bi) (d + 1) = R at x1 y1 y2 y6 ⊢
      have kc : (R.2 2 0 0 2).toInt = (M 2 0 0 2).toInt + cN := by rw [y6.1, ecn, bc.1, ecnt]
      have kb : R.2 2 0 0 3 = M 2 0 0 2 := by rw [y6.2.1]; show nb 0 0 3 = _; rw [bc.2]; rfl
      have M7 := y1.kpt
      have M8 := M7.setBase (n' := u3 (R.2 2) 0 0 3 (M 2 0 0 3)) (b := m4 0 0 48) rfl (by rw [← hbs.2.1]; rfl) (by rw [← hbs.2.1]; exact hbs.2.2.1) (by rw [← hbs.2.1]; have := hbs.2.2.2.1; omega) rfl rfl rfl rfl rfl
      have M9 := M8.setTop (n' := f2_leave (R.2 2) (f2_enter (M 2)).1) (T := m4 0 0 49) (by show R.2 2 0 0 3 = _; rw [kb, hbs.1]) rfl (by rw [← hbs.1]; show (M 2 0 0 3).toInt ≤ _; exact hbs.2.2.2.1) (by rw [← hbs.1]; show _ ≤ (R.2 2 0 0 2).toInt; omega) rfl rfl rfl rfl rfl
      rw [uW_uW] at M9
      refine fin_c M9 ⟨?_, ?_⟩
      · show R.2 2 0 0 3 = _; rw [kb]; exact hb.1
      · show M 2 0 0 3 = _; exact hb.2
end OPS
