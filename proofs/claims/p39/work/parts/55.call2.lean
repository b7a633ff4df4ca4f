/-! call -/
section OPS
variable {t x8 : Cm} {E : Int32 → Int32 → Prop} {L : Int} {w : Int32} {VA : Wm → Int32 → Int32 → Int32 × Wm} {M0 M : Wm} {m0 m1 : Cm} {d s P first : Int32}
theorem Mid.setBase {n' : Cm} {b : Int32} (hM : Mid t x8 E L w M0 m0 d M m1) (hn2 : n' 0 0 2 = M 2 0 0 2) (hn3 : n' 0 0 3 = b) (h0 : 0 ≤ b.toInt) (hT : b.toInt ≤ (M 2 0 0 2).toInt) (e1 : n' 1 = M 2 1) (e2 : n' 2 = M 2 2) (e6 : n' 0 0 6 = M 2 0 0 6) (e5 : n' 5 = M 2 5) (e6' : n' 6 = M 2 6) : Mid t x8 E L w M0 m0 d (uW M 2 n') (u3 m1 0 0 48 b) := by
  have hN := hM.2.1
  obtain ⟨a, _, c, e, f, g⟩ := hN.1
  have ok : Ok12 (u3 m1 0 0 48 b) := (okT_s48 (m0 := m1) ⟨hM.ok, rfl, rfl⟩ h0).1
  refine hM.no (NO.s m1 b rfl) ok ⟨?_, ?_⟩
  · show RelB2 n' _
    refine ⟨hn2.trans a, hn3, by rw [hn3]; exact h0, by rw [hn3, hn2]; exact hT, by rw [hn2]; exact f, fun j h1 h2 => ?_⟩
    rw [e1, e2]
    exact g j h1 (by rw [hn2] at h2; exact h2)
  · show RelFn t E n' _
    exact hN.2.fr e6 e5 e6' rfl ⟨rfl, rfl⟩ rfl rfl rfl rfl rfl
theorem Mid.s62 (hM : Mid t x8 E L w M0 m0 d M m1) (x : Int32) : Mid t x8 E L w M0 m0 d M (u3 m1 0 0 62 x) := by
  have po : PO m1 (u3 m1 0 0 62 x) := PO.s m1 x rfl
  have ok : Ok12 (u3 m1 0 0 62 x) := ok12_put0 hM.ok (by decide)
  obtain ⟨a1, a2, a3, a4, a5, a6, a7⟩ := hM
  exact ⟨a1.po po ok, a2.po po, a3, a4, a5.po po, a6.trans (Kp.s _ _ _ _), a7⟩
theorem script_0 {M' : Wm} (h : ¬ M' 7 0 0 10 = 0) (a b : Int32) : f7_valueOfScript VA M' a b = (0, M') := by unfold f7_valueOfScript; rw [if_neg h]
theorem LvI.g {m m' : Cm} {op : Int32} (h : LvI m d s op first) (e31 : m' 31 = m 31) (e32 : m' 32 = m 32) (e35 : m' 35 = m 35) : LvI m' d s op first := ⟨by rw [e31]; exact h.1, by rw [e32]; exact h.2.1, by rw [e35]; exact h.2.2⟩
theorem call_c (hV : SimV t x8 E L w VA (d + 1)) (hL : LsC t E m0 s P first) (hTx : TextR t x8 m0 E) (hn : 1 ≤ CN12 m0 s first) (hM : Mid t x8 E L w M0 m0 d M m1) (hl : LvI m1 d s 22 first) (l33 : m1 33 0 d = 0) (hc : (M 2 0 0 2).toInt ≤ 3 * d.toInt + 3) (hb : M 2 0 0 2 = M0 2 0 0 2 ∧ M 2 0 0 3 = M0 2 0 0 3) :
    PostA t x8 E L w M0 m0 d (f7_valueOfScript VA (f7_valueOfPart VA M P 1 d).2 (f7_valueOfPart VA M P 1 d).1 d) (f12_advance m1 d) := by
  have E1 : E s first := hL.e 0 (by omega)
  have P1 : f9_partOf t P 1 = Pl s first := hL.p 0 (by omega) 1 (by decide)
  have a1 : f12_advance m1 d = f12_valueNext m1 d first := by
    rw [adv_call hl.2.1]; unfold f12_runScript; simp only [bnd_e]
    rw [if_pos l33, hl.2.2]
  rw [a1]
  rcases next_p hV hL hM hl E1 P1 hc with ⟨x1, x2⟩ | ⟨x1, m4, y1, y2, y3, y4, y5, y6, y7, y8⟩
  · rw [script_0 x1]; exact x2 _
  · have t4 := y1.tx
    have s4 : m4 33 0 d = 1 := by rw [y4, l33]; rfl
    refine y8 (AdvP.mk0 y7.1 y7.2.1 (hL.1.2.2.2.1.fr t4) (AdvQ.call (fun _ z => absurd s4 z))) _ ?_
    have b4 := And.intro (y6.1.trans hb.1) (y6.2.1.trans hb.2)
    generalize hp : (f7_valueOfPart VA M P 1 d).1 = p at y2 ⊢
    have c4' : ((f7_valueOfPart VA M P 1 d).2 2 0 0 2).toInt ≤ 3 * d.toInt + 3 := by rw [y6.1]; exact hc
    generalize (f7_valueOfPart VA M P 1 d).2 = N at x1 y1 y6 b4 c4' ⊢
    have hbs := y1.2.1.1
    have a2 : f12_advance m4 d = if f12_isScript p = true then (if f12_faultOf m0 p = -1 then (if f12_nextAt m0 p 0 = -1 then f12_finish (u3 (u3 (u3 (u3 (u3 (u3 m4 41 0 d p) 39 0 d (m4 0 0 48)) 0 0 48 (m4 0 0 49)) 34 0 d (f12_nextAt m0 p 0)) 0 0 62 0) 0 0 48 (m4 0 0 48)) 0 else entM (u3 (u3 (u3 (u3 (u3 m4 41 0 d p) 39 0 d (m4 0 0 48)) 0 0 48 (m4 0 0 49)) 34 0 d (f12_nextAt m0 p 0)) 0 0 62 0) p (f12_nextAt m0 p 0)) else u3 m4 0 0 63 6) else u3 m4 0 0 63 6 := by
      rw [adv_call y7.2.1]; unfold f12_runScript; simp only [bnd_e]
      rw [if_neg (by rw [s4]; decide), if_pos s4, y2, faultOf_fr t4]
      have t26 : (u3 (u3 (u3 m4 41 0 d p) 39 0 d (m4 0 0 48)) 0 0 48 (m4 0 0 49)) 2 = m0 2 ∧ (u3 (u3 (u3 m4 41 0 d p) 39 0 d (m4 0 0 48)) 0 0 48 (m4 0 0 49)) 3 = m0 3 := ⟨by rw [u3_ne _ _ _ (by decide), u3_ne _ _ _ (by decide), u3_ne _ _ _ (by decide)]; exact t4.1, by rw [u3_ne _ _ _ (by decide), u3_ne _ _ _ (by decide), u3_ne _ _ _ (by decide)]; exact t4.2⟩
      rw [nextAt_fr t26, u3_at, u3_at, u3_at]; rfl
    rw [a2]
    unfold f7_valueOfScript
    rw [if_pos x1]
    simp only [bnd_e]
    rw [isIn_e12, isScript_e, y1.1.1.2]
    by_cases c1 : f12_in p 0 7 = true
    · rw [if_pos c1, if_pos c1]
      have hpv : vp_in p 8 := in_in (c := 7) c1 (by decide)
      have ef : f8_faultOf x8 p = f12_faultOf m0 p := (hTx p hpv).1.1
      rw [ef]
      by_cases c2 : f12_faultOf m0 p = -1
      · rw [if_pos c2, if_pos c2]
        have hk0 := hL.1.2.2.2.2
        have hX : Tx12 m0 p := faultOf_T hk0 hpv c2
        have hT := (hTx p hpv).2 c2
        obtain ⟨rt1, rt2, rt3⟩ := hT.root hk0 hpv hX
        -- the state when the row begins
        have M5 := y1.lv p (g := 41) rfl (by decide) (by decide) (okT_g41 (m0 := m4) ⟨y1.ok, rfl, rfl⟩ hpv).1
        have M6 := M5.lv (m4 0 0 48) (g := 39) rfl (by decide) (by decide) (okT_g39 (m0 := m4) (okT_g41 ⟨y1.ok, rfl, rfl⟩ hpv) ⟨y1.ok.b0, (i32rng _).2⟩).1
        have cnt0 : 0 ≤ (N 2 0 0 2).toInt := by have := hbs.2.2.1; have := hbs.2.2.2.1; omega
        have M7 := M6.setBase (n' := (f2_enter (N 2)).2) (b := m4 0 0 49) rfl (by rw [← hbs.1]; rfl) (by rw [← hbs.1]; exact cnt0) (by rw [← hbs.1]; exact Int.le_refl _) rfl rfl rfl rfl rfl
        have M8 := M7.lv (f12_nextAt m0 p 0) (g := 34) rfl (by decide) (by decide) (ok12_putA M7.ok (by decide))
        have M9 := M8.s62 0
        have hcN : (f2_enter (N 2)).2 0 0 2 = N 2 0 0 2 := rfl
        have hbN : (f2_enter (N 2)).2 0 0 3 = N 2 0 0 2 := rfl
        have hrow : f7_valueOfRow VA (uW N 2 (f2_enter (N 2)).2) (f9_rowOf p) 0 d = f7_valueOfRow_lp17 VA (Pl p 120) d (2147483648 + 0 * (Pl p 120).toInt.toNat) (0, Px p (f12_nextAt m0 p 0), 0, uW N 2 (f2_enter (N 2)).2) := by
          unfold f7_valueOfRow
          simp only [bnd_e]
          rw [rowOf_e, show (uW N 2 (f2_enter (N 2)).2) 9 = t from y1.m9, rt3 0 (by decide)]; rfl
        rw [hrow]
        have leave : ∀ (M' : Wm) (m5 : Cm), Mid t x8 E L w M0 m0 d M' m5 → M' 2 0 0 2 = N 2 0 0 2 → M' 2 0 0 3 = N 2 0 0 2 → PostA t x8 E L w M0 m0 d (m5 0 0 62, uW M' 2 (f2_leave (M' 2) (f2_enter (N 2)).1)) (f12_finish (u3 m5 0 0 48 (m4 0 0 48)) (m5 0 0 62)) := by
          intro M' m5 h5 kc kb
          have h6 := h5.setBase (n' := f2_leave (M' 2) (f2_enter (N 2)).1) (b := m4 0 0 48) (by show M' 2 0 0 3 = _; rw [kb, kc]) (by rw [← hbs.2.1]; rfl) (by rw [← hbs.2.1]; exact hbs.2.2.1) (by rw [kc, ← hbs.2.1]; exact hbs.2.2.2.1) rfl rfl rfl rfl rfl
          refine fin_c h6 ⟨?_, ?_⟩
          · show M' 2 0 0 3 = _; rw [kb]; exact b4.1
          · show N 2 0 0 3 = _; exact b4.2
        have hlt := CN12_lt hk0 hpv hX (hT.1.1.nx hT)
        by_cases c3 : f12_nextAt m0 p 0 = -1
        · rw [if_pos c3]
          have hz : (t 3 0 (Pl p 120)).toInt = 0 := by rw [rt2, c3, CN12_none]; rfl
          have e0 : f7_valueOfRow_lp17 VA (Pl p 120) d (2147483648 + 0 * (Pl p 120).toInt.toNat) (0, Px p (f12_nextAt m0 p 0), 0, uW N 2 (f2_enter (N 2)).2) = (0, uW N 2 (f2_enter (N 2)).2) := by
            have : ∀ k : Nat, 1 ≤ k → f7_valueOfRow_lp17 VA (Pl p 120) d k (0, Px p (f12_nextAt m0 p 0), 0, uW N 2 (f2_enter (N 2)).2) = (0, uW N 2 (f2_enter (N 2)).2) := by
              intro k hk
              cases k with
              | zero => omega
              | succ k =>
                rw [f7_valueOfRow_lp17_s]
                simp only [bnd_e]
                rw [if_pos]
                show f9_partsOf ((uW N 2 (f2_enter (N 2)).2) 9) (Pl p 120) ≤ 0
                rw [show (uW N 2 (f2_enter (N 2)).2) 9 = t from y1.m9, rt1]
                simp only [i32le, t32_0]; omega
            exact this _ (by omega)
          rw [e0]
          exact leave _ _ M9 hcN hbN
        · rw [if_neg c3, Px_e c3]
          have hE := hT.1.1.resolve_left c3
          have hpos : 1 ≤ CN12 m0 p (f12_nextAt m0 p 0) := by
            have := CN12_s hk0 hpv hX (hT.2 _ hE).1; omega
          refine crow_c (G := fun r => (r.1, uW r.2 2 (f2_leave (r.2 2) (f2_enter (N 2)).1))) (c := N 2 0 0 2) (bs := N 2 0 0 2) (b0 := m4 0 0 48) (s := s) (first := first) hV hk0 hpv hX c2 hT hL.1.2.2.2.1 (fun x M' mA h ht => h.err2 ht _) leave c4' _ _ _ _ 0 _ 0 rfl hpos hE (by decide) ?_ ?_ (M9.ent hpv) ?_ ?_ ?_ ?_ ?_ ?_ hcN hbN
          · rw [rt1, rt2, t32_0]; omega
          · show _ < 2147483648 + 0 * _; omega
          · exact y7.g (by rw [entM_g _ _ _ (by decide), u3_ne _ _ _ (by decide), u3_ne _ _ _ (by decide), u3_ne _ _ _ (by decide), u3_ne _ _ _ (by decide), u3_ne _ _ _ (by decide)]) (by rw [entM_g _ _ _ (by decide), u3_ne _ _ _ (by decide), u3_ne _ _ _ (by decide), u3_ne _ _ _ (by decide), u3_ne _ _ _ (by decide), u3_ne _ _ _ (by decide)]) (by rw [entM_g _ _ _ (by decide), u3_ne _ _ _ (by decide), u3_ne _ _ _ (by decide), u3_ne _ _ _ (by decide), u3_ne _ _ _ (by decide), u3_ne _ _ _ (by decide)])
          · rw [entM_g _ _ _ (by decide), u3_ne _ _ _ (by decide), u3_ne _ _ _ (by decide), u3_ne _ _ _ (by decide), u3_ne _ _ _ (by decide), u3_ne _ _ _ (by decide), s4]; decide
          · rw [entM_g _ _ _ (by decide), u3_ne _ _ _ (by decide), u3_ne _ _ _ (by decide), u3_ne _ _ _ (by decide), u3_ne _ _ _ (by decide), u3_ne _ _ _ (by decide), s4, t32_1]; omega
          · rw [entM_g _ _ _ (by decide), u3_ne _ _ _ (by decide), u3_ne _ _ _ (by decide), u3_ne _ _ _ (by decide), u3_ne _ _ _ (by decide), u3_at]
          · rw [entM_g _ _ _ (by decide), u3_ne _ _ _ (by decide), u3_at]
          · rw [entM_g _ _ _ (by decide), u3_ne _ _ _ (by decide), u3_ne _ _ _ (by decide), u3_ne _ _ _ (by decide), u3_at]
      · rw [if_neg c2, if_neg c2]; exact err_c y1 (by decide)
    · rw [if_neg c1, if_neg c1]; exact err_c y1 (by decide)
end OPS
