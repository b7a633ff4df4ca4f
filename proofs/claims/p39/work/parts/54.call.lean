/-! called scripts -/
section OPS
variable {t x8 : Cm} {E : Int32 → Int32 → Prop} {L : Int} {w : Int32} {VA : Wm → Int32 → Int32 → Int32 × Wm} {M0 M : Wm} {m0 m1 : Cm} {d s P first : Int32}
/-- as Mid, but an expression is to be entered -/
def Mie (t x8 : Cm) (E : Int32 → Int32 → Prop) (L : Int) (w : Int32) (M0 : Wm) (m0 : Cm) (d : Int32) (M : Wm) (m : Cm) (s idx : Int32) : Prop := WR t x8 E L w M m ∧ NR t E M m ∧ (M 7 0 0 10 = 0 ∧ m 0 0 63 = 0) ∧ (¬ m 0 0 59 = 0 ∧ m 0 0 60 = s ∧ m 0 0 61 = idx ∧ m 0 0 45 = d + 1) ∧ HsA w M0 m0 M m ∧ Kp d m0 m ∧ (0 ≤ d.toInt ∧ d.toInt < 30) ∧ Us M0 M
theorem ent_c {idx : Int32} (hV : SimV t x8 E L w VA (d + 1)) (hM : Mie t x8 E L w M0 m0 d M m1 s idx) (hE : E s idx) (hsv : vp_in s 8) (hft : f12_faultOf m1 s = -1) (hc : (M 2 0 0 2).toInt ≤ 3 * d.toInt + 3) :
    (¬ (VA M (Pl s idx) (d + 1)).2 7 0 0 10 = 0 ∧ ∀ x : Int32, PostA t x8 E L w M0 m0 d (x, (VA M (Pl s idx) (d + 1)).2) m1) ∨
    ((VA M (Pl s idx) (d + 1)).2 7 0 0 10 = 0 ∧ ∃ m4, Mid t x8 E L w M0 m0 d (VA M (Pl s idx) (d + 1)).2 m4 ∧ m4 0 0 62 = (VA M (Pl s idx) (d + 1)).1 ∧ LvK d m1 m4 ∧ m4 33 0 d = m1 33 0 d + 1 ∧ m4 34 0 d = m1 34 0 d ∧ ((VA M (Pl s idx) (d + 1)).2 2 0 0 2 = M 2 0 0 2 ∧ (VA M (Pl s idx) (d + 1)).2 2 0 0 3 = M 2 0 0 3 ∧ Us M (VA M (Pl s idx) (d + 1)).2) ∧ (m4 2 = m1 2 ∧ m4 3 = m1 3) ∧ (AdvP m4 d → ∀ q, PostA t x8 E L w M0 m0 d q (f12_advance m4 d) → PostA t x8 E L w M0 m0 d q m1)) := by
  obtain ⟨h1, h2, ⟨h3, h3'⟩, ⟨h4, h4', h4'', h5⟩, h6, h7, h8, hU⟩ := hM
  obtain ⟨i1, i2, i3⟩ := lv_inc h8
  have pre : PreE t x8 E L w M m1 s idx (d + 1) := ⟨h1, h2, ⟨h3, h3'⟩, ⟨h4, h4', h4'', h5⟩, ⟨hsv, hft, hE⟩, by rw [i1]; omega⟩
  obtain ⟨m3, s1, s2, s3, s4, s5⟩ := hV _ _ _ _ pre
  have hA : HsA w M0 m0 (VA M (Pl s idx) (d + 1)).2 m3 := h6.trans s2
  by_cases ct : (VA M (Pl s idx) (d + 1)).2 7 0 0 10 = 0
  · right
    refine ⟨ct, ?_⟩
    obtain ⟨n1, ⟨n2, n3, n4, n5⟩, n6, n7, n8, n9⟩ := s4 ct
    have go : go12 m3 := ⟨n2, Or.inr (by rw [n4]; simp only [i32lt, t32_0]; omega)⟩
    have hl : m3 0 0 45 - 1 = d := by rw [n4]; exact i2
    have ok3 : Ok12 m3 := s3.2.2.2.2.2.2.1
    have ok4 : Ok12 (adv12 m3) := ok12_putA ok3 (by decide)
    have poA := PO.adv m3
    have cell : ∀ g : Nat, 31 ≤ g → g ≤ 45 → ¬ g = 43 → m3 g 0 d = m1 g 0 d := fun g a b c => n6 g a b d (by rw [if_neg c, i1]; omega)
    refine ⟨adv12 m3, ⟨s3.po poA ok4, n1.po poA, ⟨ct, n2⟩, ⟨n3, n4⟩, hA.po poA, ?_, h8, hU.trans n9⟩, n5, ⟨fun g a b c33 c34' c43 => ?_, fun k k0 k1 => ?_⟩, ?_, ?_, ⟨n7, n8, n9⟩, ?_, fun hP q hq => ?_⟩
    · exact (h7.trans (n6.mono (by omega))).trans (by unfold adv12; rw [hl]; exact Kp.l _ _ (by decide) (Int.le_refl _))
    · show u3 m3 33 0 _ _ g 0 d = _
      rw [u3_ne _ _ _ c33, cell g a b c43]
    · show u3 m3 33 0 _ _ 43 0 _ = _
      rw [u3_ne _ _ _ (by decide), n6 43 (by decide) (by decide) _ (by rw [if_pos rfl, idx3_t h8 k0 k1, i1]; omega)]
    · unfold adv12
      rw [hl, u3_at, cell 33 (by decide) (by decide) (by decide)]
    · show u3 m3 33 0 _ _ 34 0 d = _
      rw [u3_ne _ _ _ (by decide), cell 34 (by decide) (by decide) (by decide)]
    · have e2 : (adv12 m3) 2 = m3 2 ∧ (adv12 m3) 3 = m3 3 := ⟨u3_ne _ _ _ (by decide), u3_ne _ _ _ (by decide)⟩
      exact ⟨e2.1.trans s2.2.2.1.2.2.2.1, e2.2.trans s2.2.2.1.2.2.2.2⟩
    · have sp : StpP m3 := ⟨fun z => absurd n3 z, fun _ => ⟨ok3, by rw [hl]; exact hP⟩⟩
      have st := St.one go sp
      have e : stp12 m3 = f12_advance (adv12 m3) d := by unfold stp12; rw [if_pos n3, hl]
      rw [e] at st
      exact hq.st (s1.trans st)
  · left
    refine ⟨ct, fun x => ⟨m3, s1, hA, s3, fun z => absurd z ct, fun _ => s5 ct⟩⟩
theorem adv_call {m : Cm} (h : m 32 0 d = 22) : f12_advance m d = f12_runScript m d := by rw [adv_d h]; rfl
theorem AdvQ.call {m : Cm} (h : ¬ m 33 0 d = 0 → ¬ m 33 0 d = 1 → Tx12 m (m 41 0 d) ∧ Ix12 m (m 41 0 d) (m 34 0 d)) : AdvQ m d 22 :=
  ⟨fun h => absurd h (by decide), fun h => absurd h (by decide), fun h => absurd h (by decide), fun h => absurd h (by decide), fun h => absurd h (by decide), fun h => absurd h (by decide), fun _ => h, fun h => absurd h (by decide), fun h => absurd h (by decide)⟩
/-- entering an expression where the pile is -/
def entM (m : Cm) (s i : Int32) : Cm := u3 (u3 (u3 m 0 0 59 1) 0 0 60 s) 0 0 61 i
theorem Mid.ent {s' i : Int32} (hM : Mid t x8 E L w M0 m0 d M m1) (hs : vp_in s' 8) : Mie t x8 E L w M0 m0 d M (entM m1 s' i) s' i := by
  obtain ⟨a1, a2, a3, a4, a5, a6, a7⟩ := hM
  have po : PO m1 (entM m1 s' i) := ((PO.s m1 1 rfl).trans (PO.s _ _ rfl)).trans (PO.s _ _ rfl)
  have ok : Ok12 (entM m1 s' i) := ok12_put0 (okT_s60 (m0 := m1) (okT_put0 ⟨a1.2.2.2.2.2.2.1, rfl, rfl⟩ (by decide)) hs).1 (by decide)
  exact ⟨a1.po po ok, a2.po po, ⟨a3.1, a3.2⟩, ⟨by show ¬ (1 : Int32) = 0; decide, rfl, rfl, a4.2⟩, a5.po po, a6.trans ((((Kp.s d m1 59 1)).trans (Kp.s _ _ _ _)).trans (Kp.s _ _ _ _)), a7⟩
theorem entM_g (m : Cm) (s i : Int32) {g : Nat} (h : ¬ g = 0) : entM m s i g = m g := by
  unfold entM; rw [u3_ne _ _ _ h, u3_ne _ _ _ h, u3_ne _ _ _ h]
/-- the scripts' own expressions -/
theorem TreeOk.root (hk : Ok12 m0) {p : Int32} (hp : vp_in p 8) (hX : Tx12 m0 p) (hT : TreeOk t m0 p (E p)) : f9_partsOf t (Pl p 120) = t 3 0 (Pl p 120) ∧ (t 3 0 (Pl p 120)).toInt = (CN12 m0 p (f12_nextAt m0 p 0) : Int) ∧ ∀ j : Int32, 0 ≤ j.toInt → f9_partOf t (Pl p 120) j = Px p (skp12 m0 p j.toInt.toNat (f12_nextAt m0 p 0)) := by
  obtain ⟨a, b, c⟩ := Pl_in hp (i := 120) (by decide) (by decide)
  refine ⟨parts_e hp (by decide) (by decide), hT.1.2.2, fun j hj => part_e hk hp hX hT hT.1.2 hT.1.1 a b hj⟩
theorem rowOf_e (p : Int32) : f9_rowOf p = Pl p 120 := rfl
/-- what a called script's row does -/
theorem crow_c {p c bs b0 : Int32} {G : Int32 × Wm → Int32 × Wm} (hV : SimV t x8 E L w VA (d + 1)) (hk0 : Ok12 m0) (hp : vp_in p 8) (hX : Tx12 m0 p) (hft : f12_faultOf m0 p = -1) (hT : TreeOk t m0 p (E p)) {s first : Int32} (hsx : Tx12 m0 s)
    (herr : ∀ (x : Int32) (M' : Wm) (mA : Cm), PostA t x8 E L w M0 m0 d (x, M') mA → ¬ M' 7 0 0 10 = 0 → PostA t x8 E L w M0 m0 d (G (x, M')) mA)
    (hend : ∀ (M' : Wm) (m4 : Cm), Mid t x8 E L w M0 m0 d M' m4 → M' 2 0 0 2 = c → M' 2 0 0 3 = bs → PostA t x8 E L w M0 m0 d (G (m4 0 0 62, M')) (f12_finish (u3 m4 0 0 48 b0) (m4 0 0 62))) (hc : c.toInt ≤ 3 * d.toInt + 3) :
    ∀ (n k : Nat) (M : Wm) (m1 : Cm) (i idx last : Int32), CN12 m0 p idx = n → 1 ≤ n → E p idx → 0 ≤ i.toInt → i.toInt + n = (f9_partsOf t (Pl p 120)).toInt → n < k → Mie t x8 E L w M0 m0 d M m1 p idx → LvI m1 d s 22 first → 1 ≤ (m1 33 0 d).toInt → (m1 33 0 d).toInt + n ≤ 300 → m1 41 0 d = p → m1 34 0 d = idx → m1 39 0 d = b0 → M 2 0 0 2 = c → M 2 0 0 3 = bs → PostA t x8 E L w M0 m0 d (G (f7_valueOfRow_lp17 VA (Pl p 120) d k (i, Pl p idx, last, M))) m1 := by
  intro n
  induction n with
  | zero => intro k M m1 i idx last _ h; omega
  | succ n ih =>
    intro k M m1 i idx last hcn _ hE hi hpn hk hM hl hs0 hs1 h41 h34 h39 hM2 hM3
    cases k with
    | zero => omega
    | succ k =>
      have t1 : m1 2 = m0 2 ∧ m1 3 = m0 3 := ⟨hM.2.2.2.2.1.2.2.1.2.2.2.1, hM.2.2.2.2.1.2.2.1.2.2.2.2⟩
      have hEn := hT.2 idx hE
      have hI : Ix12 m0 p idx := hEn.1
      have hS := CN12_s hk0 hp hX hI
      rw [f7_valueOfRow_lp17_s]
      simp only [bnd]
      have e9 : f9_partsOf (M 9) (Pl p 120) = f9_partsOf t (Pl p 120) := by rw [hM.1.1.1]
      rw [if_neg (show ¬ f9_partsOf (M 9) (Pl p 120) ≤ i by rw [e9]; simp only [i32le]; omega), if_pos hM.2.2.1.1]
      rcases ent_c hV hM hE hp (by rw [faultOf_fr t1]; exact hft) (by rw [hM2]; exact hc) with ⟨x1, x2⟩ | ⟨x1, m4, y1, y2, y3, y4, y5, y6, y7, y8⟩
      · obtain ⟨v, hv⟩ := row_end (VA := VA) (P := Pl p 120) (d := d) x1 k (i + 1, f9_nextOf ((VA M (Pl p idx) (d + 1)).2 9) (Pl p idx), (VA M (Pl p idx) (d + 1)).1, (VA M (Pl p idx) (d + 1)).2) rfl
        rw [hv]
        exact herr _ _ _ (x2 v) x1
      · have t4 := y1.tx
        have l4 := hl.k y3
        obtain ⟨q1, q2⟩ := stp_inc (x := m1 33 0 d) (by omega) (by omega)
        have s4 : (m4 33 0 d).toInt = (m1 33 0 d).toInt + 1 := by rw [y4]; exact q1
        have n4 : ¬ m4 33 0 d = 0 := by rw [y4]; exact q2
        have n41 : ¬ m4 33 0 d = 1 := fun z => by rw [z, t32_1] at s4; omega
        have k41 : m4 41 0 d = p := (y3.1 41 (by decide) (by decide) (by decide) (by decide) (by decide)).trans h41
        have k39 : m4 39 0 d = b0 := (y3.1 39 (by decide) (by decide) (by decide) (by decide) (by decide)).trans h39
        have k34 : m4 34 0 d = idx := y5.trans h34
        refine y8 (AdvP.mk0 l4.1 l4.2.1 (hsx.fr t4) (AdvQ.call (fun _ _ => by rw [k41, k34]; exact ⟨hX.fr t4, hI.fr t4⟩))) _ ?_
        have en : f9_nextOf ((VA M (Pl p idx) (d + 1)).2 9) (Pl p idx) = Px p (f12_following m0 p idx) := by
          rw [y1.m9, next_e hp (hI.le hk0 hp).1 (hI.le hk0 hp).2]; exact hEn.2.2.1
        rw [en]
        have hi1 : (i + 1).toInt = i.toInt + 1 := inc_t hi (by have := (i32rng (f9_partsOf t (Pl p 120))).2; omega)
        have c4 : (VA M (Pl p idx) (d + 1)).2 2 0 0 2 = c := y6.1.trans hM2
        have b4 : (VA M (Pl p idx) (d + 1)).2 2 0 0 3 = bs := y6.2.1.trans hM3
        have a2 : f12_advance m4 d = if f12_following m0 p idx = -1 then f12_finish (u3 (u3 m4 34 0 d (f12_following m0 p idx)) 0 0 48 b0) (m4 0 0 62) else entM (u3 m4 34 0 d (f12_following m0 p idx)) p (f12_following m0 p idx) := by
          rw [adv_call l4.2.1]; unfold f12_runScript; simp only [bnd_e]
          rw [if_neg n4, if_neg n41, k41, k34, following_fr t4, u3_at, k39]; rfl
        rw [a2]
        have ok5 : Ok12 (u3 m4 34 0 d (f12_following m0 p idx)) := ok12_putA y1.ok (by decide)
        have M5 := y1.lv (f12_following m0 p idx) (g := 34) rfl (by decide) (by decide) ok5
        by_cases cf : f12_following m0 p idx = -1
        · have hn0 : n = 0 := by rw [cf, CN12_none] at hS; omega
          rw [if_pos cf]
          have e := hend _ _ M5 c4 b4
          rw [cf, Px_m]
          rw [cf] at e
          cases k with
          | zero => omega
          | succ k =>
            rw [f7_valueOfRow_lp17_s]
            simp only [bnd]
            rw [if_pos (show f9_partsOf ((VA M (Pl p idx) (d + 1)).2 9) (Pl p 120) ≤ i + 1 by rw [y1.m9]; simp only [i32le]; omega), ← y2]
            exact e
        · rw [if_neg cf, Px_e cf]
          have hE2 := hEn.2.1.resolve_left cf
          have hpos : 1 ≤ n := by
            have := CN12_s hk0 hp hX (hT.2 _ hE2).1; omega
          refine ih k _ _ (i + 1) _ _ (by omega) hpos hE2 (by omega) (by omega) (by omega) (M5.ent hp) ?_ ?_ ?_ ?_ ?_ ?_ c4 b4
          · exact ⟨by rw [entM_g _ _ _ (by decide), u3_ne _ _ _ (by decide)]; exact l4.1, by rw [entM_g _ _ _ (by decide), u3_ne _ _ _ (by decide)]; exact l4.2.1, by rw [entM_g _ _ _ (by decide), u3_ne _ _ _ (by decide)]; exact l4.2.2⟩
          · rw [entM_g _ _ _ (by decide), u3_ne _ _ _ (by decide)]; omega
          · rw [entM_g _ _ _ (by decide), u3_ne _ _ _ (by decide)]; omega
          · rw [entM_g _ _ _ (by decide), u3_ne _ _ _ (by decide)]; exact k41
          · rw [entM_g _ _ _ (by decide), u3_at]
          · rw [entM_g _ _ _ (by decide), u3_ne _ _ _ (by decide)]; exact k39
end OPS
